section
-- ===== PART A: goes FIRST, ahead of the names: the tables' words, and 'selects' of the private methods out of them =====
/-- a private method of a class that the tables say can be made, by its rows of tables_1 -/
def lw_okq (q : MethodName × Nat) : Prop := (q.1.cls ≠ "java/lang/invoke/MethodHandle" ∧ q.1.cls ≠ "java/lang/invoke/VarHandle") ∧ Cond.instantiable q.1.cls q.2 ∈ tables_1 ∧ Cond.privateMethod q.1 ∈ tables_1 ∧ Cond.instanceMethod q.1 ∈ tables_1
theorem lw_p0 : lw_okq (⟨"BoxballHall$Row", "clearTo", "(IIZ)V"⟩, 4) := ⟨⟨by decide +kernel, by decide +kernel⟩, List.mem_of_getElem? (i := 34) (by decide +kernel), List.mem_of_getElem? (i := 206) (by decide +kernel), List.mem_of_getElem? (i := 207) (by decide +kernel)⟩
theorem lw_p1 : lw_okq (⟨"BoxballHall$Row", "sumOfBalls", "()I"⟩, 4) := ⟨⟨by decide +kernel, by decide +kernel⟩, List.mem_of_getElem? (i := 34) (by decide +kernel), List.mem_of_getElem? (i := 260) (by decide +kernel), List.mem_of_getElem? (i := 261) (by decide +kernel)⟩
theorem lw_p2 : lw_okq (⟨"BoxballHall$Row", "countFilled", "()I"⟩, 4) := ⟨⟨by decide +kernel, by decide +kernel⟩, List.mem_of_getElem? (i := 34) (by decide +kernel), List.mem_of_getElem? (i := 272) (by decide +kernel), List.mem_of_getElem? (i := 273) (by decide +kernel)⟩
theorem lw_p3 : lw_okq (⟨"BoxballHall", "isTurnedBack", "()Z"⟩, 12) := ⟨⟨by decide +kernel, by decide +kernel⟩, List.mem_of_getElem? (i := 26) (by decide +kernel), List.mem_of_getElem? (i := 284) (by decide +kernel), List.mem_of_getElem? (i := 285) (by decide +kernel)⟩
theorem lw_p4 : lw_okq (⟨"BoxballHall$Carrier", "canPass", "(LBoxballHall$Row;IZ)Z"⟩, 2) := ⟨⟨by decide +kernel, by decide +kernel⟩, List.mem_of_getElem? (i := 91) (by decide +kernel), List.mem_of_getElem? (i := 288) (by decide +kernel), List.mem_of_getElem? (i := 289) (by decide +kernel)⟩
theorem lw_p5 : lw_okq (⟨"BoxballHall$Carrier", "goOver", "(LBoxballHall$Row;IIZ)I"⟩, 2) := ⟨⟨by decide +kernel, by decide +kernel⟩, List.mem_of_getElem? (i := 91) (by decide +kernel), List.mem_of_getElem? (i := 292) (by decide +kernel), List.mem_of_getElem? (i := 293) (by decide +kernel)⟩
theorem lw_p6 : lw_okq (⟨"BoxballHall$Row", "become", "(LBoxballHall$Row;)V"⟩, 4) := ⟨⟨by decide +kernel, by decide +kernel⟩, List.mem_of_getElem? (i := 34) (by decide +kernel), List.mem_of_getElem? (i := 302) (by decide +kernel), List.mem_of_getElem? (i := 303) (by decide +kernel)⟩
theorem lw_p7 : lw_okq (⟨"BoxballHall$Row", "takeCapacities", "([I)V"⟩, 4) := ⟨⟨by decide +kernel, by decide +kernel⟩, List.mem_of_getElem? (i := 34) (by decide +kernel), List.mem_of_getElem? (i := 306) (by decide +kernel), List.mem_of_getElem? (i := 307) (by decide +kernel)⟩
theorem lw_p8 : lw_okq (⟨"BoxballHall$Row", "takeBalls", "([I)V"⟩, 4) := ⟨⟨by decide +kernel, by decide +kernel⟩, List.mem_of_getElem? (i := 34) (by decide +kernel), List.mem_of_getElem? (i := 310) (by decide +kernel), List.mem_of_getElem? (i := 311) (by decide +kernel)⟩
theorem lw_p9 : lw_okq (⟨"BoxballHall$Row", "hasBallsOf", "(LBoxballHall$Row;)Z"⟩, 4) := ⟨⟨by decide +kernel, by decide +kernel⟩, List.mem_of_getElem? (i := 34) (by decide +kernel), List.mem_of_getElem? (i := 315) (by decide +kernel), List.mem_of_getElem? (i := 316) (by decide +kernel)⟩
theorem lw_p10 : lw_okq (⟨"BoxballHall", "areWavesSound", "()Z"⟩, 12) := ⟨⟨by decide +kernel, by decide +kernel⟩, List.mem_of_getElem? (i := 26) (by decide +kernel), List.mem_of_getElem? (i := 319) (by decide +kernel), List.mem_of_getElem? (i := 320) (by decide +kernel)⟩
theorem lw_p11 : lw_okq (⟨"BoxballHall$Row", "isSimple", "()Z"⟩, 4) := ⟨⟨by decide +kernel, by decide +kernel⟩, List.mem_of_getElem? (i := 34) (by decide +kernel), List.mem_of_getElem? (i := 323) (by decide +kernel), List.mem_of_getElem? (i := 324) (by decide +kernel)⟩
theorem lw_p12 : lw_okq (⟨"BoxballHall$Pairs", "removeAll", "(LBoxballHall$Row;)V"⟩, 3) := ⟨⟨by decide +kernel, by decide +kernel⟩, List.mem_of_getElem? (i := 106) (by decide +kernel), List.mem_of_getElem? (i := 327) (by decide +kernel), List.mem_of_getElem? (i := 328) (by decide +kernel)⟩
theorem lw_p13 : lw_okq (⟨"BoxballHall$Pairs", "standUp", "(LBoxballHall$Row;)I"⟩, 3) := ⟨⟨by decide +kernel, by decide +kernel⟩, List.mem_of_getElem? (i := 106) (by decide +kernel), List.mem_of_getElem? (i := 331) (by decide +kernel), List.mem_of_getElem? (i := 332) (by decide +kernel)⟩
theorem lw_p14 : lw_okq (⟨"BoxballHall$Pairs", "removeRound", "(I)I"⟩, 3) := ⟨⟨by decide +kernel, by decide +kernel⟩, List.mem_of_getElem? (i := 106) (by decide +kernel), List.mem_of_getElem? (i := 337) (by decide +kernel), List.mem_of_getElem? (i := 338) (by decide +kernel)⟩
theorem lw_p15 : lw_okq (⟨"BoxballHall", "areEnergiesSums", "()Z"⟩, 12) := ⟨⟨by decide +kernel, by decide +kernel⟩, List.mem_of_getElem? (i := 26) (by decide +kernel), List.mem_of_getElem? (i := 341) (by decide +kernel), List.mem_of_getElem? (i := 342) (by decide +kernel)⟩
def lw_privs_1 : List (MethodName × Nat) := [(⟨"BoxballHall$Row", "clearTo", "(IIZ)V"⟩, 4), (⟨"BoxballHall$Row", "sumOfBalls", "()I"⟩, 4), (⟨"BoxballHall$Row", "countFilled", "()I"⟩, 4), (⟨"BoxballHall", "isTurnedBack", "()Z"⟩, 12), (⟨"BoxballHall$Carrier", "canPass", "(LBoxballHall$Row;IZ)Z"⟩, 2), (⟨"BoxballHall$Carrier", "goOver", "(LBoxballHall$Row;IIZ)I"⟩, 2), (⟨"BoxballHall$Row", "become", "(LBoxballHall$Row;)V"⟩, 4), (⟨"BoxballHall$Row", "takeCapacities", "([I)V"⟩, 4), (⟨"BoxballHall$Row", "takeBalls", "([I)V"⟩, 4), (⟨"BoxballHall$Row", "hasBallsOf", "(LBoxballHall$Row;)Z"⟩, 4), (⟨"BoxballHall", "areWavesSound", "()Z"⟩, 12), (⟨"BoxballHall$Row", "isSimple", "()Z"⟩, 4), (⟨"BoxballHall$Pairs", "removeAll", "(LBoxballHall$Row;)V"⟩, 3), (⟨"BoxballHall$Pairs", "standUp", "(LBoxballHall$Row;)I"⟩, 3), (⟨"BoxballHall$Pairs", "removeRound", "(I)I"⟩, 3), (⟨"BoxballHall", "areEnergiesSums", "()Z"⟩, 12)]
theorem lw_r1 : ∀ q ∈ lw_privs_1, lw_okq q := List.forall_mem_cons.mpr ⟨lw_p0, List.forall_mem_cons.mpr ⟨lw_p1, List.forall_mem_cons.mpr ⟨lw_p2, List.forall_mem_cons.mpr ⟨lw_p3, List.forall_mem_cons.mpr ⟨lw_p4, List.forall_mem_cons.mpr ⟨lw_p5, List.forall_mem_cons.mpr ⟨lw_p6, List.forall_mem_cons.mpr ⟨lw_p7, List.forall_mem_cons.mpr ⟨lw_p8, List.forall_mem_cons.mpr ⟨lw_p9, List.forall_mem_cons.mpr ⟨lw_p10, List.forall_mem_cons.mpr ⟨lw_p11, List.forall_mem_cons.mpr ⟨lw_p12, List.forall_mem_cons.mpr ⟨lw_p13, List.forall_mem_cons.mpr ⟨lw_p14, List.forall_mem_cons.mpr ⟨lw_p15, fun _ h => absurd h List.not_mem_nil⟩⟩⟩⟩⟩⟩⟩⟩⟩⟩⟩⟩⟩⟩⟩⟩
theorem lw_p16 : lw_okq (⟨"BoxballHall$Carrier", "countPickups", "(LBoxballHall$Row;I)I"⟩, 2) := ⟨⟨by decide +kernel, by decide +kernel⟩, List.mem_of_getElem? (i := 91) (by decide +kernel), List.mem_of_getElem? (i := 345) (by decide +kernel), List.mem_of_getElem? (i := 346) (by decide +kernel)⟩
theorem lw_p17 : lw_okq (⟨"BoxballHall$Pairs", "sumOfSizes", "(I)I"⟩, 3) := ⟨⟨by decide +kernel, by decide +kernel⟩, List.mem_of_getElem? (i := 106) (by decide +kernel), List.mem_of_getElem? (i := 349) (by decide +kernel), List.mem_of_getElem? (i := 350) (by decide +kernel)⟩
theorem lw_p18 : lw_okq (⟨"BoxballHall$Pairs", "countAll", "()I"⟩, 3) := ⟨⟨by decide +kernel, by decide +kernel⟩, List.mem_of_getElem? (i := 106) (by decide +kernel), List.mem_of_getElem? (i := 353) (by decide +kernel), List.mem_of_getElem? (i := 354) (by decide +kernel)⟩
theorem lw_p19 : lw_okq (⟨"BoxballHall$Pairs", "inRound", "(I)I"⟩, 3) := ⟨⟨by decide +kernel, by decide +kernel⟩, List.mem_of_getElem? (i := 106) (by decide +kernel), List.mem_of_getElem? (i := 357) (by decide +kernel), List.mem_of_getElem? (i := 358) (by decide +kernel)⟩
theorem lw_p20 : lw_okq (⟨"BoxballHall$Pairs", "sizeOf", "(I)I"⟩, 3) := ⟨⟨by decide +kernel, by decide +kernel⟩, List.mem_of_getElem? (i := 106) (by decide +kernel), List.mem_of_getElem? (i := 361) (by decide +kernel), List.mem_of_getElem? (i := 362) (by decide +kernel)⟩
theorem lw_p21 : lw_okq (⟨"BoxballHall", "areRunsWaves", "()Z"⟩, 12) := ⟨⟨by decide +kernel, by decide +kernel⟩, List.mem_of_getElem? (i := 26) (by decide +kernel), List.mem_of_getElem? (i := 366) (by decide +kernel), List.mem_of_getElem? (i := 367) (by decide +kernel)⟩
theorem lw_p22 : lw_okq (⟨"BoxballHall$Runs", "walk", "(LBoxballHall$Row;I)V"⟩, 4) := ⟨⟨by decide +kernel, by decide +kernel⟩, List.mem_of_getElem? (i := 122) (by decide +kernel), List.mem_of_getElem? (i := 370) (by decide +kernel), List.mem_of_getElem? (i := 371) (by decide +kernel)⟩
theorem lw_p23 : lw_okq (⟨"BoxballHall$Runs", "goOn", "()V"⟩, 4) := ⟨⟨by decide +kernel, by decide +kernel⟩, List.mem_of_getElem? (i := 122) (by decide +kernel), List.mem_of_getElem? (i := 374) (by decide +kernel), List.mem_of_getElem? (i := 375) (by decide +kernel)⟩
theorem lw_p24 : lw_okq (⟨"BoxballHall$Runs", "layDown", "(II)V"⟩, 4) := ⟨⟨by decide +kernel, by decide +kernel⟩, List.mem_of_getElem? (i := 122) (by decide +kernel), List.mem_of_getElem? (i := 379) (by decide +kernel), List.mem_of_getElem? (i := 380) (by decide +kernel)⟩
theorem lw_p25 : lw_okq (⟨"BoxballHall$Runs", "countAll", "()I"⟩, 4) := ⟨⟨by decide +kernel, by decide +kernel⟩, List.mem_of_getElem? (i := 122) (by decide +kernel), List.mem_of_getElem? (i := 384) (by decide +kernel), List.mem_of_getElem? (i := 385) (by decide +kernel)⟩
theorem lw_p26 : lw_okq (⟨"BoxballHall$Runs", "isFirstBall", "(I)Z"⟩, 4) := ⟨⟨by decide +kernel, by decide +kernel⟩, List.mem_of_getElem? (i := 122) (by decide +kernel), List.mem_of_getElem? (i := 388) (by decide +kernel), List.mem_of_getElem? (i := 389) (by decide +kernel)⟩
theorem lw_p27 : lw_okq (⟨"BoxballHall$Runs", "findFirstBall", "(I)I"⟩, 4) := ⟨⟨by decide +kernel, by decide +kernel⟩, List.mem_of_getElem? (i := 122) (by decide +kernel), List.mem_of_getElem? (i := 392) (by decide +kernel), List.mem_of_getElem? (i := 393) (by decide +kernel)⟩
theorem lw_p28 : lw_okq (⟨"BoxballHall$Runs", "lengthFrom", "(I)I"⟩, 4) := ⟨⟨by decide +kernel, by decide +kernel⟩, List.mem_of_getElem? (i := 122) (by decide +kernel), List.mem_of_getElem? (i := 396) (by decide +kernel), List.mem_of_getElem? (i := 397) (by decide +kernel)⟩
theorem lw_p29 : lw_okq (⟨"BoxballHall$Queues", "areLeavingsLongestWays", "()Z"⟩, 2) := ⟨⟨by decide +kernel, by decide +kernel⟩, List.mem_of_getElem? (i := 192) (by decide +kernel), List.mem_of_getElem? (i := 401) (by decide +kernel), List.mem_of_getElem? (i := 402) (by decide +kernel)⟩
theorem lw_p30 : lw_okq (⟨"BoxballHall$Queues", "leavingOf", "(II)I"⟩, 2) := ⟨⟨by decide +kernel, by decide +kernel⟩, List.mem_of_getElem? (i := 192) (by decide +kernel), List.mem_of_getElem? (i := 405) (by decide +kernel), List.mem_of_getElem? (i := 406) (by decide +kernel)⟩
theorem lw_p31 : lw_okq (⟨"BoxballHall$Queues", "longestWayTo", "(II)I"⟩, 2) := ⟨⟨by decide +kernel, by decide +kernel⟩, List.mem_of_getElem? (i := 192) (by decide +kernel), List.mem_of_getElem? (i := 411) (by decide +kernel), List.mem_of_getElem? (i := 412) (by decide +kernel)⟩
def lw_privs_2 : List (MethodName × Nat) := [(⟨"BoxballHall$Carrier", "countPickups", "(LBoxballHall$Row;I)I"⟩, 2), (⟨"BoxballHall$Pairs", "sumOfSizes", "(I)I"⟩, 3), (⟨"BoxballHall$Pairs", "countAll", "()I"⟩, 3), (⟨"BoxballHall$Pairs", "inRound", "(I)I"⟩, 3), (⟨"BoxballHall$Pairs", "sizeOf", "(I)I"⟩, 3), (⟨"BoxballHall", "areRunsWaves", "()Z"⟩, 12), (⟨"BoxballHall$Runs", "walk", "(LBoxballHall$Row;I)V"⟩, 4), (⟨"BoxballHall$Runs", "goOn", "()V"⟩, 4), (⟨"BoxballHall$Runs", "layDown", "(II)V"⟩, 4), (⟨"BoxballHall$Runs", "countAll", "()I"⟩, 4), (⟨"BoxballHall$Runs", "isFirstBall", "(I)Z"⟩, 4), (⟨"BoxballHall$Runs", "findFirstBall", "(I)I"⟩, 4), (⟨"BoxballHall$Runs", "lengthFrom", "(I)I"⟩, 4), (⟨"BoxballHall$Queues", "areLeavingsLongestWays", "()Z"⟩, 2), (⟨"BoxballHall$Queues", "leavingOf", "(II)I"⟩, 2), (⟨"BoxballHall$Queues", "longestWayTo", "(II)I"⟩, 2)]
theorem lw_r2 : ∀ q ∈ lw_privs_2, lw_okq q := List.forall_mem_cons.mpr ⟨lw_p16, List.forall_mem_cons.mpr ⟨lw_p17, List.forall_mem_cons.mpr ⟨lw_p18, List.forall_mem_cons.mpr ⟨lw_p19, List.forall_mem_cons.mpr ⟨lw_p20, List.forall_mem_cons.mpr ⟨lw_p21, List.forall_mem_cons.mpr ⟨lw_p22, List.forall_mem_cons.mpr ⟨lw_p23, List.forall_mem_cons.mpr ⟨lw_p24, List.forall_mem_cons.mpr ⟨lw_p25, List.forall_mem_cons.mpr ⟨lw_p26, List.forall_mem_cons.mpr ⟨lw_p27, List.forall_mem_cons.mpr ⟨lw_p28, List.forall_mem_cons.mpr ⟨lw_p29, List.forall_mem_cons.mpr ⟨lw_p30, List.forall_mem_cons.mpr ⟨lw_p31, fun _ h => absurd h List.not_mem_nil⟩⟩⟩⟩⟩⟩⟩⟩⟩⟩⟩⟩⟩⟩⟩⟩
theorem lw_p32 : lw_okq (⟨"java/lang/Throwable", "fillInStackTrace", "(I)Ljava/lang/Throwable;"⟩, 6) := ⟨⟨by decide +kernel, by decide +kernel⟩, List.mem_of_getElem? (i := 466) (by decide +kernel), List.mem_of_getElem? (i := 464) (by decide +kernel), List.mem_of_getElem? (i := 465) (by decide +kernel)⟩
theorem lw_p33 : lw_okq (⟨"BoxballHall$Past", "forget", "()V"⟩, 4) := ⟨⟨by decide +kernel, by decide +kernel⟩, List.mem_of_getElem? (i := 69) (by decide +kernel), List.mem_of_getElem? (i := 496) (by decide +kernel), List.mem_of_getElem? (i := 497) (by decide +kernel)⟩
theorem lw_p34 : lw_okq (⟨"BoxballHall", "demandBox", "(I)V"⟩, 12) := ⟨⟨by decide +kernel, by decide +kernel⟩, List.mem_of_getElem? (i := 26) (by decide +kernel), List.mem_of_getElem? (i := 532) (by decide +kernel), List.mem_of_getElem? (i := 533) (by decide +kernel)⟩
theorem lw_p35 : lw_okq (⟨"BoxballHall", "stepTo", "(IZ)I"⟩, 12) := ⟨⟨by decide +kernel, by decide +kernel⟩, List.mem_of_getElem? (i := 26) (by decide +kernel), List.mem_of_getElem? (i := 572) (by decide +kernel), List.mem_of_getElem? (i := 573) (by decide +kernel)⟩
theorem lw_p36 : lw_okq (⟨"BoxballHall", "takeStep", "()V"⟩, 12) := ⟨⟨by decide +kernel, by decide +kernel⟩, List.mem_of_getElem? (i := 26) (by decide +kernel), List.mem_of_getElem? (i := 592) (by decide +kernel), List.mem_of_getElem? (i := 593) (by decide +kernel)⟩
theorem lw_p37 : lw_okq (⟨"BoxballHall$Past", "keep", "(LBoxballHall$Row;)V"⟩, 4) := ⟨⟨by decide +kernel, by decide +kernel⟩, List.mem_of_getElem? (i := 69) (by decide +kernel), List.mem_of_getElem? (i := 596) (by decide +kernel), List.mem_of_getElem? (i := 597) (by decide +kernel)⟩
theorem lw_p38 : lw_okq (⟨"BoxballHall$Past", "slotOf", "(I)I"⟩, 4) := ⟨⟨by decide +kernel, by decide +kernel⟩, List.mem_of_getElem? (i := 69) (by decide +kernel), List.mem_of_getElem? (i := 600) (by decide +kernel), List.mem_of_getElem? (i := 601) (by decide +kernel)⟩
theorem lw_p39 : lw_okq (⟨"BoxballHall$Past", "hasRow", "(I)Z"⟩, 4) := ⟨⟨by decide +kernel, by decide +kernel⟩, List.mem_of_getElem? (i := 69) (by decide +kernel), List.mem_of_getElem? (i := 630) (by decide +kernel), List.mem_of_getElem? (i := 631) (by decide +kernel)⟩
theorem lw_p40 : lw_okq (⟨"BoxballHall$Past", "ballsOf", "(II)I"⟩, 4) := ⟨⟨by decide +kernel, by decide +kernel⟩, List.mem_of_getElem? (i := 69) (by decide +kernel), List.mem_of_getElem? (i := 650) (by decide +kernel), List.mem_of_getElem? (i := 651) (by decide +kernel)⟩
theorem lw_p41 : lw_okq (⟨"BoxballHall$Past", "giveBack", "(LBoxballHall$Row;)V"⟩, 4) := ⟨⟨by decide +kernel, by decide +kernel⟩, List.mem_of_getElem? (i := 69) (by decide +kernel), List.mem_of_getElem? (i := 662) (by decide +kernel), List.mem_of_getElem? (i := 663) (by decide +kernel)⟩
def lw_privs_3 : List (MethodName × Nat) := [(⟨"java/lang/Throwable", "fillInStackTrace", "(I)Ljava/lang/Throwable;"⟩, 6), (⟨"BoxballHall$Past", "forget", "()V"⟩, 4), (⟨"BoxballHall", "demandBox", "(I)V"⟩, 12), (⟨"BoxballHall", "stepTo", "(IZ)I"⟩, 12), (⟨"BoxballHall", "takeStep", "()V"⟩, 12), (⟨"BoxballHall$Past", "keep", "(LBoxballHall$Row;)V"⟩, 4), (⟨"BoxballHall$Past", "slotOf", "(I)I"⟩, 4), (⟨"BoxballHall$Past", "hasRow", "(I)Z"⟩, 4), (⟨"BoxballHall$Past", "ballsOf", "(II)I"⟩, 4), (⟨"BoxballHall$Past", "giveBack", "(LBoxballHall$Row;)V"⟩, 4)]
theorem lw_r3 : ∀ q ∈ lw_privs_3, lw_okq q := List.forall_mem_cons.mpr ⟨lw_p32, List.forall_mem_cons.mpr ⟨lw_p33, List.forall_mem_cons.mpr ⟨lw_p34, List.forall_mem_cons.mpr ⟨lw_p35, List.forall_mem_cons.mpr ⟨lw_p36, List.forall_mem_cons.mpr ⟨lw_p37, List.forall_mem_cons.mpr ⟨lw_p38, List.forall_mem_cons.mpr ⟨lw_p39, List.forall_mem_cons.mpr ⟨lw_p40, List.forall_mem_cons.mpr ⟨lw_p41, fun _ h => absurd h List.not_mem_nil⟩⟩⟩⟩⟩⟩⟩⟩⟩⟩
def lw_privs : List (MethodName × Nat) := lw_privs_1 ++ (lw_privs_2 ++ (lw_privs_3))
def lw_tbl : List Cond := k2_sels lw_privs ++ tables_1
theorem lw_privs_ok : ∀ q ∈ lw_privs, lw_okq q := by
  show ∀ q ∈ lw_privs_1 ++ (lw_privs_2 ++ (lw_privs_3)), lw_okq q
  exact List.forall_mem_append.mpr ⟨lw_r1, List.forall_mem_append.mpr ⟨lw_r2, lw_r3⟩⟩
/-- the streams that the claim lets the run draw from -/
abbrev lw_cs : List Choice := [Jvm.Choice.named "NaN.bits"]
theorem lw_bits : nanBits ∈ lw_cs := by first | decide | exact List.mem_cons_self | simp [lw_cs, nanBits]
-- ===== end of PART A; then your names; then what follows =====
/-! ===== BEGIN words of one list among another's, by their places ===== -/
theorem goodIn_r {big : List Cond} (ws : List Cond) (ps : List Nat) (hp : ws = ps.filterMap (fun i => big[i]?)) (h : ws.all goodWord = true) : GoodIn big ws := by
  intro w hw
  have h1 := List.all_eq_true.mp h w hw
  rw [hp] at hw
  obtain ⟨i, -, hi⟩ := List.mem_filterMap.mp hw
  have hm : w ∈ big := by first | exact List.mem_of_getElem? hi | exact List.getElem?_mem hi
  exact ⟨hm, good_of_word h1⟩
theorem goodIn_app {big a b : List Cond} (ha : GoodIn big a) (hb : GoodIn big b) : GoodIn big (a ++ b) := fun w h => (List.mem_append.mp h).elim (ha w) (hb w)
theorem goodIn_ca {big a b : List Cond} {c : Cond} (ha : GoodIn big (c :: a)) (hb : GoodIn big b) : GoodIn big (c :: (a ++ b)) := fun w h => (List.mem_cons.mp h).elim (fun e => ha w (List.mem_cons.mpr (Or.inl e))) (fun h => (List.mem_append.mp h).elim (fun h => ha w (List.mem_cons.mpr (Or.inr h))) (hb w))
theorem goodIn_sub {big ws : List Cond} (hm : ∀ w ∈ ws, w ∈ big) (h : ws.all goodWord = true) : GoodIn big ws := fun w hw => ⟨hm w hw, good_of_word (List.all_eq_true.mp h w hw)⟩
/-! ===== END ===== -/


/-! ===== BEGIN exceptions that leave a method, and their catching by the caller (launches without stack traces) ===== -/
section VXA
/-! The laws vx_back, vx_callV, vx_callS, vx_callSW, vx_throw0, vx_throwS follow proofs of the library, with one case more: JvmDerived/Free/Laws.lean (Back.of_free), Shelf42/LK1.lean (callV, callS), Shelf/KitTraced.lean (throwNew0V, throwNewS). -/
/-- where a method has thrown q: the class by its name, the cell, what was written, the world -/
def vx_T (XC : String → State → State → Prop) (st : State) (q : Addr) (t : State) (mc ms : Nat) (free : Addr → Prop) : Prop :=
  ∃ (E : String) (ce : Cell) (L : List Loc), XC E st t ∧ t.heap[q]? = some ce ∧ ce.vm = .none ∧ st.vm.findClass E = some ce.cls ∧ st.WarmedH t.vm ∧ st.sameButNew ({ t with vm := st.vm } : State) L mc ms ∧ ∀ z ∈ L, free z.base
def vx_Q (Qc : Array Value → State → Outcome → State → Prop) (XC : String → State → State → Prop) (mc ms : Nat) (free : Addr → Prop) : Array Value → State → Outcome → State → Prop := fun a st o t =>
  (Qc a st o t ∧ ∃ L, FrameEnd st o t L mc ms ∧ ∀ q ∈ L, free q.base) ∨ ∃ q, o = .threw q ∧ vx_T XC st q t mc ms free
/-- a callee that returns or throws -/
def vx_Met (l : Launch) (y : MethodName) (ws : List Cond) (rm : Room) (Pc : Array Value → State → Prop) (Qc : Array Value → State → Outcome → State → Prop) (XC : String → State → State → Prop) (mc ms : Nat) (free : Addr → Prop) : Prop :=
  MetFree l y (headSpec ws rm) Pc (fun _ _ _ _ _ => True) (vx_Q Qc XC mc ms free)
def vx_Post (XC : String → State → State → Prop) (mc ms : Nat) (free : Addr → Prop) : Pt → Array Value → Addr → Pt → Prop := fun A a q B =>
  ∃ (g : JFrame) (mk : MethodId) (t : State) (L : List Loc) (E : String) (ce : Cell), B.U.heap = t.heap ∧ B.U.vm = t.vm ∧ XC E (A.U.calling g mk a) t ∧ t.heap[q]? = some ce ∧ ce.vm = .none ∧ A.U.vm.findClass E = some ce.cls ∧ B.locs = A.locs ++ L ∧ (∀ z ∈ L, free z.base) ∧ B.cells = A.cells + mc ∧ B.slots = A.slots + ms
def vx_Back (l : Launch) (R : Room) (p : Program) (e : Env) (below : List Frame) (s : State) (sargs : Array Value) (y : MethodName) (len W9 : Nat)
    (Pre : Pt → Array Value → Prop) (Post : Pt → Array Value → Option Value → Pt → Prop) (PostX : Pt → Array Value → Addr → Pt → Prop) : Prop :=
  ∀ (m : MethodId) (meth : Method) (c : Code) (A : Pt) (g : JFrame) (ig : Instr) (mk : MethodId) (a : Array Value),
    Stand p l e R s m sargs below meth c A.U A.locs A.cells A.slots → g.method = m → g.locals.size = c.maxLocals → decode c.code g.pc = .ok (ig, len) →
    2 * g.monitorRoom + (g.stack.map fun v => v.category).sum ≤ W9 → A.U.methodNamed? y = some mk → Pre A a →
    (∃ (v : Option Value) (B : Pt), Stand p l e R s m sargs below meth c B.U B.locs B.cells B.slots ∧ Post A a v B ∧
      Steps p.tables e below (doInvoke e (A.U.setTop g) [] mk a).1 (B.U.setTop { g with pc := g.pc + len, stack := v.toList ++ g.stack })) ∨
    (∃ (q : Addr) (B : Pt), Stand p l e R s m sargs below meth c B.U B.locs B.cells B.slots ∧ PostX A a q B ∧
      Steps p.tables e below (doInvoke e (A.U.setTop g) [] mk a).1 ((B.U.setTop g).pushFrame (.throwing q)))
section Payer
variable {l : Launch} {R : Room} {p : Program} {e : Env} {below : List Frame} {s : State} {sargs : Array Value} {y : MethodName} {len W9 : Nat}
theorem vx_back {ws : List Cond} {rm : Room} {Pc : Array Value → State → Prop} {Qc : Array Value → State → Outcome → State → Prop} {XC : String → State → State → Prop} {mc ms : Nat} {free : Addr → Prop} {bytes : ByteArray} {maxL : Nat} {ret : Option FieldType}
    (hM : vx_Met l y ws rm Pc Qc XC mc ms free) (hblind : FrameBlind Pc) (hrc : rm.cells = mc) (hrs : rm.slots = ms)
    (hframes : rm.frames + 1 ≤ R.frames) (hlocals : W9 + (maxL + 11) + rm.locals ≤ R.locals)
    (hws : ∀ w ∈ ws, ∀ a' U, s.WarmedH U.vm → w.before a' U = true) (hcode : Cond.code y bytes maxL ret ∈ ws) (hinit : ∀ a' U, s.WarmedH U.vm → (Cond.initialized y.cls).before a' U = true) :
    vx_Back l R p e below s sargs y len W9 (PreOf R mc ms Pc) (PostOf Qc mc ms free) (vx_Post XC mc ms free) := by
  intro m meth c A g ig mk a X hg hsize hdg hW hn hp
  have h1 : (headSpec ws rm).pre.before a A.U = true := atoms_intro fun w hw => hws w hw _ _ X.warmed
  have h2 : (Cond.code y bytes maxL ret).before a A.U = true := hws _ hcode _ _ X.warmed
  have h3 : (Cond.initialized y.cls).before a A.U = true := hinit _ _ X.warmed
  have h4 : A.cells + (headSpec ws rm).room.cells ≤ R.cells := by rw [show (headSpec ws rm).room.cells = mc from hrc]; exact hp.1
  have h5 : A.slots + (headSpec ws rm).room.slots ≤ R.slots := by rw [show (headSpec ws rm).room.slots = ms from hrs]; exact hp.2.1
  have hPc : Pc a (A.U.calling g mk a) := hblind _ _ _ _ hp.2.2
  obtain ⟨U, Ls, c0, s0⟩ := A
  dsimp only [Pt.U, Pt.locs, Pt.cells, Pt.slots] at h1 h2 h3 h4 h5 X hn hPc ⊢
  obtain ⟨methY, cY, hmY, hcY, -, hlY, -, -, -, -⟩ := Cond.code_spec hn h2
  obtain ⟨kY, hkY, -⟩ := className_of_methodNamed hn
  have hinitY : kY.init = .initialized := Cond.initialized_spec (findClass_of_methodNamed hn) hkY h3
  have h : At U g.method c below := by rw [hg]; exact X.here
  have hlocals9 : W9 + (maxL + 11) + (headSpec ws rm).room.locals ≤ R.locals := hlocals
  have happ : (headSpec ws rm).appliesLoose y e.platform (U.calling g mk a) = true :=
    Spec.appliesLoose_calling (g := g) h hdg hn hkY hinitY
      (X.room_calling (g := g) (R' := (headSpec ws rm).room) hsize hmY hcY hframes (by rw [hlY]; omega) h4 h5) h1
  obtain ⟨mid, hmid⟩ := h.above
  have hfr : (U.setTop g).frames = (.java g :: mid) ++ below := by rw [State.frames_setTop' g h.top, hmid]; rfl
  obtain ⟨o, s₂, hsteps, -, hend, hq⟩ := Steps.callFree hM p X.admits X.cas X.clock (acts := []) hfr happ hPc trivial
  have hq' : vx_Q Qc XC mc ms free a (U.calling g mk a) o s₂ := hq
  rw [State.frames_setTop' g h.top] at hend
  obtain ⟨g₀, hg0⟩ := Option.isSome_iff_exists.mp h.top
  obtain ⟨r, hr⟩ := State.topJava?_eq_some.mp hg0
  have hr' : (({ U with heap := s₂.heap, slotsUsed := s₂.slotsUsed } : State).setVm s₂.vm).frames = .java g₀ :: r := hr
  rcases hq' with ⟨hqc, L, hfe, hL⟩ | ⟨q, rfl, E, ce, L, hx, hce, hcv, hcl, hW₂, hsm, hL⟩
  · obtain ⟨⟨v, rfl⟩, hW₂, e2, q2, q3, q4, q5, q6⟩ := id hfe
    have e3 : s₂ = ({ (U.calling g mk a).setFrames s₂.frames with heap := s₂.heap, slotsUsed := s₂.slotsUsed } : State).setVm s₂.vm := by
      have : s₂ = ({ s₂ with vm := (U.calling g mk a).vm } : State).setVm s₂.vm := rfl
      rw [e2] at this
      exact this
    obtain ⟨c₂, i₂, len₂, hc₂, hd₂, hf₂⟩ := hend
    have hW' : U.WarmedH s₂.vm := hW₂
    have hcc : c₂ = c := by
      have h1 : s₂.code? g.method = U.code? g.method := by
        rw [State.code?_eq, State.code?_eq, hW'.alike.method?]
      exact Option.some.inj (hc₂.symm.trans (h1.trans h.code))
    subst hcc
    have hlen : len₂ = len := by rw [hdg] at hd₂; cases hd₂; rfl
    subst hlen
    have hs₂ : s₂ = (({ U with heap := s₂.heap, slotsUsed := s₂.slotsUsed } : State).setVm s₂.vm).setTop { g with pc := g.pc + len₂, stack := v.toList ++ g.stack } := by
      refine e3.trans ?_
      rw [hf₂, State.calling_eq h.top, State.setFrames_setFrames, State.setTop_of_frames _ hr', hr]
      rfl
    have hsame : U.sameButNew ({ U with heap := s₂.heap, slotsUsed := s₂.slotsUsed } : State) L mc ms := by
      refine ⟨?_, q2, q3, q4, q5, q6⟩
      obtain ⟨t, ht, -⟩ := State.frames_cons hr
      show ({ U with heap := s₂.heap, slotsUsed := s₂.slotsUsed } : State) = { U.setFrames U.frames with heap := s₂.heap, slotsUsed := s₂.slotsUsed }
      rw [State.setFrames_self ht]
    subst hg
    refine Or.inl ⟨v, ⟨(({ U with heap := s₂.heap, slotsUsed := s₂.slotsUsed } : State).setVm s₂.vm), Ls ++ L, c0 + mc, s0 + ms⟩,
      ⟨X.admits, X.cas, X.clock, X.frames, X.room, X.hears, X.method, X.code, (X.here.setHeapUsed s₂.heap s₂.slotsUsed).setVm hW'.alike, X.tail, State.WarmedH.trans X.warmed hW', X.limits, X.bytes, X.same.trans (hsame.setVm s.vm)⟩,
      ⟨g, mk, s₂, L, rfl, rfl, hqc, rfl, hL, rfl, rfl⟩, ?_⟩
    show Steps p.tables e below _ ((({ U with heap := s₂.heap, slotsUsed := s₂.slotsUsed } : State).setVm s₂.vm).setTop { g with pc := g.pc + len₂, stack := v.toList ++ g.stack })
    rw [← hs₂]
    exact hsteps
  · obtain ⟨e2, q2, q3, q4, q5, q6⟩ := id hsm
    have e3 : s₂ = ({ (U.calling g mk a).setFrames s₂.frames with heap := s₂.heap, slotsUsed := s₂.slotsUsed } : State).setVm s₂.vm := by
      have : s₂ = ({ s₂ with vm := (U.calling g mk a).vm } : State).setVm s₂.vm := rfl
      rw [e2] at this
      exact this
    have hf₂ : s₂.frames = .throwing q :: .java g :: U.frames.tail := hend
    have hW' : U.WarmedH s₂.vm := hW₂
    have hs₂ : s₂ = ((({ U with heap := s₂.heap, slotsUsed := s₂.slotsUsed } : State).setVm s₂.vm).setTop g).pushFrame (.throwing q) := by
      refine e3.trans ?_
      rw [hf₂, State.calling_eq h.top, State.setFrames_setFrames, State.pushFrame, State.frames_setTop _ hr', State.setTop_of_frames _ hr', State.setFrames_setFrames, hr]
      rfl
    have hsame : U.sameButNew ({ U with heap := s₂.heap, slotsUsed := s₂.slotsUsed } : State) L mc ms := by
      refine ⟨?_, q2, q3, q4, q5, q6⟩
      obtain ⟨t, ht, -⟩ := State.frames_cons hr
      show ({ U with heap := s₂.heap, slotsUsed := s₂.slotsUsed } : State) = { U.setFrames U.frames with heap := s₂.heap, slotsUsed := s₂.slotsUsed }
      rw [State.setFrames_self ht]
    subst hg
    refine Or.inr ⟨q, ⟨(({ U with heap := s₂.heap, slotsUsed := s₂.slotsUsed } : State).setVm s₂.vm), Ls ++ L, c0 + mc, s0 + ms⟩,
      ⟨X.admits, X.cas, X.clock, X.frames, X.room, X.hears, X.method, X.code, (X.here.setHeapUsed s₂.heap s₂.slotsUsed).setVm hW'.alike, X.tail, State.WarmedH.trans X.warmed hW', X.limits, X.bytes, X.same.trans (hsame.setVm s.vm)⟩,
      ⟨g, mk, s₂, L, E, ce, rfl, rfl, hx, hce, hcv, hcl, rfl, hL, rfl, rfl⟩, ?_⟩
    show Steps p.tables e below _ (((({ U with heap := s₂.heap, slotsUsed := s₂.slotsUsed } : State).setVm s₂.vm).setTop g).pushFrame (.throwing q))
    rw [← hs₂]
    exact hsteps
end Payer
section Calls
variable {p : Program} {l : Launch} {e : Env} {R : Room} {s : State} {m : MethodId} {args : Array Value} {below : List Frame} {meth : Method} {c : Code} {T : State} {locs : List Loc} {cells slots : Nat}
theorem vx_callV (X : Stand p l e R s m args below meth c T locs cells slots) (hexec : p.tables.exec = Jvm.exec) {own C : String} {index : Nat} {y : MethodName} {bytes : ByteArray} {maxL : Nat} {ret : Option FieldType}
    (hown : s.vm.findClass own = some m.cls) (hlink : (Cond.methodLink own index y).before args s = true) (hinst : (Cond.instanceMethod y).before args s = true) (hsel : (Cond.selects C y y).before args s = true)
    (hcode : (Cond.code y bytes maxL ret).before args s = true) (hy : y.cls ≠ "java/lang/invoke/MethodHandle" ∧ y.cls ≠ "java/lang/invoke/VarHandle")
    {W9 : Nat} {Pre : Pt → Array Value → Prop} {Post : Pt → Array Value → Option Value → Pt → Prop} {PostX : Pt → Array Value → Addr → Pt → Prop} (hK : vx_Back l R p e below s args y 3 W9 Pre Post PostX)
    {b : Addr} {cellB : Cell} (hcell : T.heap[b]? = some cellB) (hobj : cellB.vm.isStatics = false) (hcls : s.vm.findClass C = some cellB.cls)
    {g : JFrame} (hg : g.method = m) (hsize : g.locals.size = c.maxLocals) {argsL rest : List Value} (hlen : ∀ sig, parseMethodDescriptor y.desc = some sig → argsL.length = sig.parameters.length)
    (hstack : g.stack = argsL.reverse ++ .ref b :: rest) (hW : 2 * g.monitorRoom + (rest.map fun v => v.category).sum ≤ W9) (hdg : decode c.code g.pc = .ok (.invokevirtual index, 3))
    (hpre : ∀ vm₁, s.WarmedH vm₁ → Pre ⟨T.setVm vm₁, locs, cells, slots⟩ (Value.ref b :: argsL).toArray) :
    (∃ (v : Option Value) (vm₁ : Vm) (B : Pt), s.WarmedH vm₁ ∧ Stand p l e R s m args below meth c B.U B.locs B.cells B.slots ∧ Post ⟨T.setVm vm₁, locs, cells, slots⟩ (Value.ref b :: argsL).toArray v B ∧
      ∀ target, Steps p.tables e below (B.U.setTop { g with pc := g.pc + 3, stack := v.toList ++ rest }) target → Steps p.tables e below (T.setTop g) target) ∨
    (∃ (q : Addr) (vm₁ : Vm) (B : Pt), s.WarmedH vm₁ ∧ Stand p l e R s m args below meth c B.U B.locs B.cells B.slots ∧ PostX ⟨T.setVm vm₁, locs, cells, slots⟩ (Value.ref b :: argsL).toArray q B ∧
      Steps p.tables e below (T.setTop g) ((B.U.setTop { g with stack := rest }).pushFrame (.throwing q))) := by
  obtain ⟨mk, methM, hnamed, hmethM, hstM, habM⟩ := Cond.instanceMethod_spec hinst
  obtain ⟨methM', cM, hmethM', -, -, -, -, -, -, hsigM⟩ := Cond.code_spec hnamed hcode
  cases hmethM.symm.trans hmethM'
  obtain ⟨c2, r2, m2, q1, q2, q3, q4, kP, hkP, hkPi⟩ := Cond.selects_spec hsel
  cases hcls.symm.trans q1
  cases (State.methodFound?_of_named hnamed hy).symm.trans q2
  cases hnamed.symm.trans q3
  have hselP : selectMethod e.platform s.vm cellB.cls mk = .method mk := by rw [Launch.admits_selectMethod X.admits]; exact q4
  obtain ⟨vm₁, X₁, hstep₁⟩ := X.invokevirtual hexec hown hlink hnamed hmethM hstM hkP hkPi hy (a := b) (cell := cellB) hcell
    (fun z h => by rw [h] at hobj; cases hobj) hselP hmethM habM hkP hkPi (g := g) hg (argsL := argsL) (rest := rest) (hlen _ hsigM) hstack hdg
  rcases hK m meth c ⟨T.setVm vm₁, locs, cells, slots⟩ { g with stack := rest } (.invokevirtual index) mk (Value.ref b :: argsL).toArray X₁ hg hsize hdg hW (X₁.named hnamed) (hpre vm₁ X₁.warmed) with ⟨v, B, X', hpost, hsteps⟩ | ⟨q, B, X', hpost, hsteps⟩
  · exact Or.inl ⟨v, vm₁, B, X₁.warmed, X', hpost, fun target h => hstep₁ _ fun acts => by rw [doInvoke_state]; exact hsteps.trans h⟩
  · exact Or.inr ⟨q, vm₁, B, X₁.warmed, X', hpost, hstep₁ _ fun acts => by rw [doInvoke_state]; exact hsteps⟩
theorem vx_callS (X : Stand p l e R s m args below meth c T locs cells slots) (hexec : p.tables.exec = Jvm.exec) {own : String} {index : Nat} {y : MethodName} {bytes : ByteArray} {maxL : Nat} {ret : Option FieldType}
    (hown : s.vm.findClass own = some m.cls) (hlink : (Cond.methodLink own index y).before args s = true) (hstat : (Cond.static y).before args s = true) (hinit : (Cond.initialized y.cls).before args s = true)
    (hcode : (Cond.code y bytes maxL ret).before args s = true) (hy : y.cls ≠ "java/lang/invoke/MethodHandle" ∧ y.cls ≠ "java/lang/invoke/VarHandle")
    {W9 : Nat} {Pre : Pt → Array Value → Prop} {Post : Pt → Array Value → Option Value → Pt → Prop} {PostX : Pt → Array Value → Addr → Pt → Prop} (hK : vx_Back l R p e below s args y 3 W9 Pre Post PostX)
    {g : JFrame} (hg : g.method = m) (hsize : g.locals.size = c.maxLocals) {argsL rest : List Value} (hlen : ∀ sig, parseMethodDescriptor y.desc = some sig → argsL.length = sig.parameters.length)
    (hstack : g.stack = argsL.reverse ++ rest) (hW : 2 * g.monitorRoom + (rest.map fun v => v.category).sum ≤ W9) (hdg : decode c.code g.pc = .ok (.invokestatic index, 3))
    (hpre : ∀ vm₁, s.WarmedH vm₁ → Pre ⟨T.setVm vm₁, locs, cells, slots⟩ argsL.toArray) :
    (∃ (v : Option Value) (vm₁ : Vm) (B : Pt), s.WarmedH vm₁ ∧ Stand p l e R s m args below meth c B.U B.locs B.cells B.slots ∧ Post ⟨T.setVm vm₁, locs, cells, slots⟩ argsL.toArray v B ∧
      ∀ target, Steps p.tables e below (B.U.setTop { g with pc := g.pc + 3, stack := v.toList ++ rest }) target → Steps p.tables e below (T.setTop g) target) ∨
    (∃ (q : Addr) (vm₁ : Vm) (B : Pt), s.WarmedH vm₁ ∧ Stand p l e R s m args below meth c B.U B.locs B.cells B.slots ∧ PostX ⟨T.setVm vm₁, locs, cells, slots⟩ argsL.toArray q B ∧
      Steps p.tables e below (T.setTop g) ((B.U.setTop { g with stack := rest }).pushFrame (.throwing q))) := by
  obtain ⟨mk, hnamed⟩ := Cond.code_named hcode
  obtain ⟨methM, cM, hmethM, -, -, -, -, -, -, hsigM⟩ := Cond.code_spec hnamed hcode
  have hstatic : methM.isStatic = true := Cond.static_spec hnamed hmethM hstat
  obtain ⟨kP, hkP, -⟩ := className_of_methodNamed hnamed
  have hinitP : kP.init = .initialized := Cond.initialized_spec (findClass_of_methodNamed hnamed) hkP hinit
  obtain ⟨vm₁, X₁, hstep₁⟩ := X.invokestatic hexec hown hlink hnamed hmethM hstatic hkP hinitP hy (g := g) hg (argsL := argsL) (rest := rest) (hlen _ hsigM) hstack hdg
  rcases hK m meth c ⟨T.setVm vm₁, locs, cells, slots⟩ { g with stack := rest } (.invokestatic index) mk argsL.toArray X₁ hg hsize hdg hW (X₁.named hnamed) (hpre vm₁ X₁.warmed) with ⟨v, B, X', hpost, hsteps⟩ | ⟨q, B, X', hpost, hsteps⟩
  · exact Or.inl ⟨v, vm₁, B, X₁.warmed, X', hpost, fun target h => hstep₁ _ fun acts => by rw [doInvoke_state]; exact hsteps.trans h⟩
  · exact Or.inr ⟨q, vm₁, B, X₁.warmed, X', hpost, hstep₁ _ fun acts => by rw [doInvoke_state]; exact hsteps⟩
end Calls
theorem vx_cls {s : State} {T : State} {vm₁ : Vm} {E : String} {k : ClassId} (hW : s.WarmedH vm₁) (h : (T.setVm vm₁).vm.findClass E = some k) : s.vm.findClass E = some k := by
  have h1 : vm₁.findClass E = some k := h
  rw [hW.alike.findClass] at h1
  exact h1
/-- the method's frame g, with q thrown over it -/
def vx_W (p : Program) (l : Launch) (e : Env) (R : Room) (s : State) (m : MethodId) (args : Array Value) (below : List Frame) (meth : Method) (c : Code) (H : Heap) (locs : List Loc) (cells slots : Nat) (Q : State → Prop) (g : JFrame) (q : Addr) : Prop :=
  ∀ T : State, T.heap = H → Stand p l e R s m args below meth c T locs cells slots → ∃ t, Steps p.tables e below ((T.setTop g).pushFrame (.throwing q)) t ∧ Q t
def vx_Run (p : Program) (l : Launch) (e : Env) (R : Room) (s : State) (m : MethodId) (args : Array Value) (below : List Frame) (meth : Method) (c : Code) (H : Heap) (locs : List Loc) (cells slots mc ms : Nat) (g : JFrame) (rest : List Value) (Qa : State → Outcome → State → Prop) (XC : String → State → State → Prop) (free : Addr → Prop) : Prop :=
  ∀ T : State, T.heap = H → Stand p l e R s m args below meth c T locs cells slots →
    (∃ (v : Option Value) (st₀ t T' : State) (L : List Loc), st₀.heap = H ∧ Stand p l e R s m args below meth c T' (locs ++ L) (cells + mc) (slots + ms) ∧ (∀ q ∈ L, free q.base) ∧ T'.heap = t.heap ∧ T'.vm = t.vm ∧ Qa st₀ (.returned v) t ∧
      Goes p e below T g T' { g with pc := g.pc + 3, stack := v.toList ++ rest }) ∨
    (∃ (q : Addr) (st₀ t T' : State) (L : List Loc) (E : String) (ce : Cell), st₀.heap = H ∧ Stand p l e R s m args below meth c T' (locs ++ L) (cells + mc) (slots + ms) ∧ (∀ z ∈ L, free z.base) ∧ T'.heap = t.heap ∧ T'.vm = t.vm ∧ XC E st₀ t ∧ t.heap[q]? = some ce ∧ ce.vm = .none ∧ s.vm.findClass E = some ce.cls ∧
      Steps p.tables e below (T.setTop g) ((T'.setTop { g with stack := rest }).pushFrame (.throwing q)))
def vx_X {S : Type} (px : S → Prop) (B : String → S → State → Prop) (A : Nat → Prop) : String → State → State → Prop := fun E st t => ∃ u : S, px u ∧ B E u t ∧ va_F A st t
section Runs
variable {p : Program} {l : Launch} {e : Env} {R : Room} {s : State} {m : MethodId} {args : Array Value} {below : List Frame} {meth : Method} {c : Code} {H : Heap} {locs : List Loc} {cells slots : Nat}
variable {y : MethodName} {bytes cc : ByteArray} {maxL nL mc ms n index : Nat} {ret : Option FieldType} {ws : List Cond} {rm : Room} {Pc : Array Value → State → Prop} {Qc : Array Value → State → Outcome → State → Prop} {XC : String → State → State → Prop} {free : Addr → Prop} {Ts : List Cond} {own C : String} {b : Addr} {As rest : List Value} {g : JFrame}
theorem vx_callBack (cb : CallB R s args own index y bytes maxL ret ws rm mc ms n) (hM : vx_Met l y ws rm Pc Qc XC mc ms free) (hbl : FrameBlind Pc) : vx_Back l R p e below s args y 3 8 (PreOf R mc ms Pc) (PostOf Qc mc ms free) (vx_Post XC mc ms free) := by
  obtain ⟨hrc, hrs, hfr, hlo, hws, hcw, -, hini, -⟩ := cb
  exact vx_back (bytes := bytes) (maxL := maxL) (ret := ret) hM hbl hrc hrs hfr hlo hws hcw (fun a' U hW => word_at hW (Or.inl (by first | rfl | simp [Cond.onTables, Cond.keeps, Cond.steady])) hini)
theorem vx_runV (S : CallFix p m c cc nL s args Ts own) (hM : vx_Met l y ws rm Pc Qc XC mc ms free) (cw : CallW R s args own C index y bytes maxL ret ws rm mc ms n) (hp : PreV s H C b Pc As)
    (hg : g.method = m) (hn : As.length = n) (hsize : g.locals.size = nL) (hstack : g.stack = As.reverse ++ .ref b :: rest) (hW : 2 * g.monitorRoom + (rest.map fun v => v.category).sum ≤ 8) (hdg : decode cc g.pc = .ok (.invokevirtual index, 3)) (hf : cells + mc ≤ R.cells ∧ slots + ms ≤ R.slots) :
    vx_Run p l e R s m args below meth c H locs cells slots mc ms g rest (Qc (Value.ref b :: As).toArray) XC free := by
  have hK : vx_Back l R p e below s args y 3 8 (PreOf R mc ms Pc) (PostOf Qc mc ms free) (vx_Post XC mc ms free) := vx_callBack cw.1 hM hp.1
  obtain ⟨⟨-, -, -, -, -, -, hcode, -, hy, hlen, hl⟩, hin, hse⟩ := cw
  obtain ⟨hx, hb, hml, ho, -⟩ := S
  obtain ⟨-, ⟨cellB, hcB, hoB, hclB⟩, hPc⟩ := hp
  intro T hT X
  rcases vx_callV X hx (C := C) (bytes := bytes) (maxL := maxL) (ret := ret) ho hl hin hse hcode hy hK (by rw [hT]; exact hcB) hoB hclB hg (hsize.trans hml.symm) (argsL := As) (rest := rest) (fun sig h => hn.trans (hlen sig h)) hstack hW (by rw [hb]; exact hdg)
    (fun vm₁ hW₁ => ⟨hf.1, hf.2, hPc (T.setVm vm₁) hT hW₁⟩) with ⟨v, vm₁, ⟨U', l2, c2, s2⟩, hW₁, X', ⟨g', mk, t, L, e1, e2, hq, h1, hL, h2, h3⟩, st⟩ | ⟨q, vm₁, ⟨U', l2, c2, s2⟩, hW₁, X', ⟨g', mk, t, L, E, ce, e1, e2, hq, hce, hcv, hcl, h1, hL, h2, h3⟩, st⟩
  · dsimp only [Pt.U, Pt.locs, Pt.cells, Pt.slots] at X' e1 e2 h1 h2 h3 st
    subst h1; subst h2; subst h3
    exact Or.inl ⟨v, (T.setVm vm₁).calling g' mk (Value.ref b :: As).toArray, t, U', L, hT, X', hL, e1, e2, hq, st⟩
  · dsimp only [Pt.U, Pt.locs, Pt.cells, Pt.slots] at X' e1 e2 h1 h2 h3 st hcl
    subst h1; subst h2; subst h3
    exact Or.inr ⟨q, (T.setVm vm₁).calling g' mk (Value.ref b :: As).toArray, t, U', L, E, ce, hT, X', hL, e1, e2, hq, hce, hcv, vx_cls hW₁ hcl, st⟩
theorem vx_runS (S : CallFix p m c cc nL s args Ts own) (hM : vx_Met l y ws rm Pc Qc XC mc ms free) (cw : CallB R s args own index y bytes maxL ret ws rm mc ms n ∧ (Cond.static y).before args s = true) (hp : PreS s H Pc As)
    (hg : g.method = m) (hn : As.length = n) (hsize : g.locals.size = nL) (hstack : g.stack = As.reverse ++ rest) (hW : 2 * g.monitorRoom + (rest.map fun v => v.category).sum ≤ 8) (hdg : decode cc g.pc = .ok (.invokestatic index, 3)) (hf : cells + mc ≤ R.cells ∧ slots + ms ≤ R.slots) :
    vx_Run p l e R s m args below meth c H locs cells slots mc ms g rest (Qc As.toArray) XC free := by
  have hK : vx_Back l R p e below s args y 3 8 (PreOf R mc ms Pc) (PostOf Qc mc ms free) (vx_Post XC mc ms free) := vx_callBack cw.1 hM hp.1
  obtain ⟨⟨-, -, -, -, -, -, hcode, hini, hy, hlen, hl⟩, hstt⟩ := cw
  obtain ⟨hx, hb, hml, ho, -⟩ := S
  intro T hT X
  rcases vx_callS X hx (bytes := bytes) (maxL := maxL) (ret := ret) ho hl hstt hini hcode hy hK hg (hsize.trans hml.symm) (argsL := As) (rest := rest) (fun sig h => hn.trans (hlen sig h)) hstack hW (by rw [hb]; exact hdg)
    (fun vm₁ hW₁ => ⟨hf.1, hf.2, hp.2 (T.setVm vm₁) hT hW₁⟩) with ⟨v, vm₁, ⟨U', l2, c2, s2⟩, hW₁, X', ⟨g', mk, t, L, e1, e2, hq, h1, hL, h2, h3⟩, st⟩ | ⟨q, vm₁, ⟨U', l2, c2, s2⟩, hW₁, X', ⟨g', mk, t, L, E, ce, e1, e2, hq, hce, hcv, hcl, h1, hL, h2, h3⟩, st⟩
  · dsimp only [Pt.U, Pt.locs, Pt.cells, Pt.slots] at X' e1 e2 h1 h2 h3 st
    subst h1; subst h2; subst h3
    exact Or.inl ⟨v, (T.setVm vm₁).calling g' mk As.toArray, t, U', L, hT, X', hL, e1, e2, hq, st⟩
  · dsimp only [Pt.U, Pt.locs, Pt.cells, Pt.slots] at X' e1 e2 h1 h2 h3 st hcl
    subst h1; subst h2; subst h3
    exact Or.inr ⟨q, (T.setVm vm₁).calling g' mk As.toArray, t, U', L, E, ce, hT, X', hL, e1, e2, hq, hce, hcv, vx_cls hW₁ hcl, st⟩
end Runs
section Rows
variable {p : Program} {l : Launch} {e : Env} {R : Room} {s : State} {m : MethodId} {args : Array Value} {below : List Frame} {meth : Method} {c : Code} {H : Heap} {locs : List Loc} {cells slots : Nat} {Q : State → Prop}
variable {mc ms : Nat} {free : Addr → Prop} {A0 A1 : Nat → Prop} {H0 : Heap} {a : Array Value} {pc : Nat} {ls : Array Slot} {st0 rest : List Value}
theorem vx_keep {st₀ t T' : State} {L : List Loc} (h0 : st₀.heap = H) (e1 : T'.heap = t.heap) (hS : va_S A0 H0 H locs) (hA : ∀ q, q < H.size → A1 q → A0 q) (hf : ∀ q, free q → A0 q) (hL : ∀ q ∈ L, free q.base) (hF : va_F A1 st₀ t) :
    H.size ≤ T'.heap.size ∧ (∀ q : Nat, q < H.size → ¬ A1 q → T'.heap[q]? = H[q]?) ∧ va_S A0 H0 T'.heap (locs ++ L) := by
  obtain ⟨hz, hk⟩ := hF
  rw [h0] at hz hk
  exact ⟨by rw [e1]; exact hz, fun q h1 h2 => by rw [e1]; exact hk q h1 h2,
    ⟨Nat.le_trans hS.1 (by rw [e1]; exact hz), fun q h1 h2 => by rw [e1, hk q (Nat.lt_of_lt_of_le h1 hS.1) (fun z => h2 (hA q (Nat.lt_of_lt_of_le h1 hS.1) z))]; exact hS.2.1 q h1 h2, fun q hq => by
      rcases List.mem_append.mp hq with h | h
      · exact hS.2.2 q h
      · exact hf _ (hL q h)⟩⟩
theorem vx_calli {S SX : Type} {post : Int32 → S → Prop} {px : SX → Prop} {B : S → State → Prop} {BX : String → SX → State → Prop} {AX : Nat → Prop} (hr : vx_Run p l e R s m args below meth c H locs cells slots mc ms (F0 m pc ls st0) rest (va_Qi post B A1 a) (vx_X px BX AX) free) (hS : va_S A0 H0 H locs) (hA : ∀ q, q < H.size → A1 q → A0 q) (hf : ∀ q, free q → A0 q) (hAX : ∀ q, q < H.size → AX q → A0 q)
    (kx : ∀ (E : String) (ce : Cell) (q9 : Addr) (u : SX) (t : State) (H1 : Heap) (locs1 : List Loc), t.heap = H1 → s.vm.Alike t.vm → px u → BX E u t → H.size ≤ H1.size → (∀ q : Nat, q < H.size → ¬ AX q → H1[q]? = H[q]?) → va_S A0 H0 H1 locs1 → H1[q9]? = some ce → ce.vm = .none → s.vm.findClass E = some ce.cls → vx_W p l e R s m args below meth c H1 locs1 (cells + mc) (slots + ms) Q (F0 m pc ls rest) q9)
    (kk : ∀ (r : Int32) (u : S) (t : State) (H1 : Heap) (locs1 : List Loc), t.heap = H1 → s.vm.Alike t.vm → post r u → B u t → H.size ≤ H1.size → (∀ q : Nat, q < H.size → ¬ A1 q → H1[q]? = H[q]?) → va_S A0 H0 H1 locs1 → W p l e R s m args below meth c H1 locs1 (cells + mc) (slots + ms) Q (F0 m (pc + 3) ls (.int r :: rest))) : W p l e R s m args below meth c H locs cells slots Q (F0 m pc ls st0) := by
  intro T hT X
  rcases hr T hT X with ⟨v, st₀, t, T', L, h0, X', hL, e1, e2, ⟨⟨r, u, hv, hp, hb⟩, hF⟩, st⟩ | ⟨q, st₀, t, T', L, E, ce, h0, X', hL, e1, e2, ⟨u, hp, hb, hF⟩, hce, hcv, hcl, st⟩
  · cases hv
    obtain ⟨k1, k2, k3⟩ := vx_keep h0 e1 hS hA hf hL hF
    obtain ⟨t2, a1, b1⟩ := kk r u t T'.heap (locs ++ L) e1.symm (by rw [← e2]; exact X'.warmed.alike) hp hb k1 k2 k3 T' rfl X'
    exact ⟨t2, st t2 a1, b1⟩
  · obtain ⟨k1, k2, k3⟩ := vx_keep h0 e1 hS hAX hf hL hF
    obtain ⟨t2, a1, b1⟩ := kx E ce q u t T'.heap (locs ++ L) e1.symm (by rw [← e2]; exact X'.warmed.alike) hp hb k1 k2 k3 (by rw [e1]; exact hce) hcv hcl T' rfl X'
    exact ⟨t2, st.trans a1, b1⟩
theorem vx_calll {S SX : Type} {post : Int64 → S → Prop} {px : SX → Prop} {B : S → State → Prop} {BX : String → SX → State → Prop} {AX : Nat → Prop} (hr : vx_Run p l e R s m args below meth c H locs cells slots mc ms (F0 m pc ls st0) rest (va_Ql post B A1 a) (vx_X px BX AX) free) (hS : va_S A0 H0 H locs) (hA : ∀ q, q < H.size → A1 q → A0 q) (hf : ∀ q, free q → A0 q) (hAX : ∀ q, q < H.size → AX q → A0 q)
    (kx : ∀ (E : String) (ce : Cell) (q9 : Addr) (u : SX) (t : State) (H1 : Heap) (locs1 : List Loc), t.heap = H1 → s.vm.Alike t.vm → px u → BX E u t → H.size ≤ H1.size → (∀ q : Nat, q < H.size → ¬ AX q → H1[q]? = H[q]?) → va_S A0 H0 H1 locs1 → H1[q9]? = some ce → ce.vm = .none → s.vm.findClass E = some ce.cls → vx_W p l e R s m args below meth c H1 locs1 (cells + mc) (slots + ms) Q (F0 m pc ls rest) q9)
    (kk : ∀ (r : Int64) (u : S) (t : State) (H1 : Heap) (locs1 : List Loc), t.heap = H1 → s.vm.Alike t.vm → post r u → B u t → H.size ≤ H1.size → (∀ q : Nat, q < H.size → ¬ A1 q → H1[q]? = H[q]?) → va_S A0 H0 H1 locs1 → W p l e R s m args below meth c H1 locs1 (cells + mc) (slots + ms) Q (F0 m (pc + 3) ls (.long r :: rest))) : W p l e R s m args below meth c H locs cells slots Q (F0 m pc ls st0) := by
  intro T hT X
  rcases hr T hT X with ⟨v, st₀, t, T', L, h0, X', hL, e1, e2, ⟨⟨r, u, hv, hp, hb⟩, hF⟩, st⟩ | ⟨q, st₀, t, T', L, E, ce, h0, X', hL, e1, e2, ⟨u, hp, hb, hF⟩, hce, hcv, hcl, st⟩
  · cases hv
    obtain ⟨k1, k2, k3⟩ := vx_keep h0 e1 hS hA hf hL hF
    obtain ⟨t2, a1, b1⟩ := kk r u t T'.heap (locs ++ L) e1.symm (by rw [← e2]; exact X'.warmed.alike) hp hb k1 k2 k3 T' rfl X'
    exact ⟨t2, st t2 a1, b1⟩
  · obtain ⟨k1, k2, k3⟩ := vx_keep h0 e1 hS hAX hf hL hF
    obtain ⟨t2, a1, b1⟩ := kx E ce q u t T'.heap (locs ++ L) e1.symm (by rw [← e2]; exact X'.warmed.alike) hp hb k1 k2 k3 (by rw [e1]; exact hce) hcv hcl T' rfl X'
    exact ⟨t2, st.trans a1, b1⟩
theorem vx_callf {S SX : Type} {post : UInt32 → S → Prop} {px : SX → Prop} {B : S → State → Prop} {BX : String → SX → State → Prop} {AX : Nat → Prop} (hr : vx_Run p l e R s m args below meth c H locs cells slots mc ms (F0 m pc ls st0) rest (va_Qf post B A1 a) (vx_X px BX AX) free) (hS : va_S A0 H0 H locs) (hA : ∀ q, q < H.size → A1 q → A0 q) (hf : ∀ q, free q → A0 q) (hAX : ∀ q, q < H.size → AX q → A0 q)
    (kx : ∀ (E : String) (ce : Cell) (q9 : Addr) (u : SX) (t : State) (H1 : Heap) (locs1 : List Loc), t.heap = H1 → s.vm.Alike t.vm → px u → BX E u t → H.size ≤ H1.size → (∀ q : Nat, q < H.size → ¬ AX q → H1[q]? = H[q]?) → va_S A0 H0 H1 locs1 → H1[q9]? = some ce → ce.vm = .none → s.vm.findClass E = some ce.cls → vx_W p l e R s m args below meth c H1 locs1 (cells + mc) (slots + ms) Q (F0 m pc ls rest) q9)
    (kk : ∀ (r : UInt32) (u : S) (t : State) (H1 : Heap) (locs1 : List Loc), t.heap = H1 → s.vm.Alike t.vm → post r u → B u t → H.size ≤ H1.size → (∀ q : Nat, q < H.size → ¬ A1 q → H1[q]? = H[q]?) → va_S A0 H0 H1 locs1 → W p l e R s m args below meth c H1 locs1 (cells + mc) (slots + ms) Q (F0 m (pc + 3) ls (.float r :: rest))) : W p l e R s m args below meth c H locs cells slots Q (F0 m pc ls st0) := by
  intro T hT X
  rcases hr T hT X with ⟨v, st₀, t, T', L, h0, X', hL, e1, e2, ⟨⟨r, u, hv, hp, hb⟩, hF⟩, st⟩ | ⟨q, st₀, t, T', L, E, ce, h0, X', hL, e1, e2, ⟨u, hp, hb, hF⟩, hce, hcv, hcl, st⟩
  · cases hv
    obtain ⟨k1, k2, k3⟩ := vx_keep h0 e1 hS hA hf hL hF
    obtain ⟨t2, a1, b1⟩ := kk r u t T'.heap (locs ++ L) e1.symm (by rw [← e2]; exact X'.warmed.alike) hp hb k1 k2 k3 T' rfl X'
    exact ⟨t2, st t2 a1, b1⟩
  · obtain ⟨k1, k2, k3⟩ := vx_keep h0 e1 hS hAX hf hL hF
    obtain ⟨t2, a1, b1⟩ := kx E ce q u t T'.heap (locs ++ L) e1.symm (by rw [← e2]; exact X'.warmed.alike) hp hb k1 k2 k3 (by rw [e1]; exact hce) hcv hcl T' rfl X'
    exact ⟨t2, st.trans a1, b1⟩
theorem vx_calld {S SX : Type} {post : UInt64 → S → Prop} {px : SX → Prop} {B : S → State → Prop} {BX : String → SX → State → Prop} {AX : Nat → Prop} (hr : vx_Run p l e R s m args below meth c H locs cells slots mc ms (F0 m pc ls st0) rest (va_Qd post B A1 a) (vx_X px BX AX) free) (hS : va_S A0 H0 H locs) (hA : ∀ q, q < H.size → A1 q → A0 q) (hf : ∀ q, free q → A0 q) (hAX : ∀ q, q < H.size → AX q → A0 q)
    (kx : ∀ (E : String) (ce : Cell) (q9 : Addr) (u : SX) (t : State) (H1 : Heap) (locs1 : List Loc), t.heap = H1 → s.vm.Alike t.vm → px u → BX E u t → H.size ≤ H1.size → (∀ q : Nat, q < H.size → ¬ AX q → H1[q]? = H[q]?) → va_S A0 H0 H1 locs1 → H1[q9]? = some ce → ce.vm = .none → s.vm.findClass E = some ce.cls → vx_W p l e R s m args below meth c H1 locs1 (cells + mc) (slots + ms) Q (F0 m pc ls rest) q9)
    (kk : ∀ (r : UInt64) (u : S) (t : State) (H1 : Heap) (locs1 : List Loc), t.heap = H1 → s.vm.Alike t.vm → post r u → B u t → H.size ≤ H1.size → (∀ q : Nat, q < H.size → ¬ A1 q → H1[q]? = H[q]?) → va_S A0 H0 H1 locs1 → W p l e R s m args below meth c H1 locs1 (cells + mc) (slots + ms) Q (F0 m (pc + 3) ls (.double r :: rest))) : W p l e R s m args below meth c H locs cells slots Q (F0 m pc ls st0) := by
  intro T hT X
  rcases hr T hT X with ⟨v, st₀, t, T', L, h0, X', hL, e1, e2, ⟨⟨r, u, hv, hp, hb⟩, hF⟩, st⟩ | ⟨q, st₀, t, T', L, E, ce, h0, X', hL, e1, e2, ⟨u, hp, hb, hF⟩, hce, hcv, hcl, st⟩
  · cases hv
    obtain ⟨k1, k2, k3⟩ := vx_keep h0 e1 hS hA hf hL hF
    obtain ⟨t2, a1, b1⟩ := kk r u t T'.heap (locs ++ L) e1.symm (by rw [← e2]; exact X'.warmed.alike) hp hb k1 k2 k3 T' rfl X'
    exact ⟨t2, st t2 a1, b1⟩
  · obtain ⟨k1, k2, k3⟩ := vx_keep h0 e1 hS hAX hf hL hF
    obtain ⟨t2, a1, b1⟩ := kx E ce q u t T'.heap (locs ++ L) e1.symm (by rw [← e2]; exact X'.warmed.alike) hp hb k1 k2 k3 (by rw [e1]; exact hce) hcv hcl T' rfl X'
    exact ⟨t2, st.trans a1, b1⟩
theorem vx_callv {S SX : Type} {post : S → Prop} {px : SX → Prop} {B : S → State → Prop} {BX : String → SX → State → Prop} {AX : Nat → Prop} (hr : vx_Run p l e R s m args below meth c H locs cells slots mc ms (F0 m pc ls st0) rest (va_Qv post B A1 a) (vx_X px BX AX) free) (hS : va_S A0 H0 H locs) (hA : ∀ q, q < H.size → A1 q → A0 q) (hf : ∀ q, free q → A0 q) (hAX : ∀ q, q < H.size → AX q → A0 q)
    (kx : ∀ (E : String) (ce : Cell) (q9 : Addr) (u : SX) (t : State) (H1 : Heap) (locs1 : List Loc), t.heap = H1 → s.vm.Alike t.vm → px u → BX E u t → H.size ≤ H1.size → (∀ q : Nat, q < H.size → ¬ AX q → H1[q]? = H[q]?) → va_S A0 H0 H1 locs1 → H1[q9]? = some ce → ce.vm = .none → s.vm.findClass E = some ce.cls → vx_W p l e R s m args below meth c H1 locs1 (cells + mc) (slots + ms) Q (F0 m pc ls rest) q9)
    (kk : ∀ (u : S) (t : State) (H1 : Heap) (locs1 : List Loc), t.heap = H1 → s.vm.Alike t.vm → post u → B u t → H.size ≤ H1.size → (∀ q : Nat, q < H.size → ¬ A1 q → H1[q]? = H[q]?) → va_S A0 H0 H1 locs1 → W p l e R s m args below meth c H1 locs1 (cells + mc) (slots + ms) Q (F0 m (pc + 3) ls (rest))) : W p l e R s m args below meth c H locs cells slots Q (F0 m pc ls st0) := by
  intro T hT X
  rcases hr T hT X with ⟨v, st₀, t, T', L, h0, X', hL, e1, e2, ⟨⟨u, hv, hp, hb⟩, hF⟩, st⟩ | ⟨q, st₀, t, T', L, E, ce, h0, X', hL, e1, e2, ⟨u, hp, hb, hF⟩, hce, hcv, hcl, st⟩
  · cases hv
    obtain ⟨k1, k2, k3⟩ := vx_keep h0 e1 hS hA hf hL hF
    obtain ⟨t2, a1, b1⟩ := kk u t T'.heap (locs ++ L) e1.symm (by rw [← e2]; exact X'.warmed.alike) hp hb k1 k2 k3 T' rfl X'
    exact ⟨t2, st t2 a1, b1⟩
  · obtain ⟨k1, k2, k3⟩ := vx_keep h0 e1 hS hAX hf hL hF
    obtain ⟨t2, a1, b1⟩ := kx E ce q u t T'.heap (locs ++ L) e1.symm (by rw [← e2]; exact X'.warmed.alike) hp hb k1 k2 k3 (by rw [e1]; exact hce) hcv hcl T' rfl X'
    exact ⟨t2, st.trans a1, b1⟩
/-- caught by the row x of this method's table; the rows ahead don't take it -/
theorem vx_catch {own name : String} {E : String} {ce : Cell} {q : Addr} (hown : s.vm.findClass own = some m.cls) (pre : List ExceptionTableEntry) (x : ExceptionTableEntry) (suf : List ExceptionTableEntry) (hsplit : c.exceptionTable.toList = pre ++ x :: suf)
    (hpass : ∀ z ∈ pre, covers z pc = false ∨ (z.catchType ≠ 0 ∧ ∃ nm : String, (Cond.classLink own z.catchType nm).before args s = true ∧ va_Nc E nm s)) (hx : covers x pc = true) (h0 : x.catchType ≠ 0)
    (hlink : (Cond.classLink own x.catchType name).before args s = true) (hcast : (Cond.castable E name).before args s = true) (hcell : H[q]? = some ce) (hv : ce.vm = .none) (hcl : s.vm.findClass E = some ce.cls)
    (kk : W p l e R s m args below meth c H locs cells slots Q (F0 m x.handlerPc ls [.ref q])) : vx_W p l e R s m args below meth c H locs cells slots Q (F0 m pc ls rest) q := by
  intro T hT X
  have hpl : e.platform.magicAccessors = ({} : Platform).magicAccessors := by rw [X.admits.platform]
  obtain ⟨c3, c4, hc3, hc4, hasg⟩ := Cond.castable_spec hcast
  cases Option.some.inj (hc3.symm.trans hcl)
  obtain ⟨c5, hc5, hcl5⟩ := Cond.classLink_spec hown hlink e.platform hpl
  cases Option.some.inj (hc4.symm.trans hc5)
  obtain ⟨vm', X', st⟩ := X.thenCaughtThrough q (g := F0 m pc ls rest) rfl (Steps.refl _) (by rw [hT]; exact hcell) (by rw [hv]; rfl) (by obtain ⟨k9, h9, -⟩ := Vm.findClass_spec hcl; exact ⟨k9, h9⟩) pre x suf hsplit
    (fun z hz => by
      rcases hpass z hz with h | ⟨hz0, nm, hl1, hn1⟩
      · exact Or.inl h
      · obtain ⟨c6, hc6, hcl6⟩ := Cond.classLink_spec hown hl1 e.platform hpl
        obtain ⟨a8, b8, h1, h2, h3⟩ := hn1
        cases Option.some.inj (h1.symm.trans hcl)
        cases Option.some.inj (h2.symm.trans hc6)
        exact Or.inr ⟨hz0, _, hcl6, h3⟩) hx (Or.inr ⟨h0, c4, hcl5, hasg⟩)
  obtain ⟨t, a1, b1⟩ := kk (T.setVm vm') hT X'
  exact ⟨t, st.trans a1, b1⟩
end Rows
section Ends
variable {p : Program} {l : Launch} {e : Env} {R : Room} {s : State} {m : MethodId} {args : Array Value} {below : List Frame} {meth : Method} {c : Code} {H : Heap} {locs : List Loc} {cells slots : Nat} {Q : State → Prop}
variable {mc ms : Nat} {free : Addr → Prop} {A0 A1 : Nat → Prop} {H0 : Heap} {a : Array Value} {ls : Array Slot} {st0 rest : List Value}
variable {Qc : Array Value → State → Outcome → State → Prop} {XC : String → State → State → Prop}
/-- what a body that may throw owes at its end -/
def vx_MQ (below : List Frame) (Qc : Array Value → State → Outcome → State → Prop) (XC : String → State → State → Prop) (a : Array Value) (s : State) (mc ms : Nat) (free : Addr → Prop) : State → Prop := fun t =>
  ∃ o, t.status = .running ∧ Ended t below o ∧ vx_Q Qc XC mc ms free a s o t
theorem vx_ret {g : JFrame} {mc ms : Nat} (k : W p l e R s m args below meth c H locs cells slots (MQ below Qc args s mc ms free) g) : W p l e R s m args below meth c H locs cells slots (vx_MQ below Qc XC args s mc ms free) g := by
  intro T hT X
  obtain ⟨t, a1, o, b1, b2, b3, b4⟩ := k T hT X
  exact ⟨t, a1, o, b1, b2, Or.inl ⟨b3, b4⟩⟩
/-- not caught here: it goes on to the caller -/
theorem vx_widen {g : JFrame} {q : Addr} {k n : Nat} (h1 : cells ≤ k) (h2 : slots ≤ n) (kk : vx_W p l e R s m args below meth c H locs k n Q g q) : vx_W p l e R s m args below meth c H locs cells slots Q g q := fun T hT X => kk T hT (stand_widen X h1 h2)
theorem vx_out {pc : Nat} {E : String} {ce : Cell} {q : Addr} {mc ms : Nat} (hout : ∀ x ∈ c.exceptionTable.toList, covers x pc = false) (hlocks : meth.locks = false) (hcell : H[q]? = some ce) (hv : ce.vm = .none) (hcl : s.vm.findClass E = some ce.cls)
    (hx : ∀ t : State, t.heap = H → s.vm.Alike t.vm → XC E s t) (hf : ∀ z ∈ locs, free z.base) (hc : cells ≤ mc) (hs : slots ≤ ms) :
    vx_W p l e R s m args below meth c H locs cells slots (vx_MQ below Qc XC args s mc ms free) (F0 m pc ls rest) q := by
  intro T hT X
  obtain ⟨st1, hrun, hend, hW, hsm⟩ := X.leaveThrown q (g := F0 m pc ls rest) rfl rfl rfl hout hlocks
  have hcell9 : (T.setFrames (.throwing q :: below)).heap[q]? = some ce := by
    show T.heap[q]? = some ce
    rw [hT]; exact hcell
  exact ⟨_, st1, .threw q, hrun, hend, Or.inr ⟨q, rfl, E, ce, locs, hx _ hT hW.alike, hcell9, hv, hcl, hW, hsm.mono hc hs, hf⟩⟩
theorem vx_frame {U : State} {k n : Nat} (h : s.sameButNew ({ U with vm := s.vm } : State) locs k n) : s.heap.size ≤ U.heap.size ∧ ∀ q : Nat, q < s.heap.size → (∀ z ∈ locs, z.base ≠ q) → U.heap[q]? = s.heap[q]? := by
  obtain ⟨-, h2, -, -, -, h6⟩ := h
  refine ⟨h2, fun q hq hz => ?_⟩
  obtain ⟨c9, e1, e2, e3, e4⟩ := h6 q _ (Array.getElem?_eq_getElem hq)
  have hs : c9.slots = (s.heap[q]).slots := Array.ext_getElem? fun i => e4 i fun hm => hz _ hm rfl
  have h9 : c9 = s.heap[q] := by
    rw [hs] at e2
    exact e2
  have e5 : U.heap[q]? = some c9 := e1
  rw [e5, h9, Array.getElem?_eq_getElem hq]
/-- the words of a throw but the four that speak of the heap -/
def vx_no (w : Cond) : Bool := decide (w ≠ .isRef (.static Bundle.tN "UNASSIGNED_STACK" Bundle.steD)) && decide (w ≠ .isRef (.static Bundle.tN "SUPPRESSED_SENTINEL" Bundle.listD)) && decide (w ≠ .laysStatic Bundle.tN "UNASSIGNED_STACK" Bundle.steD) && decide (w ≠ .laysStatic Bundle.tN "SUPPRESSED_SENTINEL" Bundle.listD)
def vx_at0 (own : String) (ic : Nat) (X : String) (names : List String) : List Cond := (Bundle.ownAtoms0 own ic X names).filter vx_no
def vx_atS (own : String) (ic : Nat) (X : String) (names : List String) : List Cond := (Bundle.ownAtoms own ic X names).filter vx_no
/-- a word that the tables alone decide, or a good one -/
def vx_ot (w : Cond) : Bool := w.onTables || goodWord w
theorem vx_ot_at {args a' : Array Value} {s U : State} {w : Cond} (hW : s.WarmedH U.vm) (hvm : s.vm = U.vm) (hg : vx_ot w = true) (h : w.before args s = true) : w.before a' U = true := by
  simp only [vx_ot, Bool.or_eq_true] at hg
  rcases hg with hg | hg
  · exact va_tabs hg hvm h
  · exact word_at hW (good_of_word hg) h
/-- a list's words: the good ones out of the method's own list, the others by premises of their own -/
theorem vx_hat {args : Array Value} {s : State} {L B : List Cond} (h1 : ∀ w ∈ L.filter goodWord, w.before args s = true) (h2 : ∀ w ∈ L.filter (fun w => !goodWord w), w ∈ B) (h3 : ∀ w ∈ B, w.before args s = true) : ∀ w ∈ L, w.before args s = true := by
  intro w hw
  by_cases g : goodWord w = true
  · exact h1 w (List.mem_filter.mpr ⟨hw, g⟩)
  · refine h3 w (h2 w (List.mem_filter.mpr ⟨hw, ?_⟩))
    show (!goodWord w) = true
    cases hgw : goodWord w
    · rfl
    · exact absurd hgw g
theorem vx_c {args : Array Value} {s : State} {w : Cond} {B : List Cond} (h : w.before args s = true) (t : ∀ w ∈ B, w.before args s = true) : ∀ w' ∈ w :: B, w'.before args s = true := fun w' h' => (List.mem_cons.mp h').elim (fun e => by rw [e]; exact h) (t w')
theorem vx_n {args : Array Value} {s : State} : ∀ w ∈ ([] : List Cond), w.before args s = true := fun _ h => nomatch h
theorem vx_own {args : Array Value} {s : State} {L : List Cond} (h1 : ∀ w ∈ L.filter vx_no, w.before args s = true)
    (hU : (Cond.isRef (.static Bundle.tN "UNASSIGNED_STACK" Bundle.steD)).before args s = true) (hN : (Cond.isRef (.static Bundle.tN "SUPPRESSED_SENTINEL" Bundle.listD)).before args s = true)
    (lU : (Cond.laysStatic Bundle.tN "UNASSIGNED_STACK" Bundle.steD).before args s = true) (lN : (Cond.laysStatic Bundle.tN "SUPPRESSED_SENTINEL" Bundle.listD).before args s = true) : ∀ w ∈ L, w.before args s = true := by
  intro w hw
  by_cases e1 : w = .isRef (.static Bundle.tN "UNASSIGNED_STACK" Bundle.steD)
  · rw [e1]; exact hU
  · by_cases e2 : w = .isRef (.static Bundle.tN "SUPPRESSED_SENTINEL" Bundle.listD)
    · rw [e2]; exact hN
    · by_cases e3 : w = .laysStatic Bundle.tN "UNASSIGNED_STACK" Bundle.steD
      · rw [e3]; exact lU
      · by_cases e4 : w = .laysStatic Bundle.tN "SUPPRESSED_SENTINEL" Bundle.listD
        · rw [e4]; exact lN
        · exact h1 w (List.mem_filter.mpr ⟨hw, by unfold vx_no; rw [decide_eq_true e1, decide_eq_true e2, decide_eq_true e3, decide_eq_true e4]; rfl⟩)
/-- where a static field lies, its class's statics cell in H -/
def vx_L (C n d : String) (A : Nat → Prop) (U : State) (H : Heap) : Prop := ∃ (c : ClassId) (k : Class) (i : Nat) (f : Field) (a : Nat) (cell : Cell), U.vm.findClass C = some c ∧ U.fieldFound? C n d = some (c, k, i, f) ∧ f.isStatic = true ∧ k.statics = some a ∧ H[a]? = some cell ∧ cell.vm.isStatics = true ∧ cell.cls = c ∧ f.slot < cell.slots.size ∧ k.staticTypes[f.slot]? = some f.type ∧ ¬ A a
theorem vx_L.moved {C n d : String} {A : Nat → Prop} {u U : State} {H : Heap} (hvm : u.vm.Alike U.vm) (h : vx_L C n d A u H) : vx_L C n d A U H := by
  obtain ⟨c, k, i, f, a, cell, h1, h2, h3, h4, h5, h6, h7, h8, h9, h10⟩ := h
  obtain ⟨k', hi', he⟩ := State.fieldFound?_setVm hvm h2
  exact ⟨c, k', i, f, a, cell, by rw [hvm.findClass]; exact h1, hi', h3, by rw [he]; exact h4, h5, h6, h7, h8, by rw [he]; exact h9, h10⟩
theorem vx_L.kept {C n d : String} {A : Nat → Prop} {U : State} {H H1 : Heap} (h : vx_L C n d A U H) (hq : ∀ a : Nat, a < H.size → ¬ A a → H1[a]? = H[a]?) : vx_L C n d A U H1 := by
  obtain ⟨c, k, i, f, a, cell, h1, h2, h3, h4, h5, h6, h7, h8, h9, h10⟩ := h
  exact ⟨c, k, i, f, a, cell, h1, h2, h3, h4, by rw [hq a (Array.getElem?_eq_some_iff.mp h5).1 h10]; exact h5, h6, h7, h8, h9, h10⟩
theorem vx_L.narrow {C n d : String} {A B : Nat → Prop} {U : State} {H : Heap} (h : vx_L C n d A U H) (hAB : ∀ q, B q → A q) : vx_L C n d B U H := by
  obtain ⟨c, k, i, f, a, cell, h1, h2, h3, h4, h5, h6, h7, h8, h9, h10⟩ := h
  exact ⟨c, k, i, f, a, cell, h1, h2, h3, h4, h5, h6, h7, h8, h9, fun z => h10 (hAB _ z)⟩
theorem vx_L.word {C n d : String} {A : Nat → Prop} {s : State} {args : Array Value} (h : vx_L C n d A s s.heap) : (Cond.laysStatic C n d).before args s = true := by
  obtain ⟨c, k, i, f, a, cell, h1, h2, h3, h4, h5, h6, h7, h8, h9, -⟩ := h
  show (Cond.laysStatic C n d).holds args s none s [] = true
  exact Cond.laysStatic_of h1 h2 h3 h4 h5 h6 h7 h8 h9
/-- .. and what it holds: null or some reference -/
def vx_Zq (C n d : String) (A : Nat → Prop) (U : State) (H : Heap) : Prop := va_Zq C n d A U H ∧ vx_L C n d A U H
theorem vx_Zq.moved {C n d : String} {A : Nat → Prop} {u U : State} {H : Heap} (hvm : u.vm.Alike U.vm) (h : vx_Zq C n d A u H) : vx_Zq C n d A U H := ⟨va_Zq.moved hvm h.1, vx_L.moved hvm h.2⟩
theorem vx_Zq.kept {C n d : String} {A : Nat → Prop} {U : State} {H H1 : Heap} (h : vx_Zq C n d A U H) (hq : ∀ a : Nat, a < H.size → ¬ A a → H1[a]? = H[a]?) : vx_Zq C n d A U H1 := ⟨va_Zq.kept h.1 hq, vx_L.kept h.2 hq⟩
theorem vx_Zq.narrow {C n d : String} {A B : Nat → Prop} {U : State} {H : Heap} (h : vx_Zq C n d A U H) (hAB : ∀ q, B q → A q) : vx_Zq C n d B U H := ⟨va_Zq.narrow h.1 hAB, vx_L.narrow h.2 hAB⟩
theorem vx_Zqof {args : Array Value} {s : State} {C n d : String} {A : Nat → Prop} (hl : (Cond.laysStatic C n d).before args s = true) (hini : (Cond.initialized C).before args s = true) (h : (Cond.isRef (.static C n d)).before args s = true) (hA : ∀ a : Nat, a < s.heap.size → ¬ A a) : vx_Zq C n d A s s.heap := by
  refine ⟨va_Zqof hl hini h hA, ?_⟩
  obtain ⟨c, k, i, f, a, cell, h1, h2, h3, h4, h5, h6, h7, h8, h9⟩ := Cond.laysStatic_spec hl
  exact ⟨c, k, i, f, a, cell, h1, h2, h3, h4, h5, h6, h7, h8, h9, hA a (Array.getElem?_eq_some_iff.mp h5).1⟩
theorem vx_isRef {C n d : String} {v : Value} {A : Nat → Prop} {s : State} {args : Array Value} (h : va_Z C n d v A s s.heap) (hv : v.isRef = true) : (Cond.isRef (.static C n d)).before args s = true := by
  obtain ⟨cf, kf, fi, f, a, cell, h1, h2, h3, h4, h5, h6, h7, -⟩ := h
  have he : (Term.static C n d).eval args s none [] s = some v := by
    simp [Term.eval, State.fieldNamed?, h1, h2, h4, h5, h6, h7]
  simp only [Cond.before, Cond.holds, Cond.value, he]
  cases v <;> simp_all [Value.isRef]
theorem vx_isRefq {C n d : String} {A : Nat → Prop} {s : State} {args : Array Value} (h : va_Zq C n d A s s.heap) : (Cond.isRef (.static C n d)).before args s = true := by
  rcases h with h | ⟨t, h⟩
  · exact vx_isRef h rfl
  · exact vx_isRef h rfl
/-- the same frame, seen from here: as if the method were called anew in this heap -/
theorem vx_rebase {T : State} (X : Stand p l e R s m args below meth c T locs cells slots) {R' : Room} (hf : R'.frames ≤ R.frames) (hl : R'.locals ≤ R.locals) (hc : cells + R'.cells ≤ R.cells) (hs : slots + R'.slots ≤ R.slots) :
    Stand p l e R' ((T.setVm s.vm).setFrames (.invoking m args :: below)) m args below meth c T [] 0 0 := by
  have htop : (T.setVm s.vm).topJava?.isSome := X.here.top
  have hF : ((T.setVm s.vm).setFrames (.invoking m args :: below)).frames = .invoking m args :: below := State.frames_setFrames _ (State.cur_lt_of_top htop)
  obtain ⟨g₀, hg0⟩ := Option.isSome_iff_exists.mp htop
  obtain ⟨r, hr⟩ := State.topJava?_eq_some.mp hg0
  have hl9 : e.platform.stackLimits (T.setVm s.vm).me = e.platform.stackLimits s.me := X.limits
  have hb9 : (T.setVm s.vm).me.stackBytes = s.me.stackBytes := X.bytes
  refine ⟨X.admits, X.cas, X.clock, hF, ?_, X.hears, X.method, X.code, X.here, X.tail, X.warmed, ?_, ?_, ?_⟩
  · have h := X.room
    have hU : ((T.setVm s.vm).setFrames (.invoking m args :: below)).localsInUse = s.localsInUse := by
      rw [State.localsInUse_invoking hF (meth := meth) (c := c) X.method X.code, State.localsInUse_invoking X.frames X.method X.code]
    simp only [State.hasRoom, Bool.and_eq_true, decide_eq_true_eq] at h ⊢
    obtain ⟨⟨⟨⟨h1, h2, h3, h4, h5, h6⟩, h7⟩, h8⟩, h9⟩ := h
    rw [X.frames, List.length_cons] at h2 h3
    have q1 := X.heapSize
    have q2 := X.used
    simp only [hF, hU, List.length_cons, State.stackLimits_setFrames, State.stackBytes_setFrames, hl9, hb9]
    refine ⟨⟨⟨⟨by omega, by omega, by omega, by omega, by omega, h6⟩, ?_⟩, ?_⟩, X.book⟩
    · show T.heap.size + R'.cells ≤ e.platform.maxCells
      omega
    · show T.slotsUsed + R'.slots ≤ e.platform.maxSlots
      omega
  · rw [State.stackLimits_setFrames]; rfl
  · rw [State.stackBytes_setFrames]; rfl
  · refine ⟨?_, Nat.le_refl _, Nat.le_refl _, ?_, ?_, fun a c9 h9 => ⟨c9, h9, rfl, rfl, fun _ _ => rfl⟩⟩
    · obtain ⟨t, ht, -⟩ := State.frames_cons hr
      show T.setVm s.vm = { ((T.setVm s.vm).setFrames (.invoking m args :: below)).setFrames (T.setVm s.vm).frames with heap := T.heap, slotsUsed := T.slotsUsed }
      rw [State.setFrames_setFrames, State.setFrames_self ht]
      rfl
    · show T.slotsUsed = T.slotsUsed + ((T.heap.toList.drop T.heap.size).map (·.slots.size)).sum
      rw [List.drop_eq_nil_of_le (Nat.le_of_eq Array.length_toList)]
      rfl
    · show ((T.heap.toList.drop T.heap.size).map (·.slots.size)).sum ≤ 0
      rw [List.drop_eq_nil_of_le (Nat.le_of_eq Array.length_toList)]
      exact Nat.le_refl _
/-- 'throw new E()': new; dup; invokespecial; athrow -/
theorem vx_throw0 {cc : ByteArray} {pc : Nat} (hexec : p.tables.exec = Jvm.exec) (hb : c.code = cc) (hl : l.stackTraces = false) {own cls : String} {names : List String} {ik ic mc ms : Nat} {A : Nat → Prop}
    (hown : s.vm.findClass own = some m.cls) (hcls : Bundle.fit cls = true) (hnames : ∀ n ∈ names, Bundle.fit n = true)
    (hk : (Cond.classLink own ik cls).before args s = true) (hini : (Cond.initialized cls).before args s = true) (hat : ∀ w ∈ vx_at0 own ic cls names, w.before args s = true)
    (hgood : ∀ w ∈ Cond.classLink own ik cls :: Cond.initialized cls :: vx_at0 own ic cls names, vx_ot w = true)
    (hU : vx_Zq Bundle.tN "UNASSIGNED_STACK" Bundle.steD A s s.heap) (hN : vx_Zq Bundle.tN "SUPPRESSED_SENTINEL" Bundle.listD A s s.heap) (hS : va_S A s.heap H locs) (hsize : ls.size = c.maxLocals)
    (d0 : decode cc pc = .ok (.new ik, 3)) (d3 : decode cc (pc + 3) = .ok (.dup, 1)) (d4 : decode cc (pc + 4) = .ok (.invokespecial ic, 3)) (d7 : decode cc (pc + 7) = .ok (.athrow, 1))
    (hout : ∀ x ∈ c.exceptionTable.toList, covers x (pc + 7) = false)
    (hRframes : names.length + 3 < R.frames) (hRlocals : (rest.map fun v => v.category).sum + (13 * (names.length + 1) + 42) ≤ R.locals) (hRcells : cells + 1 ≤ R.cells) (hRslots : slots + 6 ≤ R.slots) (hlocks : meth.locks = false)
    (hx : ∀ t : State, s.vm.Alike t.vm → H.size ≤ t.heap.size → (∀ q : Nat, q < H.size → t.heap[q]? = H[q]?) → XC cls s t)
    (hf : ∀ z ∈ locs, free z.base) (hc : cells + 1 ≤ mc) (hs : slots + 6 ≤ ms) :
    W p l e R s m args below meth c H locs cells slots (vx_MQ below Qc XC args s mc ms free) (F0 m pc ls rest) := by
  intro T hT X
  have htr : e.platform.stackTraces = false := (show e.platform.stackTraces = l.stackTraces by rw [X.admits.platform]).trans hl
  have Y := vx_rebase X (R' := { frames := R.frames, locals := R.locals, cells := 1, slots := 6 }) (Nat.le_refl _) (Nat.le_refl _) hRcells hRslots
  obtain ⟨s', hA⟩ : ∃ z, z = (T.setVm s.vm).setFrames (.invoking m args :: below) := ⟨_, rfl⟩
  rw [← hA] at Y
  have hvm : s'.vm = s.vm := by rw [hA]; rfl
  have hhp : s'.heap = H := by rw [hA]; exact hT
  have hW0 : s.WarmedH s'.vm := by rw [hvm]; exact State.WarmedH.refl s
  have hat' : ∀ w ∈ vx_at0 own ic cls names, w.before args s' = true := fun w hw => vx_ot_at hW0 hvm.symm (hgood w (List.mem_cons_of_mem _ (List.mem_cons_of_mem _ hw))) (hat w hw)
  have hk' : (Cond.classLink own ik cls).before args s' = true := vx_ot_at hW0 hvm.symm (hgood _ List.mem_cons_self) hk
  have hini' : (Cond.initialized cls).before args s' = true := vx_ot_at hW0 hvm.symm (hgood _ (List.mem_cons_of_mem _ List.mem_cons_self)) hini
  have hU' : vx_Zq Bundle.tN "UNASSIGNED_STACK" Bundle.steD A s' s'.heap := by rw [hhp]; exact vx_Zq.moved hW0.alike (hU.kept hS.2.1)
  have hN' : vx_Zq Bundle.tN "SUPPRESSED_SENTINEL" Bundle.listD A s' s'.heap := by rw [hhp]; exact vx_Zq.moved hW0.alike (hN.kept hS.2.1)
  have h : ∀ w ∈ Bundle.ownAtoms0 own ic cls names, w.before args s' = true := vx_own hat' (vx_isRefq hU'.1) (vx_isRefq hN'.1) hU'.2.word hN'.2.word
  have hown' : s'.vm.findClass own = some m.cls := by rw [hvm]; exact hown
  have hins : (Cond.instantiable cls 6).before args s' = true := h _ (by simp [Bundle.ownAtoms0])
  obtain ⟨vm₁, cX, kX, hfX, hkX, -, -, X₁, st1⟩ := Y.newCold hexec (own := own) (C := cls) (index := ik) (n := 6) hown' hk' hins hini'
    (g := F0 m pc ls rest) rfl (by rw [hb]; exact d0) (Nat.le_refl _) (Nat.le_refl _)
  generalize hT1 : (T.setVm vm₁).pushCell { cls := cX, slots := kX.instanceTypes.map defaultValue, vm := .none } = T1 at X₁ st1
  have hcat : (Value.ref T.heap.size).category = 1 := rfl
  have hcellA : T1.heap[T.heap.size]? = some (freshCell cX kX) := by rw [← hT1]; exact State.heap_pushCell_size _ _
  have d3' : decode c.code (pc + 3) = .ok (.dup, 1) := by rw [hb]; exact d3
  obtain ⟨U, hsteps, hrun, hend, hW, hsame, ce, hce, hO⟩ := X₁.ctorThrow0 hexec htr (own := own) (cls := cls) (names := names) (ic := ic) hown' hcls hnames h (fun x hx => nomatch hx) hfX hkX hcellA (by rw [hhp, hT]; exact Nat.le_refl _)
    (g := { method := m, pc := pc + 4, locals := ls, stack := .ref T.heap.size :: .ref T.heap.size :: rest, locked := none }) rfl hsize rfl rfl (rest := rest) rfl
    (by rw [hb]; exact d4) (by rw [hb]; exact d7) hout hRframes (by simp only [List.map_cons, List.sum_cons, hcat]; omega) hlocks
  obtain ⟨f1, f2⟩ := vx_frame hsame
  rw [hhp] at f1 f2
  have hWs : s.WarmedH U.vm := State.WarmedH.trans hW0 hW
  have hcl : s.vm.findClass cls = some ce.cls := by
    have h9 := hO.cls
    rw [hvm] at h9
    exact h9
  have hall : s.sameButNew ({ U with vm := s.vm } : State) locs mc ms := by
    subst hA
    obtain ⟨e1, e2⟩ := hsame
    rw [State.setFrames_setFrames] at e1
    have h2 : (T.setVm s.vm).sameButNew ({ U with vm := s.vm } : State) [] (0 + 1) (0 + 6) := ⟨e1, e2⟩
    have h3 := X.same.trans h2
    rw [List.append_nil] at h3
    exact h3.mono hc hs
  refine ⟨U, ?_, .threw T.heap.size, hrun, hend, Or.inr ⟨T.heap.size, rfl, cls, ce, locs, hx U hWs.alike f1 (fun q hq => f2 q hq (fun z hz => nomatch hz)), hce, hO.vm, hcl, hWs, hall, hf⟩⟩
  refine st1 _ ?_
  show Steps p.tables e below (T1.setTop { method := m, pc := pc + 3, locals := ls, stack := .ref T.heap.size :: rest, locked := none }) _
  jvm_step X₁.here [X₁.here.top, hexec, d3', Value.category]
  exact hsteps
/-- 'throw new E("text")': new; dup; ldc; invokespecial; athrow -/
theorem vx_throwS {cc : ByteArray} {pc : Nat} (hexec : p.tables.exec = Jvm.exec) (hb : c.code = cc) (hl : l.stackTraces = false) {own cls text : String} {names : List String} {ik is ic mc ms sa : Nat} {A : Nat → Prop}
    (hown : s.vm.findClass own = some m.cls) (hcls : Bundle.fit cls = true) (hnames : ∀ n ∈ names, Bundle.fit n = true)
    (hk : (Cond.classLink own ik cls).before args s = true) (hini : (Cond.initialized cls).before args s = true) (hstr : vk_R own is text sa s) (hat : ∀ w ∈ vx_atS own ic cls names, w.before args s = true)
    (hgood : ∀ w ∈ Cond.classLink own ik cls :: Cond.initialized cls :: vx_atS own ic cls names, vx_ot w = true)
    (hU : vx_Zq Bundle.tN "UNASSIGNED_STACK" Bundle.steD A s s.heap) (hN : vx_Zq Bundle.tN "SUPPRESSED_SENTINEL" Bundle.listD A s s.heap) (hS : va_S A s.heap H locs) (hsize : ls.size = c.maxLocals)
    (d0 : decode cc pc = .ok (.new ik, 3)) (d3 : decode cc (pc + 3) = .ok (.dup, 1)) (d4 : decode cc (pc + 4) = .ok (.ldc is, 2)) (d6 : decode cc (pc + 6) = .ok (.invokespecial ic, 3)) (d9 : decode cc (pc + 9) = .ok (.athrow, 1))
    (hout : ∀ x ∈ c.exceptionTable.toList, covers x (pc + 9) = false)
    (hRframes : names.length + 3 < R.frames) (hRlocals : (rest.map fun v => v.category).sum + (13 * (names.length + 1) + 43) ≤ R.locals) (hRcells : cells + 1 ≤ R.cells) (hRslots : slots + 6 ≤ R.slots) (hlocks : meth.locks = false)
    (hx : ∀ t : State, s.vm.Alike t.vm → H.size ≤ t.heap.size → (∀ q : Nat, q < H.size → t.heap[q]? = H[q]?) → XC cls s t)
    (hf : ∀ z ∈ locs, free z.base) (hc : cells + 1 ≤ mc) (hs : slots + 6 ≤ ms) :
    W p l e R s m args below meth c H locs cells slots (vx_MQ below Qc XC args s mc ms free) (F0 m pc ls rest) := by
  intro T hT X
  have htr : e.platform.stackTraces = false := (show e.platform.stackTraces = l.stackTraces by rw [X.admits.platform]).trans hl
  have Y := vx_rebase X (R' := { frames := R.frames, locals := R.locals, cells := 1, slots := 6 }) (Nat.le_refl _) (Nat.le_refl _) hRcells hRslots
  obtain ⟨s', hA⟩ : ∃ z, z = (T.setVm s.vm).setFrames (.invoking m args :: below) := ⟨_, rfl⟩
  rw [← hA] at Y
  have hvm : s'.vm = s.vm := by rw [hA]; rfl
  have hhp : s'.heap = H := by rw [hA]; exact hT
  have hW0 : s.WarmedH s'.vm := by rw [hvm]; exact State.WarmedH.refl s
  have hat' : ∀ w ∈ vx_atS own ic cls names, w.before args s' = true := fun w hw => vx_ot_at hW0 hvm.symm (hgood w (List.mem_cons_of_mem _ (List.mem_cons_of_mem _ hw))) (hat w hw)
  have hk' : (Cond.classLink own ik cls).before args s' = true := vx_ot_at hW0 hvm.symm (hgood _ List.mem_cons_self) hk
  have hini' : (Cond.initialized cls).before args s' = true := vx_ot_at hW0 hvm.symm (hgood _ (List.mem_cons_of_mem _ List.mem_cons_self)) hini
  have hU' : vx_Zq Bundle.tN "UNASSIGNED_STACK" Bundle.steD A s' s'.heap := by rw [hhp]; exact vx_Zq.moved hW0.alike (hU.kept hS.2.1)
  have hN' : vx_Zq Bundle.tN "SUPPRESSED_SENTINEL" Bundle.listD A s' s'.heap := by rw [hhp]; exact vx_Zq.moved hW0.alike (hN.kept hS.2.1)
  have h : ∀ w ∈ Bundle.ownAtoms own ic cls names, w.before args s' = true := vx_own hat' (vx_isRefq hU'.1) (vx_isRefq hN'.1) hU'.2.word hN'.2.word
  have hown' : s'.vm.findClass own = some m.cls := by rw [hvm]; exact hown
  have hins : (Cond.instantiable cls 6).before args s' = true := h _ (by simp [Bundle.ownAtoms])
  obtain ⟨vm₁, cX, kX, hfX, hkX, -, -, X₁, st1⟩ := Y.newCold hexec (own := own) (C := cls) (index := ik) (n := 6) hown' hk' hins hini'
    (g := F0 m pc ls rest) rfl (by rw [hb]; exact d0) (Nat.le_refl _) (Nat.le_refl _)
  generalize hT1 : (T.setVm vm₁).pushCell { cls := cX, slots := kX.instanceTypes.map defaultValue, vm := .none } = T1 at X₁ st1
  have hcat : (Value.ref T.heap.size).category = 1 := rfl
  have hcellA : T1.heap[T.heap.size]? = some (freshCell cX kX) := by rw [← hT1]; exact State.heap_pushCell_size _ _
  have d3' : decode c.code (pc + 3) = .ok (.dup, 1) := by rw [hb]; exact d3
  have d4' : decode c.code (pc + 4) = .ok (.ldc is, 2) := by rw [hb]; exact d4
  have hstr' : vk_R own is text sa s' := vk_R.warm hW0 hstr
  obtain ⟨U, hsteps, hrun, hend, hW, hsame, ce, hce, hO⟩ := X₁.ctorThrowS hexec htr (own := own) (cls := cls) (names := names) (ic := ic) hown' hcls hnames h (fun x hx => nomatch hx) hfX hkX hcellA (by rw [hhp, hT]; exact Nat.le_refl _) (msg := .ref sa) rfl
    (g := { method := m, pc := pc + 6, locals := ls, stack := .ref sa :: .ref T.heap.size :: .ref T.heap.size :: rest, locked := none }) rfl hsize rfl rfl (rest := rest) rfl
    (by rw [hb]; exact d6) (by rw [hb]; exact d9) hout hRframes (by simp only [List.map_cons, List.sum_cons, hcat]; omega) hlocks
  obtain ⟨f1, f2⟩ := vx_frame hsame
  rw [hhp] at f1 f2
  have hWs : s.WarmedH U.vm := State.WarmedH.trans hW0 hW
  have hcl : s.vm.findClass cls = some ce.cls := by
    have h9 := hO.cls
    rw [hvm] at h9
    exact h9
  have hall : s.sameButNew ({ U with vm := s.vm } : State) locs mc ms := by
    subst hA
    obtain ⟨e1, e2⟩ := hsame
    rw [State.setFrames_setFrames] at e1
    have h2 : (T.setVm s.vm).sameButNew ({ U with vm := s.vm } : State) [] (0 + 1) (0 + 6) := ⟨e1, e2⟩
    have h3 := X.same.trans h2
    rw [List.append_nil] at h3
    exact h3.mono hc hs
  refine ⟨U, ?_, .threw T.heap.size, hrun, hend, Or.inr ⟨T.heap.size, rfl, cls, ce, locs, hx U hWs.alike f1 (fun q hq => f2 q hq (fun z hz => nomatch hz)), hce, hO.vm, hcl, hWs, hall, hf⟩⟩
  refine st1 _ ?_
  show Steps p.tables e below (T1.setTop { method := m, pc := pc + 3, locals := ls, stack := .ref T.heap.size :: rest, locked := none }) _
  jvm_step X₁.here [X₁.here.top, hexec, d3', Value.category]
  exact X₁.ldcString hexec (own := own) (text := text) (index := is) (a := sa) hown' hstr'.1 hstr'.2
    (g := { method := m, pc := pc + 4, locals := ls, stack := .ref T.heap.size :: .ref T.heap.size :: rest, locked := none }) rfl d4' _ hsteps
/-- 'throw new E("text")', the text by a wide index -/
theorem vx_throwSW {cc : ByteArray} {pc : Nat} (hexec : p.tables.exec = Jvm.exec) (hb : c.code = cc) (hl : l.stackTraces = false) {own cls text : String} {names : List String} {ik is ic mc ms sa : Nat} {A : Nat → Prop}
    (hown : s.vm.findClass own = some m.cls) (hcls : Bundle.fit cls = true) (hnames : ∀ n ∈ names, Bundle.fit n = true)
    (hk : (Cond.classLink own ik cls).before args s = true) (hini : (Cond.initialized cls).before args s = true) (hstr : vk_R own is text sa s) (hat : ∀ w ∈ vx_atS own ic cls names, w.before args s = true)
    (hgood : ∀ w ∈ Cond.classLink own ik cls :: Cond.initialized cls :: vx_atS own ic cls names, vx_ot w = true)
    (hU : vx_Zq Bundle.tN "UNASSIGNED_STACK" Bundle.steD A s s.heap) (hN : vx_Zq Bundle.tN "SUPPRESSED_SENTINEL" Bundle.listD A s s.heap) (hS : va_S A s.heap H locs) (hsize : ls.size = c.maxLocals)
    (d0 : decode cc pc = .ok (.new ik, 3)) (d3 : decode cc (pc + 3) = .ok (.dup, 1)) (d4 : decode cc (pc + 4) = .ok (.ldc_w is, 3)) (d7 : decode cc (pc + 7) = .ok (.invokespecial ic, 3)) (d10 : decode cc (pc + 10) = .ok (.athrow, 1))
    (hout : ∀ x ∈ c.exceptionTable.toList, covers x (pc + 10) = false)
    (hRframes : names.length + 3 < R.frames) (hRlocals : (rest.map fun v => v.category).sum + (13 * (names.length + 1) + 43) ≤ R.locals) (hRcells : cells + 1 ≤ R.cells) (hRslots : slots + 6 ≤ R.slots) (hlocks : meth.locks = false)
    (hx : ∀ t : State, s.vm.Alike t.vm → H.size ≤ t.heap.size → (∀ q : Nat, q < H.size → t.heap[q]? = H[q]?) → XC cls s t)
    (hf : ∀ z ∈ locs, free z.base) (hc : cells + 1 ≤ mc) (hs : slots + 6 ≤ ms) :
    W p l e R s m args below meth c H locs cells slots (vx_MQ below Qc XC args s mc ms free) (F0 m pc ls rest) := by
  intro T hT X
  have htr : e.platform.stackTraces = false := (show e.platform.stackTraces = l.stackTraces by rw [X.admits.platform]).trans hl
  have Y := vx_rebase X (R' := { frames := R.frames, locals := R.locals, cells := 1, slots := 6 }) (Nat.le_refl _) (Nat.le_refl _) hRcells hRslots
  obtain ⟨s', hA⟩ : ∃ z, z = (T.setVm s.vm).setFrames (.invoking m args :: below) := ⟨_, rfl⟩
  rw [← hA] at Y
  have hvm : s'.vm = s.vm := by rw [hA]; rfl
  have hhp : s'.heap = H := by rw [hA]; exact hT
  have hW0 : s.WarmedH s'.vm := by rw [hvm]; exact State.WarmedH.refl s
  have hat' : ∀ w ∈ vx_atS own ic cls names, w.before args s' = true := fun w hw => vx_ot_at hW0 hvm.symm (hgood w (List.mem_cons_of_mem _ (List.mem_cons_of_mem _ hw))) (hat w hw)
  have hk' : (Cond.classLink own ik cls).before args s' = true := vx_ot_at hW0 hvm.symm (hgood _ List.mem_cons_self) hk
  have hini' : (Cond.initialized cls).before args s' = true := vx_ot_at hW0 hvm.symm (hgood _ (List.mem_cons_of_mem _ List.mem_cons_self)) hini
  have hU' : vx_Zq Bundle.tN "UNASSIGNED_STACK" Bundle.steD A s' s'.heap := by rw [hhp]; exact vx_Zq.moved hW0.alike (hU.kept hS.2.1)
  have hN' : vx_Zq Bundle.tN "SUPPRESSED_SENTINEL" Bundle.listD A s' s'.heap := by rw [hhp]; exact vx_Zq.moved hW0.alike (hN.kept hS.2.1)
  have h : ∀ w ∈ Bundle.ownAtoms own ic cls names, w.before args s' = true := vx_own hat' (vx_isRefq hU'.1) (vx_isRefq hN'.1) hU'.2.word hN'.2.word
  have hown' : s'.vm.findClass own = some m.cls := by rw [hvm]; exact hown
  have hins : (Cond.instantiable cls 6).before args s' = true := h _ (by simp [Bundle.ownAtoms])
  obtain ⟨vm₁, cX, kX, hfX, hkX, -, -, X₁, st1⟩ := Y.newCold hexec (own := own) (C := cls) (index := ik) (n := 6) hown' hk' hins hini'
    (g := F0 m pc ls rest) rfl (by rw [hb]; exact d0) (Nat.le_refl _) (Nat.le_refl _)
  generalize hT1 : (T.setVm vm₁).pushCell { cls := cX, slots := kX.instanceTypes.map defaultValue, vm := .none } = T1 at X₁ st1
  have hcat : (Value.ref T.heap.size).category = 1 := rfl
  have hcellA : T1.heap[T.heap.size]? = some (freshCell cX kX) := by rw [← hT1]; exact State.heap_pushCell_size _ _
  have d3' : decode c.code (pc + 3) = .ok (.dup, 1) := by rw [hb]; exact d3
  have d4' : decode c.code (pc + 4) = .ok (.ldc_w is, 3) := by rw [hb]; exact d4
  have hstr' : vk_R own is text sa s' := vk_R.warm hW0 hstr
  obtain ⟨U, hsteps, hrun, hend, hW, hsame, ce, hce, hO⟩ := X₁.ctorThrowS hexec htr (own := own) (cls := cls) (names := names) (ic := ic) hown' hcls hnames h (fun x hx => nomatch hx) hfX hkX hcellA (by rw [hhp, hT]; exact Nat.le_refl _) (msg := .ref sa) rfl
    (g := { method := m, pc := pc + 7, locals := ls, stack := .ref sa :: .ref T.heap.size :: .ref T.heap.size :: rest, locked := none }) rfl hsize rfl rfl (rest := rest) rfl
    (by rw [hb]; exact d7) (by rw [hb]; exact d10) hout hRframes (by simp only [List.map_cons, List.sum_cons, hcat]; omega) hlocks
  obtain ⟨f1, f2⟩ := vx_frame hsame
  rw [hhp] at f1 f2
  have hWs : s.WarmedH U.vm := State.WarmedH.trans hW0 hW
  have hcl : s.vm.findClass cls = some ce.cls := by
    have h9 := hO.cls
    rw [hvm] at h9
    exact h9
  have hall : s.sameButNew ({ U with vm := s.vm } : State) locs mc ms := by
    subst hA
    obtain ⟨e1, e2⟩ := hsame
    rw [State.setFrames_setFrames] at e1
    have h2 : (T.setVm s.vm).sameButNew ({ U with vm := s.vm } : State) [] (0 + 1) (0 + 6) := ⟨e1, e2⟩
    have h3 := X.same.trans h2
    rw [List.append_nil] at h3
    exact h3.mono hc hs
  refine ⟨U, ?_, .threw T.heap.size, hrun, hend, Or.inr ⟨T.heap.size, rfl, cls, ce, locs, hx U hWs.alike f1 (fun q hq => f2 q hq (fun z hz => nomatch hz)), hce, hO.vm, hcl, hWs, hall, hf⟩⟩
  refine st1 _ ?_
  show Steps p.tables e below (T1.setTop { method := m, pc := pc + 3, locals := ls, stack := .ref T.heap.size :: rest, locked := none }) _
  jvm_step X₁.here [X₁.here.top, hexec, d3', Value.category]
  exact X₁.ldcStringW hexec (own := own) (text := text) (index := is) (a := sa) hown' hstr'.1 hstr'.2
    (g := { method := m, pc := pc + 4, locals := ls, stack := .ref T.heap.size :: .ref T.heap.size :: rest, locked := none }) rfl d4' _ hsteps
end Ends
section Bodies
variable {l : Launch}
theorem vx_ofW {y : MethodName} {ws ws' : List Cond} {rm : Room} {Pc : Array Value → State → Prop} {Qc : Array Value → State → Outcome → State → Prop} {XC : String → State → State → Prop} {mc ms : Nat} {free : Addr → Prop} {cc : ByteArray} {maxL : Nat} {ret : Option FieldType}
    (hy : plainName y.cls = true) (hw : ws = Cond.code y cc maxL ret :: ws')
    (body : ∀ p e s m args below meth c s₁, BodyLoose p l y (headSpec ws rm) cc maxL ret e s m args below meth c s₁ → c.maxLocals = maxL → (∀ x ∈ c.exceptionTable.toList, False) → Pc args s →
      W p l e (headSpec ws rm).room s m args below meth c s.heap [] 0 0 (vx_MQ below Qc XC args s mc ms free) (entryFrame m args maxL)) : vx_Met l y ws rm Pc Qc XC mc ms free := by
  refine MetFree.of_bodyS (code := cc) (maxLocals := maxL) (ret := ret) hy ?_ ?_
  · intro args s m h hn
    obtain ⟨meth, c, h1, h2, h3, h4, h5, h6, -, -⟩ := Cond.code_spec hn (atoms_spec (ws := ws) h _ (by rw [hw]; exact List.mem_cons_self))
    exact ⟨meth, c, h1, h2, h3, h4, h5, h6⟩
  · intro p e s m args below meth c s₁ B hml hP _
    have hh0 : s₁.heap = s.heap := by rw [B.state]; rfl
    have ht : ∀ x ∈ c.exceptionTable.toList, False := by
      obtain ⟨meth9, c9, h1, h2, -, -, -, -, h7, -⟩ := Cond.code_spec B.named (atoms_spec (ws := ws) B.pre _ (by rw [hw]; exact List.mem_cons_self))
      cases Option.some.inj (h1.symm.trans B.method)
      cases Option.some.inj (h2.symm.trans (Stand.of_body B).code)
      intro x hx
      rw [Array.isEmpty_iff.mp h7] at hx
      cases hx
    obtain ⟨t, a1, o, b1, b2, b3⟩ := body p e s m args below meth c s₁ B hml ht hP s₁ hh0 (Stand.of_body B)
    exact ⟨t, o, a1, b1, b2, b3⟩
/-- the table of a body with handlers -/
theorem vx_table {p : Program} {x y : MethodName} {S : Spec} {cc bytes : ByteArray} {maxL maxL' : Nat} {ret ret' : Option FieldType} {e : Env} {s s₁ : State} {m : MethodId} {args : Array Value} {below : List Frame} {meth : Method} {c : Code} {hh : List (Nat × Nat × Nat × Nat)}
    (B : BodyLoose p l y S cc maxL ret e s m args below meth c s₁) (h : (Cond.codeWith y bytes maxL' ret' hh).before args s = true) : c.exceptionTable.toList = tableOf hh := by
  obtain ⟨m9, meth9, c9, hn9, h1, h2, -, -, h6, -⟩ := Cond.codeWith_spec h
  cases Option.some.inj (hn9.symm.trans B.named)
  cases Option.some.inj (h1.symm.trans B.method)
  cases Option.some.inj (h2.symm.trans (Stand.of_body B).code)
  rw [← h6, table_eq]
end Bodies
end VXA
/-! ===== END ===== -/
/-! ===== BEGIN a static call of a method with an exception table ===== -/
section VXS
variable {p : Program} {l : Launch} {e : Env} {R : Room} {s : State} {m : MethodId} {args : Array Value} {below : List Frame} {meth : Method} {c : Code} {T : State} {H : Heap} {locs : List Loc} {cells slots : Nat}
abbrev vx_CSW (R : Room) (s : State) (args : Array Value) (own : String) (index : Nat) (y : MethodName) (bytes : ByteArray) (maxL : Nat) (ret : Option FieldType) (hh : List (Nat × Nat × Nat × Nat)) (ws : List Cond) (rm : Room) (mc ms n : Nat) : Prop :=
  (rm.cells = mc ∧ rm.slots = ms ∧ rm.frames + 1 ≤ R.frames ∧ 8 + (maxL + 11) + rm.locals ≤ R.locals ∧ (∀ w ∈ ws, ∀ (a' : Array Value) (U : State), s.WarmedH U.vm → w.before a' U = true) ∧ Cond.codeWith y bytes maxL ret hh ∈ ws) ∧
  (Cond.codeWith y bytes maxL ret hh).before args s = true ∧ (Cond.initialized y.cls).before args s = true ∧ (y.cls ≠ "java/lang/invoke/MethodHandle" ∧ y.cls ≠ "java/lang/invoke/VarHandle") ∧
  (∀ sig, parseMethodDescriptor y.desc = some sig → n = sig.parameters.length) ∧ (Cond.methodLink own index y).before args s = true ∧ (Cond.static y).before args s = true
theorem vx_cwSW {own : String} {index maxL mc ms : Nat} {y : MethodName} {bytes : ByteArray} {ret : Option FieldType} {hh : List (Nat × Nat × Nat × Nat)} {Ts ws ws' : List Cond} {rm : Room} (n : Nat) (ht : ∀ w ∈ Ts, w.before args s = true) (hT : GoodIn Ts (va_wsS own index y ws)) (hw : ws = Cond.codeWith y bytes maxL ret hh :: ws') (hrc : rm.cells = mc) (hrs : rm.slots = ms)
    (hd : y.cls ≠ "java/lang/invoke/MethodHandle" ∧ y.cls ≠ "java/lang/invoke/VarHandle" ∧ (parseMethodDescriptor y.desc).map (fun d => d.parameters.length) = some n) (hR : rm.frames + 1 ≤ R.frames ∧ 8 + (maxL + 11) + rm.locals ≤ R.locals) :
    vx_CSW R s args own index y bytes maxL ret hh ws rm mc ms n := by
  have ok : ∀ w ∈ va_wsS own index y ws, w.before args s = true := fun w h => ht w (hT w h).1
  have hG : GoodIn Ts ws := fun w h => hT w (by unfold va_wsS; exact List.mem_append_right _ h)
  have hc : Cond.codeWith y bytes maxL ret hh ∈ ws := by rw [hw]; exact List.mem_cons_self
  refine ⟨⟨hrc, hrs, hR.1, hR.2, pay_in ht hG, hc⟩, ht _ (hG _ hc).1, ok _ (by simp [va_wsS]), ⟨hd.1, hd.2.1⟩, fun sig h => ?_, ok _ (by simp [va_wsS]), ok _ (by simp [va_wsS])⟩
  have h2 := hd.2.2
  rw [h] at h2
  exact (Option.some.inj h2).symm
theorem vx_callSW (X : Stand p l e R s m args below meth c T locs cells slots) (hexec : p.tables.exec = Jvm.exec) {own : String} {index : Nat} {y : MethodName} {bytes : ByteArray} {maxL : Nat} {ret : Option FieldType} {hh : List (Nat × Nat × Nat × Nat)}
    (hown : s.vm.findClass own = some m.cls) (hlink : (Cond.methodLink own index y).before args s = true) (hstat : (Cond.static y).before args s = true) (hinit : (Cond.initialized y.cls).before args s = true)
    (hcode : (Cond.codeWith y bytes maxL ret hh).before args s = true) (hy : y.cls ≠ "java/lang/invoke/MethodHandle" ∧ y.cls ≠ "java/lang/invoke/VarHandle")
    {W9 : Nat} {Pre : Pt → Array Value → Prop} {Post : Pt → Array Value → Option Value → Pt → Prop} (hK : Back l R p e below s args y 3 W9 Pre Post)
    {g : JFrame} (hg : g.method = m) (hsize : g.locals.size = c.maxLocals) {argsL rest : List Value} (hlen : ∀ sig, parseMethodDescriptor y.desc = some sig → argsL.length = sig.parameters.length)
    (hstack : g.stack = argsL.reverse ++ rest) (hW : 2 * g.monitorRoom + (rest.map fun v => v.category).sum ≤ W9) (hdg : decode c.code g.pc = .ok (.invokestatic index, 3))
    (hpre : ∀ vm₁, s.WarmedH vm₁ → Pre ⟨T.setVm vm₁, locs, cells, slots⟩ argsL.toArray) :
    ∃ (v : Option Value) (vm₁ : Vm) (B : Pt), s.WarmedH vm₁ ∧ Stand p l e R s m args below meth c B.U B.locs B.cells B.slots ∧ Post ⟨T.setVm vm₁, locs, cells, slots⟩ argsL.toArray v B ∧
      ∀ target, Steps p.tables e below (B.U.setTop { g with pc := g.pc + 3, stack := v.toList ++ rest }) target → Steps p.tables e below (T.setTop g) target := by
  obtain ⟨mk, methM, cM, hnamed, hmethM, -, -, -, -, -, -, hsigM⟩ := Cond.codeWith_spec hcode
  have hstatic : methM.isStatic = true := Cond.static_spec hnamed hmethM hstat
  obtain ⟨kP, hkP, -⟩ := className_of_methodNamed hnamed
  have hinitP : kP.init = .initialized := Cond.initialized_spec (findClass_of_methodNamed hnamed) hkP hinit
  obtain ⟨vm₁, X₁, hstep₁⟩ := X.invokestatic hexec hown hlink hnamed hmethM hstatic hkP hinitP hy (g := g) hg (argsL := argsL) (rest := rest) (hlen _ hsigM) hstack hdg
  obtain ⟨v, B, X', hpost, hsteps⟩ := hK m meth c ⟨T.setVm vm₁, locs, cells, slots⟩ { g with stack := rest } (.invokestatic index) mk argsL.toArray X₁ hg hsize hdg hW (X₁.named hnamed) (hpre vm₁ X₁.warmed)
  exact ⟨v, vm₁, B, X₁.warmed, X', hpost, fun target h => hstep₁ _ fun acts => by rw [doInvoke_state]; exact hsteps.trans h⟩
theorem vx_runSW {y : MethodName} {bytes cc : ByteArray} {maxL nL mc ms n index : Nat} {ret : Option FieldType} {hh : List (Nat × Nat × Nat × Nat)} {ws : List Cond} {rm : Room} {Pc : Array Value → State → Prop} {Qc : Array Value → State → Outcome → State → Prop} {free : Addr → Prop} {Ts : List Cond} {own : String} {As rest : List Value} {g : JFrame}
    (S : CallFix p m c cc nL s args Ts own) (hM : Met l y ws rm Pc Qc mc ms free) (cw : vx_CSW R s args own index y bytes maxL ret hh ws rm mc ms n) (hp : PreS s H Pc As)
    (hg : g.method = m) (hn : As.length = n) (hsize : g.locals.size = nL) (hstack : g.stack = As.reverse ++ rest) (hW : 2 * g.monitorRoom + (rest.map fun v => v.category).sum ≤ 8) (hdg : decode cc g.pc = .ok (.invokestatic index, 3)) (hf : cells + mc ≤ R.cells ∧ slots + ms ≤ R.slots) :
    va_Run p l e R s m args below meth c H locs cells slots mc ms g rest (Qc As.toArray) (free) := by
  obtain ⟨⟨hrc, hrs, hfr, hlo, hws, hcw⟩, hcode, hini, hy, hlen, hl, hstt⟩ := cw
  have hK : Back l R p e below s args y 3 8 (PreOf R mc ms Pc) (PostOf Qc mc ms free) := va_backW (hh := hh) (bytes := bytes) (maxL := maxL) (ret := ret) hM hp.1 hrc hrs hfr hlo hws hcw (fun a' U hW => word_at hW (Or.inl (by first | rfl | simp [Cond.onTables, Cond.keeps, Cond.steady])) hini)
  obtain ⟨hx, hb, hml, ho, -⟩ := S
  intro T hT X
  obtain ⟨v, vm₁, ⟨U', l2, c2, s2⟩, hW₁, X', ⟨g', mk, t, L, e1, e2, hq, h1, hL, h2, h3⟩, st⟩ := vx_callSW X hx (hh := hh) (bytes := bytes) (maxL := maxL) (ret := ret) ho hl hstt hini hcode hy hK hg (hsize.trans hml.symm) (argsL := As) (rest := rest) (fun sig h => hn.trans (hlen sig h)) hstack hW (by rw [hb]; exact hdg)
    (fun vm₁ hW₁ => ⟨hf.1, hf.2, hp.2 (T.setVm vm₁) hT hW₁⟩)
  dsimp only [Pt.U, Pt.locs, Pt.cells, Pt.slots] at X' e1 e2 h1 h2 h3 st
  subst h1; subst h2; subst h3
  exact ⟨v, (T.setVm vm₁).calling g' mk As.toArray, t, U', L, hT, X', hL, e1, e2, hq, st⟩
/-- not caught here, past rows that name other classes: it goes on to the caller -/
theorem vx_outP {p : Program} {l : Launch} {e : Env} {R : Room} {s : State} {m : MethodId} {args : Array Value} {below : List Frame} {meth : Method} {c : Code} {H : Heap} {locs : List Loc} {cells slots : Nat} {free : Addr → Prop} {ls : Array Slot} {rest : List Value} {Qc : Array Value → State → Outcome → State → Prop} {XC : String → State → State → Prop}
    {pc : Nat} {own E : String} {ce : Cell} {q : Addr} {mc ms : Nat} (hown : s.vm.findClass own = some m.cls) (hlocks : meth.locks = false)
    (hpass : ∀ z ∈ c.exceptionTable.toList, covers z pc = false ∨ (z.catchType ≠ 0 ∧ ∃ nm : String, (Cond.classLink own z.catchType nm).before args s = true ∧ va_Nc E nm s)) (hcell : H[q]? = some ce) (hv : ce.vm = .none) (hcl : s.vm.findClass E = some ce.cls)
    (hx : ∀ t : State, t.heap = H → s.vm.Alike t.vm → XC E s t) (hf : ∀ z ∈ locs, free z.base) (hc : cells ≤ mc) (hs : slots ≤ ms) :
    vx_W p l e R s m args below meth c H locs cells slots (vx_MQ below Qc XC args s mc ms free) (F0 m pc ls rest) q := by
  intro T hT X
  have hpl : e.platform.magicAccessors = ({} : Platform).magicAccessors := by rw [X.admits.platform]
  obtain ⟨vm', hW', X', st⟩ := X.outThrough hlocks q (g := F0 m pc ls rest) rfl rfl rfl (cell := ce) (by rw [hT]; exact hcell) (by rw [hv]; rfl)
    (by obtain ⟨k9, h9, -⟩ := Vm.findClass_spec hcl; exact ⟨k9, h9⟩) (fun z hz => by
      rcases hpass z hz with h | ⟨hz0, nm, hl1, hn1⟩
      · exact Or.inl h
      · obtain ⟨c6, hc6, hcl6⟩ := Cond.classLink_spec hown hl1 e.platform hpl
        obtain ⟨a8, b8, h1, h2, h3⟩ := hn1
        cases Option.some.inj (h1.symm.trans hcl)
        cases Option.some.inj (h2.symm.trans hc6)
        exact Or.inr ⟨hz0, _, hcl6, h3⟩)
  obtain ⟨g₀, hfr⟩ := X'.frames_eq
  have hcell9 : ((T.setVm vm').setFrames (.throwing q :: below)).heap[q]? = some ce := by
    show T.heap[q]? = some ce
    rw [hT]; exact hcell
  have hend : Ended ((T.setVm vm').setFrames (.throwing q :: below)) below (.threw q) := State.frames_setFrames _ (State.cur_lt_of_frames hfr)
  refine ⟨(T.setVm vm').setFrames (.throwing q :: below), ?_, .threw q, X'.here.running, hend, Or.inr ⟨q, rfl, E, ce, locs, hx _ hT (X'.ends _).1.alike, hcell9, hv, hcl, (X'.ends _).1, (X'.ends _).2.mono hc hs, hf⟩⟩
  rw [X.pushThrowing_eq]
  exact st
/-- a thing of a world lies in the heap -/
theorem vx_lt {D : va_G} {cl : List vw_C} {ws : va_W} {H1 : Heap} (h : va_P D cl ws H1) {k : Nat} {q : Nat × va_E} (hk : ws[k]? = some q) : q.1 < H1.size := (h k q hk).lt
end VXS
/-! ===== END ===== -/
/-! ===== BEGIN methods with a table of their own: called by a name, returning or throwing ===== -/
section VXH
/-! vx_backW, vx_callVX, vx_callSX, vx_callVW, vx_runVW, vx_runVX, vx_runSX, vx_ofWH follow the same proofs as their sisters above (Free/Laws.lean, Shelf42/LK1.lean); vx_outP calls Shelf42/NT130.lean (outThrough). -/
section
variable {l : Launch} {R : Room} {p : Program} {e : Env} {below : List Frame} {s : State} {sargs : Array Value} {y : MethodName} {len W9 : Nat}
theorem vx_backW {ws : List Cond} {rm : Room} {Pc : Array Value → State → Prop} {Qc : Array Value → State → Outcome → State → Prop} {XC : String → State → State → Prop} {mc ms : Nat} {free : Addr → Prop} {bytes : ByteArray} {maxL : Nat} {ret : Option FieldType} {hh : List (Nat × Nat × Nat × Nat)}
    (hM : vx_Met l y ws rm Pc Qc XC mc ms free) (hblind : FrameBlind Pc) (hrc : rm.cells = mc) (hrs : rm.slots = ms)
    (hframes : rm.frames + 1 ≤ R.frames) (hlocals : W9 + (maxL + 11) + rm.locals ≤ R.locals)
    (hws : ∀ w ∈ ws, ∀ a' U, s.WarmedH U.vm → w.before a' U = true) (hcode : Cond.codeWith y bytes maxL ret hh ∈ ws) (hinit : ∀ a' U, s.WarmedH U.vm → (Cond.initialized y.cls).before a' U = true) :
    vx_Back l R p e below s sargs y len W9 (PreOf R mc ms Pc) (PostOf Qc mc ms free) (vx_Post XC mc ms free) := by
  intro m meth c A g ig mk a X hg hsize hdg hW hn hp
  have h1 : (headSpec ws rm).pre.before a A.U = true := atoms_intro fun w hw => hws w hw _ _ X.warmed
  have h2 : (Cond.codeWith y bytes maxL ret hh).before a A.U = true := hws _ hcode _ _ X.warmed
  have h3 : (Cond.initialized y.cls).before a A.U = true := hinit _ _ X.warmed
  have h4 : A.cells + (headSpec ws rm).room.cells ≤ R.cells := by rw [show (headSpec ws rm).room.cells = mc from hrc]; exact hp.1
  have h5 : A.slots + (headSpec ws rm).room.slots ≤ R.slots := by rw [show (headSpec ws rm).room.slots = ms from hrs]; exact hp.2.1
  have hPc : Pc a (A.U.calling g mk a) := hblind _ _ _ _ hp.2.2
  obtain ⟨U, Ls, c0, s0⟩ := A
  dsimp only [Pt.U, Pt.locs, Pt.cells, Pt.slots] at h1 h2 h3 h4 h5 X hn hPc ⊢
  obtain ⟨m9, methY, cY, hn9, hmY, hcY, -, hlY, -⟩ := Cond.codeWith_spec h2
  cases Option.some.inj (hn9.symm.trans hn)
  obtain ⟨kY, hkY, -⟩ := className_of_methodNamed hn
  have hinitY : kY.init = .initialized := Cond.initialized_spec (findClass_of_methodNamed hn) hkY h3
  have h : At U g.method c below := by rw [hg]; exact X.here
  have hlocals9 : W9 + (maxL + 11) + (headSpec ws rm).room.locals ≤ R.locals := hlocals
  have happ : (headSpec ws rm).appliesLoose y e.platform (U.calling g mk a) = true :=
    Spec.appliesLoose_calling (g := g) h hdg hn hkY hinitY
      (X.room_calling (g := g) (R' := (headSpec ws rm).room) hsize hmY hcY hframes (by rw [hlY]; omega) h4 h5) h1
  obtain ⟨mid, hmid⟩ := h.above
  have hfr : (U.setTop g).frames = (.java g :: mid) ++ below := by rw [State.frames_setTop' g h.top, hmid]; rfl
  obtain ⟨o, s₂, hsteps, -, hend, hq⟩ := Steps.callFree hM p X.admits X.cas X.clock (acts := []) hfr happ hPc trivial
  have hq' : vx_Q Qc XC mc ms free a (U.calling g mk a) o s₂ := hq
  rw [State.frames_setTop' g h.top] at hend
  obtain ⟨g₀, hg0⟩ := Option.isSome_iff_exists.mp h.top
  obtain ⟨r, hr⟩ := State.topJava?_eq_some.mp hg0
  have hr' : (({ U with heap := s₂.heap, slotsUsed := s₂.slotsUsed } : State).setVm s₂.vm).frames = .java g₀ :: r := hr
  rcases hq' with ⟨hqc, L, hfe, hL⟩ | ⟨q, rfl, E, ce, L, hx, hce, hcv, hcl, hW₂, hsm, hL⟩
  · obtain ⟨⟨v, rfl⟩, hW₂, e2, q2, q3, q4, q5, q6⟩ := id hfe
    have e3 : s₂ = ({ (U.calling g mk a).setFrames s₂.frames with heap := s₂.heap, slotsUsed := s₂.slotsUsed } : State).setVm s₂.vm := by
      have : s₂ = ({ s₂ with vm := (U.calling g mk a).vm } : State).setVm s₂.vm := rfl
      rw [e2] at this
      exact this
    obtain ⟨c₂, i₂, len₂, hc₂, hd₂, hf₂⟩ := hend
    have hW' : U.WarmedH s₂.vm := hW₂
    have hcc : c₂ = c := by
      have h1 : s₂.code? g.method = U.code? g.method := by
        rw [State.code?_eq, State.code?_eq, hW'.alike.method?]
      exact Option.some.inj (hc₂.symm.trans (h1.trans h.code))
    subst hcc
    have hlen : len₂ = len := by rw [hdg] at hd₂; cases hd₂; rfl
    subst hlen
    have hs₂ : s₂ = (({ U with heap := s₂.heap, slotsUsed := s₂.slotsUsed } : State).setVm s₂.vm).setTop { g with pc := g.pc + len₂, stack := v.toList ++ g.stack } := by
      refine e3.trans ?_
      rw [hf₂, State.calling_eq h.top, State.setFrames_setFrames, State.setTop_of_frames _ hr', hr]
      rfl
    have hsame : U.sameButNew ({ U with heap := s₂.heap, slotsUsed := s₂.slotsUsed } : State) L mc ms := by
      refine ⟨?_, q2, q3, q4, q5, q6⟩
      obtain ⟨t, ht, -⟩ := State.frames_cons hr
      show ({ U with heap := s₂.heap, slotsUsed := s₂.slotsUsed } : State) = { U.setFrames U.frames with heap := s₂.heap, slotsUsed := s₂.slotsUsed }
      rw [State.setFrames_self ht]
    subst hg
    refine Or.inl ⟨v, ⟨(({ U with heap := s₂.heap, slotsUsed := s₂.slotsUsed } : State).setVm s₂.vm), Ls ++ L, c0 + mc, s0 + ms⟩,
      ⟨X.admits, X.cas, X.clock, X.frames, X.room, X.hears, X.method, X.code, (X.here.setHeapUsed s₂.heap s₂.slotsUsed).setVm hW'.alike, X.tail, State.WarmedH.trans X.warmed hW', X.limits, X.bytes, X.same.trans (hsame.setVm s.vm)⟩,
      ⟨g, mk, s₂, L, rfl, rfl, hqc, rfl, hL, rfl, rfl⟩, ?_⟩
    show Steps p.tables e below _ ((({ U with heap := s₂.heap, slotsUsed := s₂.slotsUsed } : State).setVm s₂.vm).setTop { g with pc := g.pc + len₂, stack := v.toList ++ g.stack })
    rw [← hs₂]
    exact hsteps
  · obtain ⟨e2, q2, q3, q4, q5, q6⟩ := id hsm
    have e3 : s₂ = ({ (U.calling g mk a).setFrames s₂.frames with heap := s₂.heap, slotsUsed := s₂.slotsUsed } : State).setVm s₂.vm := by
      have : s₂ = ({ s₂ with vm := (U.calling g mk a).vm } : State).setVm s₂.vm := rfl
      rw [e2] at this
      exact this
    have hf₂ : s₂.frames = .throwing q :: .java g :: U.frames.tail := hend
    have hW' : U.WarmedH s₂.vm := hW₂
    have hs₂ : s₂ = ((({ U with heap := s₂.heap, slotsUsed := s₂.slotsUsed } : State).setVm s₂.vm).setTop g).pushFrame (.throwing q) := by
      refine e3.trans ?_
      rw [hf₂, State.calling_eq h.top, State.setFrames_setFrames, State.pushFrame, State.frames_setTop _ hr', State.setTop_of_frames _ hr', State.setFrames_setFrames, hr]
      rfl
    have hsame : U.sameButNew ({ U with heap := s₂.heap, slotsUsed := s₂.slotsUsed } : State) L mc ms := by
      refine ⟨?_, q2, q3, q4, q5, q6⟩
      obtain ⟨t, ht, -⟩ := State.frames_cons hr
      show ({ U with heap := s₂.heap, slotsUsed := s₂.slotsUsed } : State) = { U.setFrames U.frames with heap := s₂.heap, slotsUsed := s₂.slotsUsed }
      rw [State.setFrames_self ht]
    subst hg
    refine Or.inr ⟨q, ⟨(({ U with heap := s₂.heap, slotsUsed := s₂.slotsUsed } : State).setVm s₂.vm), Ls ++ L, c0 + mc, s0 + ms⟩,
      ⟨X.admits, X.cas, X.clock, X.frames, X.room, X.hears, X.method, X.code, (X.here.setHeapUsed s₂.heap s₂.slotsUsed).setVm hW'.alike, X.tail, State.WarmedH.trans X.warmed hW', X.limits, X.bytes, X.same.trans (hsame.setVm s.vm)⟩,
      ⟨g, mk, s₂, L, E, ce, rfl, rfl, hx, hce, hcv, hcl, rfl, hL, rfl, rfl⟩, ?_⟩
    show Steps p.tables e below _ (((({ U with heap := s₂.heap, slotsUsed := s₂.slotsUsed } : State).setVm s₂.vm).setTop g).pushFrame (.throwing q))
    rw [← hs₂]
    exact hsteps
end
variable {p : Program} {l : Launch} {e : Env} {R : Room} {s : State} {m : MethodId} {args : Array Value} {below : List Frame} {meth : Method} {c : Code} {T : State} {H : Heap} {locs : List Loc} {cells slots : Nat}
theorem vx_callVX (X : Stand p l e R s m args below meth c T locs cells slots) (hexec : p.tables.exec = Jvm.exec) {own C : String} {index : Nat} {y : MethodName} {bytes : ByteArray} {maxL : Nat} {ret : Option FieldType} {hh : List (Nat × Nat × Nat × Nat)}
    (hown : s.vm.findClass own = some m.cls) (hlink : (Cond.methodLink own index y).before args s = true) (hinst : (Cond.instanceMethod y).before args s = true) (hsel : (Cond.selects C y y).before args s = true)
    (hcode : (Cond.codeWith y bytes maxL ret hh).before args s = true) (hy : y.cls ≠ "java/lang/invoke/MethodHandle" ∧ y.cls ≠ "java/lang/invoke/VarHandle")
    {W9 : Nat} {Pre : Pt → Array Value → Prop} {Post : Pt → Array Value → Option Value → Pt → Prop} {PostX : Pt → Array Value → Addr → Pt → Prop} (hK : vx_Back l R p e below s args y 3 W9 Pre Post PostX)
    {b : Addr} {cellB : Cell} (hcell : T.heap[b]? = some cellB) (hobj : cellB.vm.isStatics = false) (hcls : s.vm.findClass C = some cellB.cls)
    {g : JFrame} (hg : g.method = m) (hsize : g.locals.size = c.maxLocals) {argsL rest : List Value} (hlen : ∀ sig, parseMethodDescriptor y.desc = some sig → argsL.length = sig.parameters.length)
    (hstack : g.stack = argsL.reverse ++ .ref b :: rest) (hW : 2 * g.monitorRoom + (rest.map fun v => v.category).sum ≤ W9) (hdg : decode c.code g.pc = .ok (.invokevirtual index, 3))
    (hpre : ∀ vm₁, s.WarmedH vm₁ → Pre ⟨T.setVm vm₁, locs, cells, slots⟩ (Value.ref b :: argsL).toArray) :
    (∃ (v : Option Value) (vm₁ : Vm) (B : Pt), s.WarmedH vm₁ ∧ Stand p l e R s m args below meth c B.U B.locs B.cells B.slots ∧ Post ⟨T.setVm vm₁, locs, cells, slots⟩ (Value.ref b :: argsL).toArray v B ∧
      ∀ target, Steps p.tables e below (B.U.setTop { g with pc := g.pc + 3, stack := v.toList ++ rest }) target → Steps p.tables e below (T.setTop g) target) ∨
    (∃ (q : Addr) (vm₁ : Vm) (B : Pt), s.WarmedH vm₁ ∧ Stand p l e R s m args below meth c B.U B.locs B.cells B.slots ∧ PostX ⟨T.setVm vm₁, locs, cells, slots⟩ (Value.ref b :: argsL).toArray q B ∧
      Steps p.tables e below (T.setTop g) ((B.U.setTop { g with stack := rest }).pushFrame (.throwing q))) := by
  obtain ⟨mk, methM, hnamed, hmethM, hstM, habM⟩ := Cond.instanceMethod_spec hinst
  obtain ⟨m8, methM', cM, hn8, hmethM', -, -, -, -, -, -, hsigM⟩ := Cond.codeWith_spec hcode
  cases Option.some.inj (hn8.symm.trans hnamed)
  cases hmethM.symm.trans hmethM'
  obtain ⟨c2, r2, m2, q1, q2, q3, q4, kP, hkP, hkPi⟩ := Cond.selects_spec hsel
  cases hcls.symm.trans q1
  cases (State.methodFound?_of_named hnamed hy).symm.trans q2
  cases hnamed.symm.trans q3
  have hselP : selectMethod e.platform s.vm cellB.cls mk = .method mk := by rw [Launch.admits_selectMethod X.admits]; exact q4
  obtain ⟨vm₁, X₁, hstep₁⟩ := X.invokevirtual hexec hown hlink hnamed hmethM hstM hkP hkPi hy (a := b) (cell := cellB) hcell
    (fun z h => by rw [h] at hobj; cases hobj) hselP hmethM habM hkP hkPi (g := g) hg (argsL := argsL) (rest := rest) (hlen _ hsigM) hstack hdg
  rcases hK m meth c ⟨T.setVm vm₁, locs, cells, slots⟩ { g with stack := rest } (.invokevirtual index) mk (Value.ref b :: argsL).toArray X₁ hg hsize hdg hW (X₁.named hnamed) (hpre vm₁ X₁.warmed) with ⟨v, B, X', hpost, hsteps⟩ | ⟨q, B, X', hpost, hsteps⟩
  · exact Or.inl ⟨v, vm₁, B, X₁.warmed, X', hpost, fun target h => hstep₁ _ fun acts => by rw [doInvoke_state]; exact hsteps.trans h⟩
  · exact Or.inr ⟨q, vm₁, B, X₁.warmed, X', hpost, hstep₁ _ fun acts => by rw [doInvoke_state]; exact hsteps⟩
theorem vx_callSX (X : Stand p l e R s m args below meth c T locs cells slots) (hexec : p.tables.exec = Jvm.exec) {own : String} {index : Nat} {y : MethodName} {bytes : ByteArray} {maxL : Nat} {ret : Option FieldType} {hh : List (Nat × Nat × Nat × Nat)}
    (hown : s.vm.findClass own = some m.cls) (hlink : (Cond.methodLink own index y).before args s = true) (hstat : (Cond.static y).before args s = true) (hinit : (Cond.initialized y.cls).before args s = true)
    (hcode : (Cond.codeWith y bytes maxL ret hh).before args s = true) (hy : y.cls ≠ "java/lang/invoke/MethodHandle" ∧ y.cls ≠ "java/lang/invoke/VarHandle")
    {W9 : Nat} {Pre : Pt → Array Value → Prop} {Post : Pt → Array Value → Option Value → Pt → Prop} {PostX : Pt → Array Value → Addr → Pt → Prop} (hK : vx_Back l R p e below s args y 3 W9 Pre Post PostX)
    {g : JFrame} (hg : g.method = m) (hsize : g.locals.size = c.maxLocals) {argsL rest : List Value} (hlen : ∀ sig, parseMethodDescriptor y.desc = some sig → argsL.length = sig.parameters.length)
    (hstack : g.stack = argsL.reverse ++ rest) (hW : 2 * g.monitorRoom + (rest.map fun v => v.category).sum ≤ W9) (hdg : decode c.code g.pc = .ok (.invokestatic index, 3))
    (hpre : ∀ vm₁, s.WarmedH vm₁ → Pre ⟨T.setVm vm₁, locs, cells, slots⟩ argsL.toArray) :
    (∃ (v : Option Value) (vm₁ : Vm) (B : Pt), s.WarmedH vm₁ ∧ Stand p l e R s m args below meth c B.U B.locs B.cells B.slots ∧ Post ⟨T.setVm vm₁, locs, cells, slots⟩ argsL.toArray v B ∧
      ∀ target, Steps p.tables e below (B.U.setTop { g with pc := g.pc + 3, stack := v.toList ++ rest }) target → Steps p.tables e below (T.setTop g) target) ∨
    (∃ (q : Addr) (vm₁ : Vm) (B : Pt), s.WarmedH vm₁ ∧ Stand p l e R s m args below meth c B.U B.locs B.cells B.slots ∧ PostX ⟨T.setVm vm₁, locs, cells, slots⟩ argsL.toArray q B ∧
      Steps p.tables e below (T.setTop g) ((B.U.setTop { g with stack := rest }).pushFrame (.throwing q))) := by
  obtain ⟨mk, methM, cM, hnamed, hmethM, -, -, -, -, -, -, hsigM⟩ := Cond.codeWith_spec hcode
  have hstatic : methM.isStatic = true := Cond.static_spec hnamed hmethM hstat
  obtain ⟨kP, hkP, -⟩ := className_of_methodNamed hnamed
  have hinitP : kP.init = .initialized := Cond.initialized_spec (findClass_of_methodNamed hnamed) hkP hinit
  obtain ⟨vm₁, X₁, hstep₁⟩ := X.invokestatic hexec hown hlink hnamed hmethM hstatic hkP hinitP hy (g := g) hg (argsL := argsL) (rest := rest) (hlen _ hsigM) hstack hdg
  rcases hK m meth c ⟨T.setVm vm₁, locs, cells, slots⟩ { g with stack := rest } (.invokestatic index) mk argsL.toArray X₁ hg hsize hdg hW (X₁.named hnamed) (hpre vm₁ X₁.warmed) with ⟨v, B, X', hpost, hsteps⟩ | ⟨q, B, X', hpost, hsteps⟩
  · exact Or.inl ⟨v, vm₁, B, X₁.warmed, X', hpost, fun target h => hstep₁ _ fun acts => by rw [doInvoke_state]; exact hsteps.trans h⟩
  · exact Or.inr ⟨q, vm₁, B, X₁.warmed, X', hpost, hstep₁ _ fun acts => by rw [doInvoke_state]; exact hsteps⟩
theorem vx_callVW (X : Stand p l e R s m args below meth c T locs cells slots) (hexec : p.tables.exec = Jvm.exec) {own C : String} {index : Nat} {y : MethodName} {bytes : ByteArray} {maxL : Nat} {ret : Option FieldType} {hh : List (Nat × Nat × Nat × Nat)}
    (hown : s.vm.findClass own = some m.cls) (hlink : (Cond.methodLink own index y).before args s = true) (hinst : (Cond.instanceMethod y).before args s = true) (hsel : (Cond.selects C y y).before args s = true)
    (hcode : (Cond.codeWith y bytes maxL ret hh).before args s = true) (hy : y.cls ≠ "java/lang/invoke/MethodHandle" ∧ y.cls ≠ "java/lang/invoke/VarHandle")
    {W9 : Nat} {Pre : Pt → Array Value → Prop} {Post : Pt → Array Value → Option Value → Pt → Prop} (hK : Back l R p e below s args y 3 W9 Pre Post)
    {b : Addr} {cellB : Cell} (hcell : T.heap[b]? = some cellB) (hobj : cellB.vm.isStatics = false) (hcls : s.vm.findClass C = some cellB.cls)
    {g : JFrame} (hg : g.method = m) (hsize : g.locals.size = c.maxLocals) {argsL rest : List Value} (hlen : ∀ sig, parseMethodDescriptor y.desc = some sig → argsL.length = sig.parameters.length)
    (hstack : g.stack = argsL.reverse ++ .ref b :: rest) (hW : 2 * g.monitorRoom + (rest.map fun v => v.category).sum ≤ W9) (hdg : decode c.code g.pc = .ok (.invokevirtual index, 3))
    (hpre : ∀ vm₁, s.WarmedH vm₁ → Pre ⟨T.setVm vm₁, locs, cells, slots⟩ (Value.ref b :: argsL).toArray) :
    ∃ (v : Option Value) (vm₁ : Vm) (B : Pt), s.WarmedH vm₁ ∧ Stand p l e R s m args below meth c B.U B.locs B.cells B.slots ∧ Post ⟨T.setVm vm₁, locs, cells, slots⟩ (Value.ref b :: argsL).toArray v B ∧
      ∀ target, Steps p.tables e below (B.U.setTop { g with pc := g.pc + 3, stack := v.toList ++ rest }) target → Steps p.tables e below (T.setTop g) target := by
  obtain ⟨mk, methM, hnamed, hmethM, hstM, habM⟩ := Cond.instanceMethod_spec hinst
  obtain ⟨m8, methM', cM, hn8, hmethM', -, -, -, -, -, -, hsigM⟩ := Cond.codeWith_spec hcode
  cases Option.some.inj (hn8.symm.trans hnamed)
  cases hmethM.symm.trans hmethM'
  obtain ⟨c2, r2, m2, q1, q2, q3, q4, kP, hkP, hkPi⟩ := Cond.selects_spec hsel
  cases hcls.symm.trans q1
  cases (State.methodFound?_of_named hnamed hy).symm.trans q2
  cases hnamed.symm.trans q3
  have hselP : selectMethod e.platform s.vm cellB.cls mk = .method mk := by rw [Launch.admits_selectMethod X.admits]; exact q4
  obtain ⟨vm₁, X₁, hstep₁⟩ := X.invokevirtual hexec hown hlink hnamed hmethM hstM hkP hkPi hy (a := b) (cell := cellB) hcell
    (fun z h => by rw [h] at hobj; cases hobj) hselP hmethM habM hkP hkPi (g := g) hg (argsL := argsL) (rest := rest) (hlen _ hsigM) hstack hdg
  obtain ⟨v, B, X', hpost, hsteps⟩ := hK m meth c ⟨T.setVm vm₁, locs, cells, slots⟩ { g with stack := rest } (.invokevirtual index) mk (Value.ref b :: argsL).toArray X₁ hg hsize hdg hW (X₁.named hnamed) (hpre vm₁ X₁.warmed)
  exact ⟨v, vm₁, B, X₁.warmed, X', hpost, fun target h => hstep₁ _ fun acts => by rw [doInvoke_state]; exact hsteps.trans h⟩
abbrev vx_CVW (R : Room) (s : State) (args : Array Value) (own C : String) (index : Nat) (y : MethodName) (bytes : ByteArray) (maxL : Nat) (ret : Option FieldType) (hh : List (Nat × Nat × Nat × Nat)) (ws : List Cond) (rm : Room) (mc ms n : Nat) : Prop :=
  (rm.cells = mc ∧ rm.slots = ms ∧ rm.frames + 1 ≤ R.frames ∧ 8 + (maxL + 11) + rm.locals ≤ R.locals ∧ (∀ w ∈ ws, ∀ (a' : Array Value) (U : State), s.WarmedH U.vm → w.before a' U = true) ∧ Cond.codeWith y bytes maxL ret hh ∈ ws) ∧
  (Cond.codeWith y bytes maxL ret hh).before args s = true ∧ (Cond.initialized y.cls).before args s = true ∧ (y.cls ≠ "java/lang/invoke/MethodHandle" ∧ y.cls ≠ "java/lang/invoke/VarHandle") ∧
  (∀ sig, parseMethodDescriptor y.desc = some sig → n = sig.parameters.length) ∧ (Cond.methodLink own index y).before args s = true ∧ (Cond.instanceMethod y).before args s = true ∧ (Cond.selects C y y).before args s = true
theorem vx_cwVW {own C : String} {index maxL mc ms : Nat} {y : MethodName} {bytes : ByteArray} {ret : Option FieldType} {hh : List (Nat × Nat × Nat × Nat)} {Ts ws ws' : List Cond} {rm : Room} (n : Nat) (ht : ∀ w ∈ Ts, w.before args s = true) (hT : GoodIn Ts (wsV own index C y ws)) (hw : ws = Cond.codeWith y bytes maxL ret hh :: ws') (hrc : rm.cells = mc) (hrs : rm.slots = ms)
    (hd : y.cls = C ∧ y.cls ≠ "java/lang/invoke/MethodHandle" ∧ y.cls ≠ "java/lang/invoke/VarHandle" ∧ (parseMethodDescriptor y.desc).map (fun d => d.parameters.length) = some n) (hR : rm.frames + 1 ≤ R.frames ∧ 8 + (maxL + 11) + rm.locals ≤ R.locals) :
    vx_CVW R s args own C index y bytes maxL ret hh ws rm mc ms n := by
  obtain ⟨hC, hd⟩ := hd
  subst hC
  have ok : ∀ w ∈ wsV own index y.cls y ws, w.before args s = true := fun w h => ht w (hT w h).1
  have hG : GoodIn Ts ws := fun w h => hT w (by unfold wsV; exact List.mem_append_right _ h)
  have hc : Cond.codeWith y bytes maxL ret hh ∈ ws := by rw [hw]; exact List.mem_cons_self
  refine ⟨⟨hrc, hrs, hR.1, hR.2, pay_in ht hG, hc⟩, ht _ (hG _ hc).1, ok _ (by simp [wsV]), ⟨hd.1, hd.2.1⟩, fun sig h => ?_, ok _ (by simp [wsV]), ok _ (by simp [wsV]), ok _ (by simp [wsV])⟩
  have h2 := hd.2.2
  rw [h] at h2
  exact (Option.some.inj h2).symm
theorem vx_runVW {y : MethodName} {bytes cc : ByteArray} {maxL nL mc ms n index : Nat} {ret : Option FieldType} {hh : List (Nat × Nat × Nat × Nat)} {ws : List Cond} {rm : Room} {Pc : Array Value → State → Prop} {Qc : Array Value → State → Outcome → State → Prop} {free : Addr → Prop} {Ts : List Cond} {own C : String} {b : Addr} {As rest : List Value} {g : JFrame}
    (S : CallFix p m c cc nL s args Ts own) (hM : Met l y ws rm Pc Qc mc ms free) (cw : vx_CVW R s args own C index y bytes maxL ret hh ws rm mc ms n) (hp : PreV s H C b Pc As)
    (hg : g.method = m) (hn : As.length = n) (hsize : g.locals.size = nL) (hstack : g.stack = As.reverse ++ .ref b :: rest) (hW : 2 * g.monitorRoom + (rest.map fun v => v.category).sum ≤ 8) (hdg : decode cc g.pc = .ok (.invokevirtual index, 3)) (hf : cells + mc ≤ R.cells ∧ slots + ms ≤ R.slots) :
    va_Run p l e R s m args below meth c H locs cells slots mc ms g rest (Qc (Value.ref b :: As).toArray) free := by
  obtain ⟨⟨hrc, hrs, hfr, hlo, hws, hcw⟩, hcode, hini, hy, hlen, hl, hin, hse⟩ := cw
  have hK : Back l R p e below s args y 3 8 (PreOf R mc ms Pc) (PostOf Qc mc ms free) := va_backW (hh := hh) (bytes := bytes) (maxL := maxL) (ret := ret) hM hp.1 hrc hrs hfr hlo hws hcw (fun a' U hW => word_at hW (Or.inl (by first | rfl | simp [Cond.onTables, Cond.keeps, Cond.steady])) hini)
  obtain ⟨hx, hb, hml, ho, -⟩ := S
  obtain ⟨-, ⟨cellB, hcB, hoB, hclB⟩, hPc⟩ := hp
  intro T hT X
  obtain ⟨v, vm₁, ⟨U', l2, c2, s2⟩, hW₁, X', ⟨g', mk, t, L, e1, e2, hq, h1, hL, h2, h3⟩, st⟩ := vx_callVW X hx (C := C) (hh := hh) (bytes := bytes) (maxL := maxL) (ret := ret) ho hl hin hse hcode hy hK (by rw [hT]; exact hcB) hoB hclB hg (hsize.trans hml.symm) (argsL := As) (rest := rest) (fun sig h => hn.trans (hlen sig h)) hstack hW (by rw [hb]; exact hdg)
    (fun vm₁ hW₁ => ⟨hf.1, hf.2, hPc (T.setVm vm₁) hT hW₁⟩)
  dsimp only [Pt.U, Pt.locs, Pt.cells, Pt.slots] at X' e1 e2 h1 h2 h3 st
  subst h1; subst h2; subst h3
  exact ⟨v, (T.setVm vm₁).calling g' mk (Value.ref b :: As).toArray, t, U', L, hT, X', hL, e1, e2, hq, st⟩
section
variable {y : MethodName} {bytes cc : ByteArray} {maxL nL mc ms n index : Nat} {ret : Option FieldType} {ws : List Cond} {rm : Room} {Pc : Array Value → State → Prop} {Qc : Array Value → State → Outcome → State → Prop} {XC : String → State → State → Prop} {free : Addr → Prop} {Ts : List Cond} {own C : String} {b : Addr} {As rest : List Value} {g : JFrame}
theorem vx_runVX {hh : List (Nat × Nat × Nat × Nat)} (S : CallFix p m c cc nL s args Ts own) (hM : vx_Met l y ws rm Pc Qc XC mc ms free) (cw : vx_CVW R s args own C index y bytes maxL ret hh ws rm mc ms n) (hp : PreV s H C b Pc As)
    (hg : g.method = m) (hn : As.length = n) (hsize : g.locals.size = nL) (hstack : g.stack = As.reverse ++ .ref b :: rest) (hW : 2 * g.monitorRoom + (rest.map fun v => v.category).sum ≤ 8) (hdg : decode cc g.pc = .ok (.invokevirtual index, 3)) (hf : cells + mc ≤ R.cells ∧ slots + ms ≤ R.slots) :
    vx_Run p l e R s m args below meth c H locs cells slots mc ms g rest (Qc (Value.ref b :: As).toArray) XC free := by
  obtain ⟨⟨hrc, hrs, hfr, hlo, hws, hcw⟩, hcode, hini, hy, hlen, hl, hin, hse⟩ := cw
  have hK : vx_Back l R p e below s args y 3 8 (PreOf R mc ms Pc) (PostOf Qc mc ms free) (vx_Post XC mc ms free) := vx_backW (hh := hh) (bytes := bytes) (maxL := maxL) (ret := ret) hM hp.1 hrc hrs hfr hlo hws hcw (fun a' U hW => word_at hW (Or.inl (by first | rfl | simp [Cond.onTables, Cond.keeps, Cond.steady])) hini)
  obtain ⟨hx, hb, hml, ho, -⟩ := S
  obtain ⟨-, ⟨cellB, hcB, hoB, hclB⟩, hPc⟩ := hp
  intro T hT X
  rcases vx_callVX X hx (C := C) (hh := hh) (bytes := bytes) (maxL := maxL) (ret := ret) ho hl hin hse hcode hy hK (by rw [hT]; exact hcB) hoB hclB hg (hsize.trans hml.symm) (argsL := As) (rest := rest) (fun sig h => hn.trans (hlen sig h)) hstack hW (by rw [hb]; exact hdg)
    (fun vm₁ hW₁ => ⟨hf.1, hf.2, hPc (T.setVm vm₁) hT hW₁⟩) with ⟨v, vm₁, ⟨U', l2, c2, s2⟩, hW₁, X', ⟨g', mk, t, L, e1, e2, hq, h1, hL, h2, h3⟩, st⟩ | ⟨q, vm₁, ⟨U', l2, c2, s2⟩, hW₁, X', ⟨g', mk, t, L, E, ce, e1, e2, hq, hce, hcv, hcl, h1, hL, h2, h3⟩, st⟩
  · dsimp only [Pt.U, Pt.locs, Pt.cells, Pt.slots] at X' e1 e2 h1 h2 h3 st
    subst h1; subst h2; subst h3
    exact Or.inl ⟨v, (T.setVm vm₁).calling g' mk (Value.ref b :: As).toArray, t, U', L, hT, X', hL, e1, e2, hq, st⟩
  · dsimp only [Pt.U, Pt.locs, Pt.cells, Pt.slots] at X' e1 e2 h1 h2 h3 st hcl
    subst h1; subst h2; subst h3
    exact Or.inr ⟨q, (T.setVm vm₁).calling g' mk (Value.ref b :: As).toArray, t, U', L, E, ce, hT, X', hL, e1, e2, hq, hce, hcv, vx_cls hW₁ hcl, st⟩
theorem vx_runSX {hh : List (Nat × Nat × Nat × Nat)} (S : CallFix p m c cc nL s args Ts own) (hM : vx_Met l y ws rm Pc Qc XC mc ms free) (cw : vx_CSW R s args own index y bytes maxL ret hh ws rm mc ms n) (hp : PreS s H Pc As)
    (hg : g.method = m) (hn : As.length = n) (hsize : g.locals.size = nL) (hstack : g.stack = As.reverse ++ rest) (hW : 2 * g.monitorRoom + (rest.map fun v => v.category).sum ≤ 8) (hdg : decode cc g.pc = .ok (.invokestatic index, 3)) (hf : cells + mc ≤ R.cells ∧ slots + ms ≤ R.slots) :
    vx_Run p l e R s m args below meth c H locs cells slots mc ms g rest (Qc As.toArray) XC free := by
  obtain ⟨⟨hrc, hrs, hfr, hlo, hws, hcw⟩, hcode, hini, hy, hlen, hl, hstt⟩ := cw
  have hK : vx_Back l R p e below s args y 3 8 (PreOf R mc ms Pc) (PostOf Qc mc ms free) (vx_Post XC mc ms free) := vx_backW (hh := hh) (bytes := bytes) (maxL := maxL) (ret := ret) hM hp.1 hrc hrs hfr hlo hws hcw (fun a' U hW => word_at hW (Or.inl (by first | rfl | simp [Cond.onTables, Cond.keeps, Cond.steady])) hini)
  obtain ⟨hx, hb, hml, ho, -⟩ := S
  intro T hT X
  rcases vx_callSX X hx (hh := hh) (bytes := bytes) (maxL := maxL) (ret := ret) ho hl hstt hini hcode hy hK hg (hsize.trans hml.symm) (argsL := As) (rest := rest) (fun sig h => hn.trans (hlen sig h)) hstack hW (by rw [hb]; exact hdg)
    (fun vm₁ hW₁ => ⟨hf.1, hf.2, hp.2 (T.setVm vm₁) hT hW₁⟩) with ⟨v, vm₁, ⟨U', l2, c2, s2⟩, hW₁, X', ⟨g', mk, t, L, e1, e2, hq, h1, hL, h2, h3⟩, st⟩ | ⟨q, vm₁, ⟨U', l2, c2, s2⟩, hW₁, X', ⟨g', mk, t, L, E, ce, e1, e2, hq, hce, hcv, hcl, h1, hL, h2, h3⟩, st⟩
  · dsimp only [Pt.U, Pt.locs, Pt.cells, Pt.slots] at X' e1 e2 h1 h2 h3 st
    subst h1; subst h2; subst h3
    exact Or.inl ⟨v, (T.setVm vm₁).calling g' mk As.toArray, t, U', L, hT, X', hL, e1, e2, hq, st⟩
  · dsimp only [Pt.U, Pt.locs, Pt.cells, Pt.slots] at X' e1 e2 h1 h2 h3 st hcl
    subst h1; subst h2; subst h3
    exact Or.inr ⟨q, (T.setVm vm₁).calling g' mk As.toArray, t, U', L, E, ce, hT, X', hL, e1, e2, hq, hce, hcv, vx_cls hW₁ hcl, st⟩
end
end VXH
theorem vx_ofWH {l : Launch} {y : MethodName} {ws ws' : List Cond} {rm : Room} {Pc : Array Value → State → Prop} {Qc : Array Value → State → Outcome → State → Prop} {XC : String → State → State → Prop} {mc ms : Nat} {free : Addr → Prop} {cc : ByteArray} {maxL : Nat} {ret : Option FieldType} {hh : List (Nat × Nat × Nat × Nat)}
    (hy : plainName y.cls = true) (hw : ws = Cond.codeWith y cc maxL ret hh :: ws')
    (body : ∀ p e s m args below meth c s₁, BodyLoose p l y (headSpec ws rm) cc maxL ret e s m args below meth c s₁ → c.maxLocals = maxL → Pc args s →
      W p l e (headSpec ws rm).room s m args below meth c s.heap [] 0 0 (vx_MQ below Qc XC args s mc ms free) (entryFrame m args maxL)) : vx_Met l y ws rm Pc Qc XC mc ms free := by
  refine MetFree.of_bodyS (code := cc) (maxLocals := maxL) (ret := ret) hy ?_ ?_
  · intro args s m h hn
    obtain ⟨m9, meth, c, hn9, h1, h2, h3, h4, -, h5, h6, -⟩ := Cond.codeWith_spec (atoms_spec (ws := ws) h _ (by rw [hw]; exact List.mem_cons_self))
    cases hn.symm.trans hn9
    exact ⟨meth, c, h1, h2, h3, h4, h5, h6⟩
  · intro p e s m args below meth c s₁ B hml hP _
    have hh0 : s₁.heap = s.heap := by rw [B.state]; rfl
    obtain ⟨t, a1, o, b1, b2, b3⟩ := body p e s m args below meth c s₁ B hml hP s₁ hh0 (Stand.of_body B)
    exact ⟨t, o, a1, b1, b2, b3⟩
/-! ===== END ===== -/

/-! ===== BEGIN what the machine throws by itself, no traces kept ===== -/
section VXM
set_option maxHeartbeats 1000000 in
/-- the machine throws cls with the message text, no traces kept: from its note over the frame g to 'throwing' over the same frame (follows the proofs of Stand.vmThrowsMessage, Shelf/KitTracedVmS.lean, and Stand.throwsMessageColdBareV, StandMessageColdV.lean, without the step out of the frame) -/
theorem vx_vmAt {p : Program} {l : Launch} {e : Env} {R : Room} {s : State} {m₀ : MethodId} {args : Array Value} {below : List Frame} {meth : Method} {c : Code} {W : State} {locs : List Loc} {cells slots : Nat}
    (X : Stand p l e R s m₀ args below meth c W locs cells slots) (hexec : p.tables.exec = Jvm.exec) (htr : e.platform.stackTraces = false) {cls : String} {names : List String} {text : String}
    (hcls : Bundle.fit cls = true) (hnames : ∀ n ∈ names, Bundle.fit n = true) (hsoe : (cls == "java/lang/StackOverflowError") = false) (hoom : (cls == "java/lang/OutOfMemoryError") = false)
    (h : ∀ a ∈ Bundle.messageArmAtoms cls names, a.before args s = true)
    (hlocs : ∀ x ∈ locs, ∀ cell, s.heap[x.base]? = some cell → cell.vm.isStatics = false)
    (htext : (text == notModelled) = false) (hlimit : ¬ (stringBytes (stringToUtf16 text)).size > e.platform.arrayLengthLimit) (hheap : ¬ (stringBytes (stringToUtf16 text)).size * componentBytes .byte > e.platform.maxHeapBytes)
    {g : JFrame} (hg : g.method = m₀) (hsize : g.locals.size = c.maxLocals)
    (hRframes : names.length + 4 < R.frames) (hRlocals : 2 * g.monitorRoom + (g.stack.map fun v => v.category).sum + 10240 ≤ R.locals) (hshort : 13 * names.length + 55 ≤ 10240)
    (hRcells : cells + 3 ≤ R.cells) (hRslots : slots + ((stringBytes (stringToUtf16 text)).size + 4 + 6) ≤ R.slots) (hlocks : meth.locks = false) :
    ∃ (S : State) (q : Addr) (ce : Cell), (∀ target, Steps p.tables e below ((S.setTop g).pushFrame (.throwing q)) target → Steps p.tables e below ((W.setTop g).pushFrame (.throwNew cls (some text) none)) target) ∧
      Stand p l e R s m₀ args below meth c S locs (cells + 3) (slots + ((stringBytes (stringToUtf16 text)).size + 4 + 6)) ∧ S.heap[q]? = some ce ∧ s.vm.findClass cls = some ce.cls ∧ ce.vm = .none := by
  have howns : e.platform.frameOwnsMonitors = true := by rw [X.admits.platform]
  have hfin : e.platform.finalization = false := by rw [X.admits.platform]
  have hpl : e.platform.magicAccessors = ({} : Platform).magicAccessors := by rw [X.admits.platform]
  have a : ∀ x, x ∈ Bundle.messageArmAtoms cls names → x.holds args s none s [] = true := fun x hx => h x hx
  obtain ⟨T, Z0, L, -, Y⟩ := ThrowableC.of_atoms (args := args) howns hfin hpl (fun x hx => h x (by simp [Bundle.messageArmAtoms, hx]))
  obtain ⟨Z, M, LZ, LM, hnZ⟩ := Init0T.ofS_atoms (args := args) hpl L Y (fun x hx => h x (by simp [Bundle.messageArmAtoms, hx]))
  obtain ⟨P1, Ps, hlen, L1, hL, hP1m, hlink1, hlink⟩ := Bundle.chainS (args := args) hpl hnZ names cls hcls hnames (fun x hx => h x (by simp [Bundle.messageArmAtoms, hx]))
  obtain ⟨Zs, LZs, hn4, hfitv, hfitc⟩ := StringT.of_atoms (args := args) (fun x hx => h x (by simp [Bundle.messageArmAtoms, hx]))
  have hfound : s.vm.findClass cls = some P1.m.cls := findClass_of_methodNamed hP1m
  obtain ⟨c1, kX, hc1, hk, hord, -, -, hn6⟩ := Cond.instantiable_spec (a (.instantiable cls 6) (by simp [Bundle.messageArmAtoms]))
  cases Option.some.inj (hc1.symm.trans hfound)
  have hinit := Cond.initialized_spec hfound hk (a (.initialized cls) (by simp [Bundle.messageArmAtoms]))
  have hctor : kX.findMethod "<init>" "(Ljava/lang/String;)V" = some P1.m.idx := findMethod_of_methodNamed hP1m hk
  have hsel0 : selectMethod e.platform s.vm P1.m.cls T.fill0 = .method T.fill0 := by
    obtain ⟨c2, r2, m2, q1, q2, q3, q4, -⟩ := Cond.selects_spec (a (.selects cls Bundle.tFill0 Bundle.tFill0) (by simp [Bundle.messageArmAtoms]))
    cases Option.some.inj (q1.symm.trans hfound)
    cases Option.some.inj (q2.symm.trans (State.methodFound?_of_named Y.fill0 (by decide)))
    cases Option.some.inj (q3.symm.trans Y.fill0)
    rw [Launch.admits_selectMethod X.admits]; exact q4
  have hselF : selectMethod e.platform s.vm P1.m.cls T.fill = .method T.fill := by
    obtain ⟨c2, r2, m2, q1, q2, q3, q4, -⟩ := Cond.selects_spec (a (.selects cls Bundle.tFill Bundle.tFill) (by simp [Bundle.messageArmAtoms]))
    cases Option.some.inj (q1.symm.trans hfound)
    cases Option.some.inj (q2.symm.trans (State.methodFound?_of_named Y.fill (by decide)))
    cases Option.some.inj (q3.symm.trans Y.fill)
    rw [Launch.admits_selectMethod X.admits]; exact q4
  obtain ⟨cellS0, hcS0, hiss⟩ := Y.statics
  obtain ⟨u0, hu0⟩ := Cond.staticRefV Y.unassigned L.unassignedStatic L.statics hcS0 hiss (a (.isRef (.static Bundle.tN "UNASSIGNED_STACK" Bundle.steD)) (by simp [Bundle.messageArmAtoms]))
  obtain ⟨sen, hsen⟩ := Cond.staticRefV Y.sentinel L.sentinelStatic L.statics hcS0 hiss (a (.isRef (.static Bundle.tN "SUPPRESSED_SENTINEL" Bundle.listD)) (by simp [Bundle.messageArmAtoms]))
  obtain ⟨ci198, i198, fB, hk198, hg198, ha198, hsB, -, hnB, htB, hffB⟩ := Cond.ownField (t := .object "java/lang/Object") Y.found L.cls (by decide +kernel) (a (.fieldLink Bundle.tN 198 Bundle.tN "backtrace" "Ljava/lang/Object;") (by simp [Bundle.messageArmAtoms])) (a (.lays Bundle.tN Bundle.tN "backtrace" "Ljava/lang/Object;") (by simp [Bundle.messageArmAtoms])) e.platform hpl
  obtain ⟨cellS, hcS', heS, -, hkeep⟩ := X.same.2.2.2.2.2 T.aS cellS0 hcS0
  have hcellS : W.heap[T.aS]? = some cellS := hcS'
  have hout' : ∀ i, (⟨T.aS, i⟩ : Loc) ∉ locs := fun i hmem => by
    have := hlocs _ hmem cellS0 hcS0
    rw [hiss] at this; cases this
  have hknownS : cellS.vm ≠ .unknown := by
    rw [heS]; intro hu
    rw [show cellS0.vm = .unknown from hu] at hiss
    cases hiss
  have hvU : cellS.slots[T.fUnassigned.slot]? = some u0.v := by rw [hkeep _ (hout' _)]; exact hu0
  have hvSen : cellS.slots[T.fSentinel.slot]? = some sen.v := by rw [hkeep _ (hout' _)]; exact hsen
  obtain ⟨iM, hffM⟩ := Y.msg
  obtain ⟨tyC, dC, hdC, hdnC⟩ := Cond.laysAt hfound hk Y.cause (a (.lays cls Bundle.tN "cause" "Ljava/lang/Throwable;") (by simp [Bundle.messageArmAtoms]))
  obtain ⟨tyS, dS, hdS, hdnS⟩ := Cond.laysAt hfound hk Y.stack (a (.lays cls Bundle.tN "stackTrace" Bundle.steD) (by simp [Bundle.messageArmAtoms]))
  obtain ⟨tyP, dP, hdP, hdnP⟩ := Cond.laysAt hfound hk Y.supp (a (.lays cls Bundle.tN "suppressedExceptions" Bundle.listD) (by simp [Bundle.messageArmAtoms]))
  obtain ⟨tyM, dM, hdM, hdnM⟩ := Cond.laysAt hfound hk hffM (a (.lays cls Bundle.tN "detailMessage" "Ljava/lang/String;") (by simp [Bundle.messageArmAtoms]))
  obtain ⟨tyB, dB, hdB, hdnB⟩ := Cond.laysAt hfound hk hffB (a (.lays cls Bundle.tN "backtrace" "Ljava/lang/Object;") (by simp [Bundle.messageArmAtoms]))
  have bC := Cond.laysApart hdB hdC hdnB hdnC (by rw [hnB, Y.causeName]; decide)
  have bS := Cond.laysApart hdB hdS hdnB hdnS (by rw [hnB, Y.stackName]; decide)
  have bP := Cond.laysApart hdB hdP hdnB hdnP (by rw [hnB, Y.suppName]; decide)
  have hbk : ((preparedCellV T.toThrowableT (freshCell P1.m.cls kX) (W.heap.size + 2) u0 sen).withEntry W.cur).slots[fB.slot]? = some .null := by
    have := fresh_default (c := P1.m.cls) tyB
    rw [htB] at this
    simpa [preparedCellV, Cell.setSlot, Cell.withEntry, Array.getElem?_setIfInBounds, bC, bS, bP, bC.symm, bS.symm, bP.symm, defaultValue] using this
  have tkC := Takes.of_laid (v := .ref (W.heap.size + 2)) hk hord tyC (by rw [Y.causeType]; rfl)
  have tkS := Takes.of_laid (v := u0.v) hk hord tyS (by rw [Y.stackType]; exact fits_refV_array _ u0)
  have tkP := Takes.of_laid (v := sen.v) hk hord tyP (by rw [Y.suppType]; exact fits_refV_object _ sen)
  have tkM := Takes.of_laid (v := .ref (W.heap.size + 1)) hk hord tyM (by rw [Y.msgType]; rfl)
  have hskip : SkipFacts T e.platform s (fun u => u) u0 ((preparedCellV T.toThrowableT (freshCell P1.m.cls kX) (W.heap.size + 2) u0 sen).withEntry W.cur) := ⟨{ ci198 := ci198, i198 := i198, fBack := fB }, ⟨hk198, hg198, ha198, hsB⟩, hbk, fun _ _ => rfl⟩
  have h0 : At W g.method c below := by rw [hg]; exact X.here
  obtain ⟨hbeyond, hfreeW⟩ := X.vmMayThrow hsize (.throwNew cls (some text) none) (fun f hf => by cases hf) rfl hRlocals
  have hfr' : W.frames.length + Ps.length + 4 < (e.platform.stackLimits W.me).1 := by have := X.framesAbove hRframes; omega
  have hwd' : (stackUse (.java g :: W.frames.tail)).2 + 13 * Ps.length + 55 ≤ (e.platform.stackLimits W.me).2 := by have := X.stackAbove hsize (K := 13 * Ps.length + 55) (by omega); omega
  have hslots : W.slotsUsed + (stringBytes (stringToUtf16 text)).size + Zs.kS.instanceTypes.size + kX.instanceTypes.size ≤ e.platform.maxSlots := by
    have := X.slotsAbove hRslots
    rw [hn4, hn6]
    omega
  obtain ⟨vm', hW', st⟩ := Steps.vmThrowsMessageColdByV p (s₀ := s) (S := W) (g := g) h0 hexec T L Z LZ M LM X.warmed (t := W.cur) rfl Zs LZs P1 L1 Ps hL hlink1 hlink hsoe hoom hfound hk hinit hord hctor
    (Launch.admits_hotImplicitExceptions X.admits) hbeyond hfreeW htext hlimit hheap (X.cellsAbove hRcells) hslots (hfitv _) (hfitc _)
    (Nn := fun u => u) heapOnly_id (fun _ _ => rfl) (fun _ => rfl) (fun u x y => setCell_twice _ _ _ _) (fun _ => Nat.le_refl _) (cN := ((preparedCellV T.toThrowableT (freshCell P1.m.cls kX) (W.heap.size + 2) u0 sen).withEntry W.cur))
    hsel0 hcellS hknownS hvU tkS (fun _ hu => hu) (fun _ hu => hu) rfl rfl rfl (by simp [preparedCellV, Cell.setSlot, Cell.withEntry]) hskip (fun _ _ hA hW _ hroom _ hrest => L.nativeOff p htr hA hW hroom hrest) hselF hvSen tkC tkP tkM Y.objLocals rfl hfr' hwd'
  rw [plainBareV_eq T.toThrowableT (W.heap.size + 2) u0 sen (.ref (W.heap.size + 1)) W.cur rfl rfl] at st
  obtain ⟨-, -, w3, w4, -, -, -⟩ := withThrown_facts e.platform W Zs text P1.m.cls kX
  have X3 := ((X.pushed (bytesOf Zs.cB (stringToUtf16 text))).pushed (stringAt Zs.cS Zs.kS Zs.fv Zs.fc (stringToUtf16 text) W.heap.size)).pushed (freshCell P1.m.cls kX)
  rw [← withString_eq] at X3
  have X4 := X3.noted hW'
  have ha : (W.heap.size + 2) < ((withThrown W Zs text P1.m.cls kX).setVm vm').heap.size := by show _ < (withThrown W Zs text P1.m.cls kX).heap.size; rw [w3]; omega
  have hcell : ((withThrown W Zs text P1.m.cls kX).setVm vm').heap[(W.heap.size + 2)]? = some (freshCell P1.m.cls kX) := w4
  have X5 := ((((X4.stored hcell T.fCause.slot (.ref (W.heap.size + 2))).storedAgain ha T.fStack.slot u0.v).storedAgain ha T.fSupp.slot sen.v).storedAgain ha T.fStack.slot u0.v).storedAgain ha T.fMsg.slot (.ref (W.heap.size + 1))
  obtain ⟨g₁, hfrM⟩ := X5.frames_eq
  have hU : ((((withThrown W Zs text P1.m.cls kX).setVm vm').setCell (W.heap.size + 2) (plainBareV T.toThrowableT (freshCell P1.m.cls kX) (W.heap.size + 2) u0 sen (.ref (W.heap.size + 1)))).setTop g).pushFrame (.throwing (W.heap.size + 2)) = (((withThrown W Zs text P1.m.cls kX).setVm vm').setCell (W.heap.size + 2) (plainBareV T.toThrowableT (freshCell P1.m.cls kX) (W.heap.size + 2) u0 sen (.ref (W.heap.size + 1)))).setFrames (.throwing (W.heap.size + 2) :: .java g :: below) := by
    rw [State.pushFrame, State.frames_setTop _ hfrM, State.setTop_of_frames _ hfrM, State.setFrames_setFrames]
  have b1 : (bytesOf Zs.cB (stringToUtf16 text)).slots.size = (stringBytes (stringToUtf16 text)).size := by
    rw [(Cell.writeAll_facts _ _).2.2]; simp [bytes0]
  have b2 : (stringAt Zs.cS Zs.kS Zs.fv Zs.fc (stringToUtf16 text) W.heap.size).slots.size = 4 := by simp [string0, Cell.setSlot, hn4]
  have b3 : (freshCell P1.m.cls kX).slots.size = 6 := by simp [hn6]
  rw [b1, b2, b3] at X5
  have e9 : slots + (stringBytes (stringToUtf16 text)).size + 4 + 6 = slots + ((stringBytes (stringToUtf16 text)).size + 4 + 6) := by omega
  rw [e9] at X5
  simp only [List.append_assoc, List.cons_append, List.nil_append] at X5
  refine ⟨((withThrown W Zs text P1.m.cls kX).setVm vm').setCell (W.heap.size + 2) (plainBareV T.toThrowableT (freshCell P1.m.cls kX) (W.heap.size + 2) u0 sen (.ref (W.heap.size + 1))), W.heap.size + 2, _, fun target ht => st _ (by rw [X.tail, ← hU]; exact ht),
    X5.forget (fun y hy => ?_), heapAt_setCell_self _ ha, hfound, rfl⟩
  simp only [List.mem_cons, List.not_mem_nil, or_false] at hy
  have hge : s.heap.size ≤ W.heap.size := X.same.2.1
  rcases hy with rfl | rfl | rfl | rfl | rfl <;> exact Nat.le_trans hge (Nat.le_add_right _ 2)
set_option maxHeartbeats 1000000 in
/-- the machine throws NullPointerException, no traces kept: from its note over the frame g to 'throwing' over the same frame (follows the proof of Stand.vmThrowsNpe, Shelf42/KT2.lean; throwsNpeColdBareVAt, Shelf42/NT91.lean, called) -/
theorem vx_npeAt {p : Program} {l : Launch} {e : Env} {R : Room} {s : State} {m₀ : MethodId} {args : Array Value} {below : List Frame} {meth : Method} {c : Code} {W : State} {locs : List Loc} {cells slots : Nat}
    (X : Stand p l e R s m₀ args below meth c W locs cells slots) (hexec : p.tables.exec = Jvm.exec) (htr : e.platform.stackTraces = false) {n : Nat}
    (h : ∀ a ∈ Bundle.npeArmAtoms n, a.before args s = true)
    (hlocs : ∀ x ∈ locs, ∀ cell, s.heap[x.base]? = some cell → cell.vm.isStatics = false)
    {g : JFrame} (hg : g.method = m₀) (hsize : g.locals.size = c.maxLocals)
    (hRframes : 7 < R.frames) (hRlocals : 2 * g.monitorRoom + (g.stack.map fun v => v.category).sum + 10240 ≤ R.locals)
    (hRcells : cells + 1 ≤ R.cells) (hRslots : slots + n ≤ R.slots) (hlocks : meth.locks = false) :
    ∃ (S : State) (q : Addr) (ce : Cell), (∀ target, Steps p.tables e below ((S.setTop g).pushFrame (.throwing q)) target → Steps p.tables e below ((W.setTop g).pushFrame (.throwNew "java/lang/NullPointerException" none none)) target) ∧
      Stand p l e R s m₀ args below meth c S locs (cells + 1) (slots + n) ∧ S.heap[q]? = some ce ∧ s.vm.findClass "java/lang/NullPointerException" = some ce.cls ∧ ce.vm = .none := by
  have howns : e.platform.frameOwnsMonitors = true := by rw [X.admits.platform]
  have hfin : e.platform.finalization = false := by rw [X.admits.platform]
  have hpl : e.platform.magicAccessors = ({} : Platform).magicAccessors := by rw [X.admits.platform]
  have hpl2 : e.platform.arrayCloneIsPublic = true := by rw [X.admits.platform]
  have a' : ∀ x, x ∈ Bundle.npeArmAtoms n → x.holds args s none s [] = true := fun x hx => h x hx
  obtain ⟨T, Z, L, LZ, Y⟩ := ThrowableC.of_atoms (args := args) howns hfin hpl (fun x hx => h x (by simp [Bundle.npeArmAtoms, hx]))
  obtain ⟨N, LN, hcN, hnNF, hordN, hffS⟩ := NpeC.of_atoms (args := args) hpl hpl2 L Y (fun x hx => h x (by simp [Bundle.npeArmAtoms, hx]))
  obtain ⟨P1, L1, hP1m, hP1s⟩ := PassC.of_atoms (args := args) (s := s) hpl (X := Bundle.nN) (Y := Bundle.rN) (by decide) (by decide) LibCode.NullPointerException.Init0.at_0 LibCode.NullPointerException.Init0.at_1 LibCode.NullPointerException.Init0.at_4 (fun x hx => h x (by simp [Bundle.npeArmAtoms, hx]))
  obtain ⟨PR, LR, hPRm, hPRs⟩ := PassC.of_atoms (args := args) (s := s) hpl (X := Bundle.rN) (Y := Bundle.eN) (by decide) (by decide) LibCode.RuntimeException.Init0.at_0 LibCode.RuntimeException.Init0.at_1 LibCode.RuntimeException.Init0.at_4 (fun x hx => h x (by simp [Bundle.npeArmAtoms, hx]))
  obtain ⟨PE, LEx, hPEm, hPEs⟩ := PassC.of_atoms (args := args) (s := s) hpl (X := Bundle.eN) (Y := Bundle.tN) (by decide) (by decide) LibCode.Exception.Init0.at_0 LibCode.Exception.Init0.at_1 LibCode.Exception.Init0.at_4 (fun x hx => h x (by simp [Bundle.npeArmAtoms, hx]))
  have hfound : s.vm.findClass Bundle.nN = some P1.m.cls := findClass_of_methodNamed hP1m
  have ecls : N.cN = P1.m.cls := Option.some.inj (hcN.symm.trans hfound)
  have hk : s.vm.classes[P1.m.cls]? = some N.kN := by rw [← ecls]; exact LN.cls
  have hinit := Cond.initialized_spec hfound hk (a' (.initialized Bundle.nN) (by simp [Bundle.npeArmAtoms]))
  have hctor : N.kN.findMethod "<init>" "()V" = some P1.m.idx := findMethod_of_methodNamed hP1m hk
  obtain ⟨c1, k1, hc1, hk1, -, -, -, hn⟩ := Cond.instantiable_spec (a' (.instantiable Bundle.nN n) (by simp [Bundle.npeArmAtoms]))
  cases Option.some.inj (hc1.symm.trans hfound)
  cases Option.some.inj (hk1.symm.trans hk)
  have hfsz : (freshCell P1.m.cls N.kN).slots.size = n := by simp [hn]
  have hlink1 : P1.sup = PR.m := Option.some.inj (hP1s.symm.trans hPRm)
  have hlinkR : PR.sup = PE.m := Option.some.inj (hPRs.symm.trans hPEm)
  have hlinkE : PE.sup = Z.m T.toThrowableT := Option.some.inj (hPEs.symm.trans Y.init0)
  have hLs : ∀ P, P ∈ [PR, PE] → P.Links0 e.platform s := fun P hP => by
    simp only [List.mem_cons, List.not_mem_nil, or_false] at hP
    rcases hP with rfl | rfl
    · exact LR
    · exact LEx
  have hsel0 : selectMethod e.platform s.vm P1.m.cls T.fill0 = .method T.fill0 := by
    obtain ⟨c2, r2, m2, q1, q2, q3, q4, -⟩ := Cond.selects_spec (a' (.selects Bundle.nN Bundle.tFill0 Bundle.tFill0) (by simp [Bundle.npeArmAtoms]))
    cases Option.some.inj (q1.symm.trans hfound)
    cases Option.some.inj (q2.symm.trans (State.methodFound?_of_named Y.fill0 (by decide)))
    cases Option.some.inj (q3.symm.trans Y.fill0)
    rw [Launch.admits_selectMethod X.admits]; exact q4
  have hselF : selectMethod e.platform s.vm P1.m.cls T.fill = .method N.fill := by
    obtain ⟨c2, r2, m2, q1, q2, q3, q4, -⟩ := Cond.selects_spec (a' (.selects Bundle.nN Bundle.tFill Bundle.nFill) (by simp [Bundle.npeArmAtoms]))
    cases Option.some.inj (q1.symm.trans hfound)
    cases Option.some.inj (q2.symm.trans (State.methodFound?_of_named Y.fill (by decide)))
    cases Option.some.inj (q3.symm.trans hnNF)
    rw [Launch.admits_selectMethod X.admits]; exact q4
  obtain ⟨cellS0, hcS0, hiss⟩ := Y.statics
  obtain ⟨u0, hu0⟩ := Cond.staticRefV Y.unassigned L.unassignedStatic L.statics hcS0 hiss (a' (.isRef (.static Bundle.tN "UNASSIGNED_STACK" Bundle.steD)) (by simp [Bundle.npeArmAtoms]))
  obtain ⟨sen, hsen⟩ := Cond.staticRefV Y.sentinel L.sentinelStatic L.statics hcS0 hiss (a' (.isRef (.static Bundle.tN "SUPPRESSED_SENTINEL" Bundle.listD)) (by simp [Bundle.npeArmAtoms]))
  obtain ⟨ci198, i198, fB, hk198, hg198, ha198, hsB, -, hnB, htB, hffB⟩ := Cond.ownField (t := .object "java/lang/Object") Y.found L.cls (by decide +kernel) (a' (.fieldLink Bundle.tN 198 Bundle.tN "backtrace" Bundle.objD) (by simp [Bundle.npeArmAtoms])) (a' (.lays Bundle.tN Bundle.tN "backtrace" Bundle.objD) (by simp [Bundle.npeArmAtoms])) e.platform hpl
  obtain ⟨cellS, hcS', heS, -, hkeep⟩ := X.same.2.2.2.2.2 T.aS cellS0 hcS0
  have hcellS : W.heap[T.aS]? = some cellS := hcS'
  have hout' : ∀ i, (⟨T.aS, i⟩ : Loc) ∉ locs := fun i hmem => by
    have := hlocs _ hmem cellS0 hcS0
    rw [hiss] at this; cases this
  have hknownS : cellS.vm ≠ .unknown := by
    rw [heS]; intro hu
    rw [show cellS0.vm = .unknown from hu] at hiss
    cases hiss
  have hvU : cellS.slots[T.fUnassigned.slot]? = some u0.v := by rw [hkeep _ (hout' _)]; exact hu0
  have hvSen : cellS.slots[T.fSentinel.slot]? = some sen.v := by rw [hkeep _ (hout' _)]; exact hsen
  obtain ⟨tyC, dC, hdC, hdnC⟩ := Cond.laysAt hfound hk Y.cause (a' (.lays Bundle.nN Bundle.tN "cause" "Ljava/lang/Throwable;") (by simp [Bundle.npeArmAtoms]))
  obtain ⟨tyS, dS, hdS, hdnS⟩ := Cond.laysAt hfound hk Y.stack (a' (.lays Bundle.nN Bundle.tN "stackTrace" Bundle.steD) (by simp [Bundle.npeArmAtoms]))
  obtain ⟨tyP, dP, hdP, hdnP⟩ := Cond.laysAt hfound hk Y.supp (a' (.lays Bundle.nN Bundle.tN "suppressedExceptions" Bundle.listD) (by simp [Bundle.npeArmAtoms]))
  obtain ⟨tyX, dX, hdX, hdnX⟩ := Cond.laysAt hfound hk hffS (a' (.lays Bundle.nN Bundle.nN "extendedMessageState" "I") (by simp [Bundle.npeArmAtoms, Bundle.npeAtoms]))
  obtain ⟨hnX, htX⟩ := State.fieldFound?_type hffS (t := .int) (by decide +kernel)
  have xC := Cond.laysApart hdC hdX hdnC hdnX (by rw [hnX, Y.causeName]; decide)
  have xS := Cond.laysApart hdS hdX hdnS hdnX (by rw [hnX, Y.stackName]; decide)
  have xP := Cond.laysApart hdP hdX hdnP hdnX (by rw [hnX, Y.suppName]; decide)
  have hv0 : (freshCell P1.m.cls N.kN).slots[N.fState.slot]? = some (.int 0) := by
    have := fresh_default (c := P1.m.cls) tyX
    rw [htX] at this; exact this
  obtain ⟨tyB, dB, hdB, hdnB⟩ := Cond.laysAt hfound hk hffB (a' (.lays Bundle.nN Bundle.tN "backtrace" Bundle.objD) (by simp [Bundle.npeArmAtoms]))
  have bC := Cond.laysApart hdB hdC hdnB hdnC (by rw [hnB, Y.causeName]; decide)
  have bS := Cond.laysApart hdB hdS hdnB hdnS (by rw [hnB, Y.stackName]; decide)
  have bP := Cond.laysApart hdB hdP hdnB hdnP (by rw [hnB, Y.suppName]; decide)
  have bX := Cond.laysApart hdB hdX hdnB hdnX (by rw [hnB, hnX]; decide)
  have hbk : ((npeCell N.toNpeT (preparedCellV T.toThrowableT (freshCell P1.m.cls N.kN) W.heap.size u0 sen) W.cur).withEntry W.cur).slots[fB.slot]? = some .null := by
    have := fresh_default (c := P1.m.cls) tyB
    rw [htB] at this
    simpa [npeCell, preparedCellV, Cell.setSlot, Cell.withEntry, Array.getElem?_setIfInBounds, bC, bS, bP, bX, bC.symm, bS.symm, bP.symm, bX.symm, defaultValue] using this
  have tkC := Takes.of_laid (v := .ref W.heap.size) hk hordN tyC (by rw [Y.causeType]; rfl)
  have tkS := Takes.of_laid (v := u0.v) hk hordN tyS (by rw [Y.stackType]; exact fits_refV_array _ u0)
  have tkP := Takes.of_laid (v := sen.v) hk hordN tyP (by rw [Y.suppType]; exact fits_refV_object _ sen)
  have tkX := Takes.of_laid (v := .int 1) hk hordN tyX (by rw [htX]; rfl)
  have hskip : SkipFacts T e.platform s (fun u => u) u0 ((npeCell N.toNpeT (preparedCellV T.toThrowableT (freshCell P1.m.cls N.kN) W.heap.size u0 sen) W.cur).withEntry W.cur) := ⟨{ ci198 := ci198, i198 := i198, fBack := fB }, ⟨hk198, hg198, ha198, hsB⟩, hbk, fun _ _ => rfl⟩
  obtain ⟨vm', X3, st, -⟩ := X.throwsNpeColdBareVAt hexec hg hsize T L Z LZ N LN P1 L1 [PR, PE] hLs hlink1 ⟨hlinkR, hlinkE, trivial⟩ hfound hk hinit hordN hctor hsel0 hselF hcellS hknownS hvU hvSen
    hv0 xC xS xP tkC tkS tkP tkX Y.objLocals hskip (fun _ _ hA hW _ hroom _ hrest => L.nativeOff p htr hA hW hroom hrest) (by simpa using hRframes) hRlocals (by simp) hRcells (by rw [hn]; exact hRslots)
  have hlt : W.heap.size < ((W.pushCell (freshCell P1.m.cls N.kN)).setVm vm').heap.size := by
    show W.heap.size < (W.pushCell (freshCell P1.m.cls N.kN)).heap.size
    rw [State.heap_size_pushCell]; omega
  rw [hfsz] at X3
  obtain ⟨g₁, hfrM⟩ := X3.frames_eq
  have hU : ((((W.pushCell (freshCell P1.m.cls N.kN)).setVm vm').setCell W.heap.size (npeBareV T.toThrowableT N.toNpeT (freshCell P1.m.cls N.kN) W.heap.size u0 sen)).setTop g).pushFrame (.throwing W.heap.size) = (((W.pushCell (freshCell P1.m.cls N.kN)).setVm vm').setCell W.heap.size (npeBareV T.toThrowableT N.toNpeT (freshCell P1.m.cls N.kN) W.heap.size u0 sen)).setFrames (.throwing W.heap.size :: .java g :: below) := by
    rw [State.pushFrame, State.frames_setTop _ hfrM, State.setTop_of_frames _ hfrM, State.setFrames_setFrames]
  refine ⟨_, W.heap.size, _, fun target ht => st.trans (by rw [← hU]; exact ht), X3.forget (fun y hy => ?_), heapAt_setCell_self _ hlt, hfound, rfl⟩
  simp only [List.mem_cons, List.not_mem_nil, or_false] at hy
  have hge : s.heap.size ≤ W.heap.size := X.same.2.1
  rcases hy with rfl | rfl | rfl | rfl | rfl <;> exact hge
/-- the words of a machine's NullPointerException, but the four that speak of the heap -/
def vx_atN (n : Nat) : List Cond := (Bundle.npeArmAtoms n).filter vx_no
/-- the words of a machine's throw with a message, but the four that speak of the heap -/
def vx_atM (X : String) (names : List String) : List Cond := (Bundle.messageArmAtoms X names).filter vx_no
section
variable {p : Program} {l : Launch} {e : Env} {R : Room} {s : State} {m : MethodId} {args : Array Value} {below : List Frame} {meth : Method} {c : Code} {H : Heap} {locs : List Loc} {cells slots : Nat}
/-- a frame seen from a rebased start, seen from the first start again -/
theorem vx_back9 {T S : State} {R' : Room} {k n : Nat} (X : Stand p l e R s m args below meth c T locs cells slots) (Y : Stand p l e R' ((T.setVm s.vm).setFrames (.invoking m args :: below)) m args below meth c T [] 0 0) (Z : Stand p l e R' ((T.setVm s.vm).setFrames (.invoking m args :: below)) m args below meth c S [] k n) :
    Stand p l e R s m args below meth c S locs (cells + k) (slots + n) := by
  have hW0 : s.WarmedH ((T.setVm s.vm).setFrames (.invoking m args :: below)).vm := State.WarmedH.refl s
  refine { admits := X.admits, cas := X.cas, clock := X.clock, frames := X.frames, room := X.room, hears := X.hears, method := X.method, code := X.code, here := Z.here, tail := Z.tail, warmed := State.WarmedH.trans hW0 Z.warmed, limits := Z.limits.trans (Y.limits.symm.trans X.limits), bytes := Z.bytes.trans (Y.bytes.symm.trans X.bytes), same := ?_ }
  obtain ⟨e1, e2⟩ := Z.same
  rw [State.setFrames_setFrames] at e1
  have h2 : (T.setVm s.vm).sameButNew (S.setVm s.vm) [] k n := ⟨e1, e2⟩
  have h3 := X.same.trans h2
  rw [List.append_nil] at h3
  exact h3
/-- from the machine's note that E is thrown here with this text -/
def vx_Note (p : Program) (l : Launch) (e : Env) (R : Room) (s : State) (m : MethodId) (args : Array Value) (below : List Frame) (meth : Method) (c : Code) (H : Heap) (locs : List Loc) (cells slots : Nat) (Q : State → Prop) (g : JFrame) (E text : String) : Prop :=
  ∀ T : State, T.heap = H → Stand p l e R s m args below meth c T locs cells slots → ∃ t, Steps p.tables e below ((T.setTop g).pushFrame (.throwNew E (some text) none)) t ∧ Q t
theorem vx_vm {pc : Nat} {ls : Array Slot} {rest : List Value} {Q : State → Prop} (hexec : p.tables.exec = Jvm.exec) (hl : l.stackTraces = false) {cls text : String} {names : List String} {nb : Nat} {A : Nat → Prop}
    (hcls : Bundle.fit cls = true) (hnames : ∀ n ∈ names, Bundle.fit n = true) (hsoe : (cls == "java/lang/StackOverflowError") = false) (hoom : (cls == "java/lang/OutOfMemoryError") = false)
    (hat : ∀ w ∈ vx_atM cls names, w.before args s = true) (hgood : ∀ w ∈ vx_atM cls names, vx_ot w = true)
    (hU : vx_Zq Bundle.tN "UNASSIGNED_STACK" Bundle.steD A s s.heap) (hN : vx_Zq Bundle.tN "SUPPRESSED_SENTINEL" Bundle.listD A s s.heap) (hS : va_S A s.heap H locs) (hsize : ls.size = c.maxLocals)
    (htext : (text == notModelled) = false) (hnb : (stringBytes (stringToUtf16 text)).size ≤ nb) (hnb1 : nb ≤ 1000)
    (hRframes : names.length + 4 < R.frames) (hRlocals : (rest.map fun v => v.category).sum + 10240 ≤ R.locals) (hshort : 13 * names.length + 55 ≤ 10240) (hRcells : cells + 3 ≤ R.cells) (hRslots : slots + (nb + 10) ≤ R.slots) (hlocks : meth.locks = false)
    (k : ∀ (H1 : Heap) (q9 : Addr) (ce : Cell), H.size ≤ H1.size → (∀ q : Nat, q < H.size → H1[q]? = H[q]?) → va_S A s.heap H1 locs → H1[q9]? = some ce → ce.vm = .none → s.vm.findClass cls = some ce.cls → vx_W p l e R s m args below meth c H1 locs (cells + 3) (slots + (nb + 10)) Q (F0 m pc ls rest) q9) :
    vx_Note p l e R s m args below meth c H locs cells slots Q (F0 m pc ls rest) cls text := by
  intro T hT X
  have htr : e.platform.stackTraces = false := (show e.platform.stackTraces = l.stackTraces by rw [X.admits.platform]).trans hl
  have Y := vx_rebase X (R' := { frames := R.frames, locals := R.locals, cells := 3, slots := nb + 10 }) (Nat.le_refl _) (Nat.le_refl _) hRcells hRslots
  have hhp : ((T.setVm s.vm).setFrames (.invoking m args :: below)).heap = H := hT
  have hW0 : s.WarmedH ((T.setVm s.vm).setFrames (.invoking m args :: below)).vm := State.WarmedH.refl s
  have hat' : ∀ w ∈ vx_atM cls names, w.before args ((T.setVm s.vm).setFrames (.invoking m args :: below)) = true := fun w hw => vx_ot_at hW0 rfl (hgood w hw) (hat w hw)
  have hU' : vx_Zq Bundle.tN "UNASSIGNED_STACK" Bundle.steD A ((T.setVm s.vm).setFrames (.invoking m args :: below)) ((T.setVm s.vm).setFrames (.invoking m args :: below)).heap := by rw [hhp]; exact vx_Zq.moved hW0.alike (hU.kept hS.2.1)
  have hN' : vx_Zq Bundle.tN "SUPPRESSED_SENTINEL" Bundle.listD A ((T.setVm s.vm).setFrames (.invoking m args :: below)) ((T.setVm s.vm).setFrames (.invoking m args :: below)).heap := by rw [hhp]; exact vx_Zq.moved hW0.alike (hN.kept hS.2.1)
  obtain ⟨S, q, ce, st, Z, hce, hcl', hv⟩ := vx_vmAt Y hexec htr (cls := cls) (names := names) (text := text) hcls hnames hsoe hoom (vx_own hat' (vx_isRefq hU'.1) (vx_isRefq hN'.1) hU'.2.word hN'.2.word) (fun x hx => nomatch hx) htext
    (by rw [Launch.admits_arrayLengthLimit X.admits]; omega) (by rw [Launch.admits_maxHeapBytes X.admits]; simp only [componentBytes]; omega)
    (g := F0 m pc ls rest) rfl hsize hRframes (by show 2 * 0 + (rest.map fun v => v.category).sum + 10240 ≤ R.locals; omega) hshort (by show 0 + 3 ≤ 3; omega) (by show 0 + (_ + 4 + 6) ≤ nb + 10; omega) hlocks
  obtain ⟨f1, f2⟩ := vx_frame Z.same
  have f1' : H.size ≤ S.heap.size := by rw [← hT]; exact f1
  have f2' : ∀ q : Nat, q < H.size → S.heap[q]? = H[q]? := fun q hq => by
    rw [← hT]
    exact f2 q (by rw [← hT] at hq; exact hq) (fun z hz => nomatch hz)
  have X5 := vx_back9 X Y Z
  have X6 : Stand p l e R s m args below meth c S locs (cells + 3) (slots + (nb + 10)) := { X5 with same := X5.same.mono (by omega) (by omega) }
  obtain ⟨t, a1, b1⟩ := k S.heap q ce f1' f2' ⟨Nat.le_trans hS.1 f1', fun q h1 h2 => (f2' q (Nat.lt_of_lt_of_le h1 hS.1)).trans (hS.2.1 q h1 h2), hS.2.2⟩ hce hv hcl' S rfl X6
  exact ⟨t, st t a1, b1⟩
/-- from the machine's note that NullPointerException is thrown here -/
def vx_NoteN (p : Program) (l : Launch) (e : Env) (R : Room) (s : State) (m : MethodId) (args : Array Value) (below : List Frame) (meth : Method) (c : Code) (H : Heap) (locs : List Loc) (cells slots : Nat) (Q : State → Prop) (g : JFrame) : Prop :=
  ∀ T : State, T.heap = H → Stand p l e R s m args below meth c T locs cells slots → ∃ t, Steps p.tables e below ((T.setTop g).pushFrame (.throwNew "java/lang/NullPointerException" none none)) t ∧ Q t
theorem vx_npe {pc : Nat} {ls : Array Slot} {rest : List Value} {Q : State → Prop} (hexec : p.tables.exec = Jvm.exec) (hl : l.stackTraces = false) {nb : Nat} {A : Nat → Prop}
    (hat : ∀ w ∈ vx_atN nb, w.before args s = true) (hgood : ∀ w ∈ vx_atN nb, vx_ot w = true)
    (hU : vx_Zq Bundle.tN "UNASSIGNED_STACK" Bundle.steD A s s.heap) (hN : vx_Zq Bundle.tN "SUPPRESSED_SENTINEL" Bundle.listD A s s.heap) (hS : va_S A s.heap H locs) (hsize : ls.size = c.maxLocals)
    (hRframes : 7 < R.frames) (hRlocals : (rest.map fun v => v.category).sum + 10240 ≤ R.locals) (hRcells : cells + 1 ≤ R.cells) (hRslots : slots + nb ≤ R.slots) (hlocks : meth.locks = false)
    (k : ∀ (H1 : Heap) (q9 : Addr) (ce : Cell), H.size ≤ H1.size → (∀ q : Nat, q < H.size → H1[q]? = H[q]?) → va_S A s.heap H1 locs → H1[q9]? = some ce → ce.vm = .none → s.vm.findClass "java/lang/NullPointerException" = some ce.cls → vx_W p l e R s m args below meth c H1 locs (cells + 1) (slots + nb) Q (F0 m pc ls rest) q9) :
    vx_NoteN p l e R s m args below meth c H locs cells slots Q (F0 m pc ls rest) := by
  intro T hT X
  have htr : e.platform.stackTraces = false := (show e.platform.stackTraces = l.stackTraces by rw [X.admits.platform]).trans hl
  have Y := vx_rebase X (R' := { frames := R.frames, locals := R.locals, cells := 1, slots := nb }) (Nat.le_refl _) (Nat.le_refl _) hRcells hRslots
  have hhp : ((T.setVm s.vm).setFrames (.invoking m args :: below)).heap = H := hT
  have hW0 : s.WarmedH ((T.setVm s.vm).setFrames (.invoking m args :: below)).vm := State.WarmedH.refl s
  have hat' : ∀ w ∈ vx_atN nb, w.before args ((T.setVm s.vm).setFrames (.invoking m args :: below)) = true := fun w hw => vx_ot_at hW0 rfl (hgood w hw) (hat w hw)
  have hU' : vx_Zq Bundle.tN "UNASSIGNED_STACK" Bundle.steD A ((T.setVm s.vm).setFrames (.invoking m args :: below)) ((T.setVm s.vm).setFrames (.invoking m args :: below)).heap := by rw [hhp]; exact vx_Zq.moved hW0.alike (hU.kept hS.2.1)
  have hN' : vx_Zq Bundle.tN "SUPPRESSED_SENTINEL" Bundle.listD A ((T.setVm s.vm).setFrames (.invoking m args :: below)) ((T.setVm s.vm).setFrames (.invoking m args :: below)).heap := by rw [hhp]; exact vx_Zq.moved hW0.alike (hN.kept hS.2.1)
  obtain ⟨S, q, ce, st, Z, hce, hcl', hv⟩ := vx_npeAt Y hexec htr (n := nb) (vx_own hat' (vx_isRefq hU'.1) (vx_isRefq hN'.1) hU'.2.word hN'.2.word) (fun x hx => nomatch hx)
    (g := F0 m pc ls rest) rfl hsize hRframes (by show 2 * 0 + (rest.map fun v => v.category).sum + 10240 ≤ R.locals; omega) (by show 0 + 1 ≤ 1; omega) (by show 0 + nb ≤ nb; omega) hlocks
  obtain ⟨f1, f2⟩ := vx_frame Z.same
  have f1' : H.size ≤ S.heap.size := by rw [← hT]; exact f1
  have f2' : ∀ q : Nat, q < H.size → S.heap[q]? = H[q]? := fun q hq => by
    rw [← hT]
    exact f2 q (by rw [← hT] at hq; exact hq) (fun z hz => nomatch hz)
  have X5 := vx_back9 X Y Z
  have X6 : Stand p l e R s m args below meth c S locs (cells + 1) (slots + nb) := { X5 with same := X5.same.mono (by omega) (by omega) }
  obtain ⟨t, a1, b1⟩ := k S.heap q ce f1' f2' ⟨Nat.le_trans hS.1 f1', fun q h1 h2 => (f2' q (Nat.lt_of_lt_of_le h1 hS.1)).trans (hS.2.1 q h1 h2), hS.2.2⟩ hce hv hcl' S rfl X6
  exact ⟨t, st t a1, b1⟩
variable {Q : State → Prop} {cc : ByteArray} {pc : Nat} {ls : Array Slot} {rest : List Value}
theorem vx_idivZ (hexec : p.tables.exec = Jvm.exec) (hb : c.code = cc) {a b : Int32} (h0 : b = 0) (d : decode cc pc = .ok (.idiv, 1)) (k : vx_Note p l e R s m args below meth c H locs cells slots Q (F0 m pc ls rest) "java/lang/ArithmeticException" "/ by zero") :
    W p l e R s m args below meth c H locs cells slots Q (F0 m pc ls (.int b :: .int a :: rest)) := by
  intro T hT X
  obtain ⟨t, st, q⟩ := k T hT X
  exact ⟨t, X.idivZero hexec (g := F0 m pc ls (.int b :: .int a :: rest)) rfl (a := a) (rest := rest) (by rw [h0]) (by rw [hb]; exact d) t st, q⟩
theorem vx_iremZ (hexec : p.tables.exec = Jvm.exec) (hb : c.code = cc) {a b : Int32} (h0 : b = 0) (d : decode cc pc = .ok (.irem, 1)) (k : vx_Note p l e R s m args below meth c H locs cells slots Q (F0 m pc ls rest) "java/lang/ArithmeticException" "/ by zero") :
    W p l e R s m args below meth c H locs cells slots Q (F0 m pc ls (.int b :: .int a :: rest)) := by
  intro T hT X
  obtain ⟨t, st, q⟩ := k T hT X
  exact ⟨t, X.iremZero hexec (g := F0 m pc ls (.int b :: .int a :: rest)) rfl (a := a) (rest := rest) (by rw [h0]) (by rw [hb]; exact d) t st, q⟩
theorem vx_ldivZ (hexec : p.tables.exec = Jvm.exec) (hb : c.code = cc) {a b : Int64} (h0 : b = 0) (d : decode cc pc = .ok (.ldiv, 1)) (k : vx_Note p l e R s m args below meth c H locs cells slots Q (F0 m pc ls rest) "java/lang/ArithmeticException" "/ by zero") :
    W p l e R s m args below meth c H locs cells slots Q (F0 m pc ls (.long b :: .long a :: rest)) := by
  intro T hT X
  obtain ⟨t, st, q⟩ := k T hT X
  exact ⟨t, X.ldivZero hexec (g := F0 m pc ls (.long b :: .long a :: rest)) rfl (a := a) (rest := rest) (by rw [h0]) (by rw [hb]; exact d) t st, q⟩
theorem vx_lremZ (hexec : p.tables.exec = Jvm.exec) (hb : c.code = cc) {a b : Int64} (h0 : b = 0) (d : decode cc pc = .ok (.lrem, 1)) (k : vx_Note p l e R s m args below meth c H locs cells slots Q (F0 m pc ls rest) "java/lang/ArithmeticException" "/ by zero") :
    W p l e R s m args below meth c H locs cells slots Q (F0 m pc ls (.long b :: .long a :: rest)) := by
  intro T hT X
  obtain ⟨t, st, q⟩ := k T hT X
  exact ⟨t, X.lremZero hexec (g := F0 m pc ls (.long b :: .long a :: rest)) rfl (a := a) (rest := rest) (by rw [h0]) (by rw [hb]; exact d) t st, q⟩
theorem vx_ialdZ {D : va_G} {cl : List vw_C} {ws : va_W} {tys : List (ClassId × FieldType)} {a : Nat} (hexec : p.tables.exec = Jvm.exec) (hb : c.code = cc) (hK : va_K D cl tys s) (hP : va_P D cl ws H) (q0 t0 : Nat) {cA : ClassId} {n : Nat} {f : Nat → Int32} (ha : ws[q0]? = some (a, .inl (cA, n, .inl f))) (ht : tys[t0]? = some (cA, .int)) {i : Int32} (hout : ¬ vp_in i n) (hdg : decode cc pc = .ok (.iaload, 1))
    (k : ∀ tx : String, tx = (toString "Index " ++ toString i ++ toString " out of bounds for length " ++ toString n : String) → vx_Note p l e R s m args below meth c H locs cells slots Q (F0 m pc ls rest) "java/lang/ArrayIndexOutOfBoundsException" tx) : W p l e R s m args below meth c H locs cells slots Q (F0 m pc ls (.int i :: .ref a :: rest)) := by
  intro T hT X
  obtain ⟨t, st, q⟩ := k _ rfl T hT X
  refine ⟨t, ?_, q⟩
  have h1 := X.ialoadOut hexec (by rw [hT]; exact hP q0 _ ha) ((hK.2 t0 _ ht).1 n (fun j => .int (f j))) (j := i) (by show (i < 0 ∨ (arrV _ _ _).slots.size ≤ _); rw [arrV_size]; exact Classical.byContradiction hout) (g := F0 m pc ls (.int i :: .ref a :: rest)) rfl (rest := rest) rfl (by rw [hb]; exact hdg) t
  simp only [arrV_size] at h1
  exact h1 st
theorem vx_iastZ {D : va_G} {cl : List vw_C} {ws : va_W} {tys : List (ClassId × FieldType)} {a : Nat} (hexec : p.tables.exec = Jvm.exec) (hb : c.code = cc) (hK : va_K D cl tys s) (hP : va_P D cl ws H) (q0 t0 : Nat) {cA : ClassId} {n : Nat} {f : Nat → Int32} (ha : ws[q0]? = some (a, .inl (cA, n, .inl f))) (ht : tys[t0]? = some (cA, .int)) {i : Int32} {x : Int32} (hout : ¬ vp_in i n) (hdg : decode cc pc = .ok (.iastore, 1))
    (k : ∀ tx : String, tx = (toString "Index " ++ toString i ++ toString " out of bounds for length " ++ toString n : String) → vx_Note p l e R s m args below meth c H locs cells slots Q (F0 m pc ls rest) "java/lang/ArrayIndexOutOfBoundsException" tx) : W p l e R s m args below meth c H locs cells slots Q (F0 m pc ls (.int x :: .int i :: .ref a :: rest)) := by
  intro T hT X
  obtain ⟨t, st, q⟩ := k _ rfl T hT X
  refine ⟨t, ?_, q⟩
  have h1 := X.iastoreOut hexec (by rw [hT]; exact hP q0 _ ha) ((hK.2 t0 _ ht).1 n (fun j => .int (f j))) (j := i) (by show (i < 0 ∨ (arrV _ _ _).slots.size ≤ _); rw [arrV_size]; exact Classical.byContradiction hout) (g := F0 m pc ls (.int x :: .int i :: .ref a :: rest)) rfl (rest := rest) rfl (by rw [hb]; exact hdg) t
  simp only [arrV_size] at h1
  exact h1 st
theorem vx_baldZ {D : va_G} {cl : List vw_C} {ws : va_W} {tys : List (ClassId × FieldType)} {a : Nat} (hexec : p.tables.exec = Jvm.exec) (hb : c.code = cc) (hK : va_K D cl tys s) (hP : va_P D cl ws H) (q0 t0 : Nat) {cA : ClassId} {n : Nat} {f : Nat → Int32} (ha : ws[q0]? = some (a, .inl (cA, n, .inl f))) (ht : tys[t0]? = some (cA, .byte)) {i : Int32} (hout : ¬ vp_in i n) (hdg : decode cc pc = .ok (.baload, 1))
    (k : ∀ tx : String, tx = (toString "Index " ++ toString i ++ toString " out of bounds for length " ++ toString n : String) → vx_Note p l e R s m args below meth c H locs cells slots Q (F0 m pc ls rest) "java/lang/ArrayIndexOutOfBoundsException" tx) : W p l e R s m args below meth c H locs cells slots Q (F0 m pc ls (.int i :: .ref a :: rest)) := by
  intro T hT X
  obtain ⟨t, st, q⟩ := k _ rfl T hT X
  refine ⟨t, ?_, q⟩
  have h1 := X.baloadOut hexec (by rw [hT]; exact hP q0 _ ha) ((hK.2 t0 _ ht).1 n (fun j => .int (f j))) (j := i) (by show (i < 0 ∨ (arrV _ _ _).slots.size ≤ _); rw [arrV_size]; exact Classical.byContradiction hout) (g := F0 m pc ls (.int i :: .ref a :: rest)) rfl (rest := rest) rfl (by rw [hb]; exact hdg) t
  simp only [arrV_size] at h1
  exact h1 st
theorem vx_bastZ {D : va_G} {cl : List vw_C} {ws : va_W} {tys : List (ClassId × FieldType)} {a : Nat} (hexec : p.tables.exec = Jvm.exec) (hb : c.code = cc) (hK : va_K D cl tys s) (hP : va_P D cl ws H) (q0 t0 : Nat) {cA : ClassId} {n : Nat} {f : Nat → Int32} (ha : ws[q0]? = some (a, .inl (cA, n, .inl f))) (ht : tys[t0]? = some (cA, .byte)) {i : Int32} {x : Int32} (hout : ¬ vp_in i n) (hdg : decode cc pc = .ok (.bastore, 1))
    (k : ∀ tx : String, tx = (toString "Index " ++ toString i ++ toString " out of bounds for length " ++ toString n : String) → vx_Note p l e R s m args below meth c H locs cells slots Q (F0 m pc ls rest) "java/lang/ArrayIndexOutOfBoundsException" tx) : W p l e R s m args below meth c H locs cells slots Q (F0 m pc ls (.int x :: .int i :: .ref a :: rest)) := by
  intro T hT X
  obtain ⟨t, st, q⟩ := k _ rfl T hT X
  refine ⟨t, ?_, q⟩
  have h1 := X.bastoreOut hexec (by rw [hT]; exact hP q0 _ ha) ((hK.2 t0 _ ht).1 n (fun j => .int (f j))) (j := i) (by show (i < 0 ∨ (arrV _ _ _).slots.size ≤ _); rw [arrV_size]; exact Classical.byContradiction hout) (g := F0 m pc ls (.int x :: .int i :: .ref a :: rest)) rfl (rest := rest) rfl (by rw [hb]; exact hdg) t
  simp only [arrV_size] at h1
  exact h1 st
theorem vx_zaldZ {D : va_G} {cl : List vw_C} {ws : va_W} {tys : List (ClassId × FieldType)} {a : Nat} (hexec : p.tables.exec = Jvm.exec) (hb : c.code = cc) (hK : va_K D cl tys s) (hP : va_P D cl ws H) (q0 t0 : Nat) {cA : ClassId} {n : Nat} {f : Nat → Int32} (ha : ws[q0]? = some (a, .inl (cA, n, .inl f))) (ht : tys[t0]? = some (cA, .boolean)) {i : Int32} (hout : ¬ vp_in i n) (hdg : decode cc pc = .ok (.baload, 1))
    (k : ∀ tx : String, tx = (toString "Index " ++ toString i ++ toString " out of bounds for length " ++ toString n : String) → vx_Note p l e R s m args below meth c H locs cells slots Q (F0 m pc ls rest) "java/lang/ArrayIndexOutOfBoundsException" tx) : W p l e R s m args below meth c H locs cells slots Q (F0 m pc ls (.int i :: .ref a :: rest)) := by
  intro T hT X
  obtain ⟨t, st, q⟩ := k _ rfl T hT X
  refine ⟨t, ?_, q⟩
  have h1 := X.baloadOut hexec (by rw [hT]; exact hP q0 _ ha) ((hK.2 t0 _ ht).1 n (fun j => .int (f j))) (j := i) (by show (i < 0 ∨ (arrV _ _ _).slots.size ≤ _); rw [arrV_size]; exact Classical.byContradiction hout) (g := F0 m pc ls (.int i :: .ref a :: rest)) rfl (rest := rest) rfl (by rw [hb]; exact hdg) t
  simp only [arrV_size] at h1
  exact h1 st
theorem vx_zastZ {D : va_G} {cl : List vw_C} {ws : va_W} {tys : List (ClassId × FieldType)} {a : Nat} (hexec : p.tables.exec = Jvm.exec) (hb : c.code = cc) (hK : va_K D cl tys s) (hP : va_P D cl ws H) (q0 t0 : Nat) {cA : ClassId} {n : Nat} {f : Nat → Int32} (ha : ws[q0]? = some (a, .inl (cA, n, .inl f))) (ht : tys[t0]? = some (cA, .boolean)) {i : Int32} {x : Int32} (hout : ¬ vp_in i n) (hdg : decode cc pc = .ok (.bastore, 1))
    (k : ∀ tx : String, tx = (toString "Index " ++ toString i ++ toString " out of bounds for length " ++ toString n : String) → vx_Note p l e R s m args below meth c H locs cells slots Q (F0 m pc ls rest) "java/lang/ArrayIndexOutOfBoundsException" tx) : W p l e R s m args below meth c H locs cells slots Q (F0 m pc ls (.int x :: .int i :: .ref a :: rest)) := by
  intro T hT X
  obtain ⟨t, st, q⟩ := k _ rfl T hT X
  refine ⟨t, ?_, q⟩
  have h1 := X.bastoreOut hexec (by rw [hT]; exact hP q0 _ ha) ((hK.2 t0 _ ht).1 n (fun j => .int (f j))) (j := i) (by show (i < 0 ∨ (arrV _ _ _).slots.size ≤ _); rw [arrV_size]; exact Classical.byContradiction hout) (g := F0 m pc ls (.int x :: .int i :: .ref a :: rest)) rfl (rest := rest) rfl (by rw [hb]; exact hdg) t
  simp only [arrV_size] at h1
  exact h1 st
theorem vx_caldZ {D : va_G} {cl : List vw_C} {ws : va_W} {tys : List (ClassId × FieldType)} {a : Nat} (hexec : p.tables.exec = Jvm.exec) (hb : c.code = cc) (hK : va_K D cl tys s) (hP : va_P D cl ws H) (q0 t0 : Nat) {cA : ClassId} {n : Nat} {f : Nat → Int32} (ha : ws[q0]? = some (a, .inl (cA, n, .inl f))) (ht : tys[t0]? = some (cA, .char)) {i : Int32} (hout : ¬ vp_in i n) (hdg : decode cc pc = .ok (.caload, 1))
    (k : ∀ tx : String, tx = (toString "Index " ++ toString i ++ toString " out of bounds for length " ++ toString n : String) → vx_Note p l e R s m args below meth c H locs cells slots Q (F0 m pc ls rest) "java/lang/ArrayIndexOutOfBoundsException" tx) : W p l e R s m args below meth c H locs cells slots Q (F0 m pc ls (.int i :: .ref a :: rest)) := by
  intro T hT X
  obtain ⟨t, st, q⟩ := k _ rfl T hT X
  refine ⟨t, ?_, q⟩
  have h1 := X.caloadOut hexec (by rw [hT]; exact hP q0 _ ha) ((hK.2 t0 _ ht).1 n (fun j => .int (f j))) (j := i) (by show (i < 0 ∨ (arrV _ _ _).slots.size ≤ _); rw [arrV_size]; exact Classical.byContradiction hout) (g := F0 m pc ls (.int i :: .ref a :: rest)) rfl (rest := rest) rfl (by rw [hb]; exact hdg) t
  simp only [arrV_size] at h1
  exact h1 st
theorem vx_castZ {D : va_G} {cl : List vw_C} {ws : va_W} {tys : List (ClassId × FieldType)} {a : Nat} (hexec : p.tables.exec = Jvm.exec) (hb : c.code = cc) (hK : va_K D cl tys s) (hP : va_P D cl ws H) (q0 t0 : Nat) {cA : ClassId} {n : Nat} {f : Nat → Int32} (ha : ws[q0]? = some (a, .inl (cA, n, .inl f))) (ht : tys[t0]? = some (cA, .char)) {i : Int32} {x : Int32} (hout : ¬ vp_in i n) (hdg : decode cc pc = .ok (.castore, 1))
    (k : ∀ tx : String, tx = (toString "Index " ++ toString i ++ toString " out of bounds for length " ++ toString n : String) → vx_Note p l e R s m args below meth c H locs cells slots Q (F0 m pc ls rest) "java/lang/ArrayIndexOutOfBoundsException" tx) : W p l e R s m args below meth c H locs cells slots Q (F0 m pc ls (.int x :: .int i :: .ref a :: rest)) := by
  intro T hT X
  obtain ⟨t, st, q⟩ := k _ rfl T hT X
  refine ⟨t, ?_, q⟩
  have h1 := X.castoreOut hexec (by rw [hT]; exact hP q0 _ ha) ((hK.2 t0 _ ht).1 n (fun j => .int (f j))) (j := i) (by show (i < 0 ∨ (arrV _ _ _).slots.size ≤ _); rw [arrV_size]; exact Classical.byContradiction hout) (g := F0 m pc ls (.int x :: .int i :: .ref a :: rest)) rfl (rest := rest) rfl (by rw [hb]; exact hdg) t
  simp only [arrV_size] at h1
  exact h1 st
theorem vx_saldZ {D : va_G} {cl : List vw_C} {ws : va_W} {tys : List (ClassId × FieldType)} {a : Nat} (hexec : p.tables.exec = Jvm.exec) (hb : c.code = cc) (hK : va_K D cl tys s) (hP : va_P D cl ws H) (q0 t0 : Nat) {cA : ClassId} {n : Nat} {f : Nat → Int32} (ha : ws[q0]? = some (a, .inl (cA, n, .inl f))) (ht : tys[t0]? = some (cA, .short)) {i : Int32} (hout : ¬ vp_in i n) (hdg : decode cc pc = .ok (.saload, 1))
    (k : ∀ tx : String, tx = (toString "Index " ++ toString i ++ toString " out of bounds for length " ++ toString n : String) → vx_Note p l e R s m args below meth c H locs cells slots Q (F0 m pc ls rest) "java/lang/ArrayIndexOutOfBoundsException" tx) : W p l e R s m args below meth c H locs cells slots Q (F0 m pc ls (.int i :: .ref a :: rest)) := by
  intro T hT X
  obtain ⟨t, st, q⟩ := k _ rfl T hT X
  refine ⟨t, ?_, q⟩
  have h1 := X.saloadOut hexec (by rw [hT]; exact hP q0 _ ha) ((hK.2 t0 _ ht).1 n (fun j => .int (f j))) (j := i) (by show (i < 0 ∨ (arrV _ _ _).slots.size ≤ _); rw [arrV_size]; exact Classical.byContradiction hout) (g := F0 m pc ls (.int i :: .ref a :: rest)) rfl (rest := rest) rfl (by rw [hb]; exact hdg) t
  simp only [arrV_size] at h1
  exact h1 st
theorem vx_sastZ {D : va_G} {cl : List vw_C} {ws : va_W} {tys : List (ClassId × FieldType)} {a : Nat} (hexec : p.tables.exec = Jvm.exec) (hb : c.code = cc) (hK : va_K D cl tys s) (hP : va_P D cl ws H) (q0 t0 : Nat) {cA : ClassId} {n : Nat} {f : Nat → Int32} (ha : ws[q0]? = some (a, .inl (cA, n, .inl f))) (ht : tys[t0]? = some (cA, .short)) {i : Int32} {x : Int32} (hout : ¬ vp_in i n) (hdg : decode cc pc = .ok (.sastore, 1))
    (k : ∀ tx : String, tx = (toString "Index " ++ toString i ++ toString " out of bounds for length " ++ toString n : String) → vx_Note p l e R s m args below meth c H locs cells slots Q (F0 m pc ls rest) "java/lang/ArrayIndexOutOfBoundsException" tx) : W p l e R s m args below meth c H locs cells slots Q (F0 m pc ls (.int x :: .int i :: .ref a :: rest)) := by
  intro T hT X
  obtain ⟨t, st, q⟩ := k _ rfl T hT X
  refine ⟨t, ?_, q⟩
  have h1 := X.sastoreOut hexec (by rw [hT]; exact hP q0 _ ha) ((hK.2 t0 _ ht).1 n (fun j => .int (f j))) (j := i) (by show (i < 0 ∨ (arrV _ _ _).slots.size ≤ _); rw [arrV_size]; exact Classical.byContradiction hout) (g := F0 m pc ls (.int x :: .int i :: .ref a :: rest)) rfl (rest := rest) rfl (by rw [hb]; exact hdg) t
  simp only [arrV_size] at h1
  exact h1 st
theorem vx_laldZ {D : va_G} {cl : List vw_C} {ws : va_W} {tys : List (ClassId × FieldType)} {a : Nat} (hexec : p.tables.exec = Jvm.exec) (hb : c.code = cc) (hK : va_K D cl tys s) (hP : va_P D cl ws H) (q0 t0 : Nat) {cA : ClassId} {n : Nat} {f : Nat → Int64} (ha : ws[q0]? = some (a, .inl (cA, n, .inr (.inl f)))) (ht : tys[t0]? = some (cA, .long)) {i : Int32} (hout : ¬ vp_in i n) (hdg : decode cc pc = .ok (.laload, 1))
    (k : ∀ tx : String, tx = (toString "Index " ++ toString i ++ toString " out of bounds for length " ++ toString n : String) → vx_Note p l e R s m args below meth c H locs cells slots Q (F0 m pc ls rest) "java/lang/ArrayIndexOutOfBoundsException" tx) : W p l e R s m args below meth c H locs cells slots Q (F0 m pc ls (.int i :: .ref a :: rest)) := by
  intro T hT X
  obtain ⟨t, st, q⟩ := k _ rfl T hT X
  refine ⟨t, ?_, q⟩
  have h1 := X.laloadOut hexec (by rw [hT]; exact hP q0 _ ha) ((hK.2 t0 _ ht).1 n (fun j => .long (f j))) (j := i) (by show (i < 0 ∨ (arrV _ _ _).slots.size ≤ _); rw [arrV_size]; exact Classical.byContradiction hout) (g := F0 m pc ls (.int i :: .ref a :: rest)) rfl (rest := rest) rfl (by rw [hb]; exact hdg) t
  simp only [arrV_size] at h1
  exact h1 st
theorem vx_lastZ {D : va_G} {cl : List vw_C} {ws : va_W} {tys : List (ClassId × FieldType)} {a : Nat} (hexec : p.tables.exec = Jvm.exec) (hb : c.code = cc) (hK : va_K D cl tys s) (hP : va_P D cl ws H) (q0 t0 : Nat) {cA : ClassId} {n : Nat} {f : Nat → Int64} (ha : ws[q0]? = some (a, .inl (cA, n, .inr (.inl f)))) (ht : tys[t0]? = some (cA, .long)) {i : Int32} {x : Int64} (hout : ¬ vp_in i n) (hdg : decode cc pc = .ok (.lastore, 1))
    (k : ∀ tx : String, tx = (toString "Index " ++ toString i ++ toString " out of bounds for length " ++ toString n : String) → vx_Note p l e R s m args below meth c H locs cells slots Q (F0 m pc ls rest) "java/lang/ArrayIndexOutOfBoundsException" tx) : W p l e R s m args below meth c H locs cells slots Q (F0 m pc ls (.long x :: .int i :: .ref a :: rest)) := by
  intro T hT X
  obtain ⟨t, st, q⟩ := k _ rfl T hT X
  refine ⟨t, ?_, q⟩
  have h1 := X.lastoreOut hexec (by rw [hT]; exact hP q0 _ ha) ((hK.2 t0 _ ht).1 n (fun j => .long (f j))) (j := i) (by show (i < 0 ∨ (arrV _ _ _).slots.size ≤ _); rw [arrV_size]; exact Classical.byContradiction hout) (g := F0 m pc ls (.long x :: .int i :: .ref a :: rest)) rfl (rest := rest) rfl (by rw [hb]; exact hdg) t
  simp only [arrV_size] at h1
  exact h1 st
theorem vx_faldZ {D : va_G} {cl : List vw_C} {ws : va_W} {tys : List (ClassId × FieldType)} {a : Nat} (hexec : p.tables.exec = Jvm.exec) (hb : c.code = cc) (hK : va_K D cl tys s) (hP : va_P D cl ws H) (q0 t0 : Nat) {cA : ClassId} {n : Nat} {f : Nat → UInt32} (ha : ws[q0]? = some (a, .inl (cA, n, .inr (.inr (.inl f))))) (ht : tys[t0]? = some (cA, .float)) {i : Int32} (hout : ¬ vp_in i n) (hdg : decode cc pc = .ok (.faload, 1))
    (k : ∀ tx : String, tx = (toString "Index " ++ toString i ++ toString " out of bounds for length " ++ toString n : String) → vx_Note p l e R s m args below meth c H locs cells slots Q (F0 m pc ls rest) "java/lang/ArrayIndexOutOfBoundsException" tx) : W p l e R s m args below meth c H locs cells slots Q (F0 m pc ls (.int i :: .ref a :: rest)) := by
  intro T hT X
  obtain ⟨t, st, q⟩ := k _ rfl T hT X
  refine ⟨t, ?_, q⟩
  have h1 := X.faloadOut hexec (by rw [hT]; exact hP q0 _ ha) ((hK.2 t0 _ ht).1 n (fun j => .float (f j))) (j := i) (by show (i < 0 ∨ (arrV _ _ _).slots.size ≤ _); rw [arrV_size]; exact Classical.byContradiction hout) (g := F0 m pc ls (.int i :: .ref a :: rest)) rfl (rest := rest) rfl (by rw [hb]; exact hdg) t
  simp only [arrV_size] at h1
  exact h1 st
theorem vx_fastZ {D : va_G} {cl : List vw_C} {ws : va_W} {tys : List (ClassId × FieldType)} {a : Nat} (hexec : p.tables.exec = Jvm.exec) (hb : c.code = cc) (hK : va_K D cl tys s) (hP : va_P D cl ws H) (q0 t0 : Nat) {cA : ClassId} {n : Nat} {f : Nat → UInt32} (ha : ws[q0]? = some (a, .inl (cA, n, .inr (.inr (.inl f))))) (ht : tys[t0]? = some (cA, .float)) {i : Int32} {x : UInt32} (hout : ¬ vp_in i n) (hdg : decode cc pc = .ok (.fastore, 1))
    (k : ∀ tx : String, tx = (toString "Index " ++ toString i ++ toString " out of bounds for length " ++ toString n : String) → vx_Note p l e R s m args below meth c H locs cells slots Q (F0 m pc ls rest) "java/lang/ArrayIndexOutOfBoundsException" tx) : W p l e R s m args below meth c H locs cells slots Q (F0 m pc ls (.float x :: .int i :: .ref a :: rest)) := by
  intro T hT X
  obtain ⟨t, st, q⟩ := k _ rfl T hT X
  refine ⟨t, ?_, q⟩
  have h1 := X.fastoreOut hexec (by rw [hT]; exact hP q0 _ ha) ((hK.2 t0 _ ht).1 n (fun j => .float (f j))) (j := i) (by show (i < 0 ∨ (arrV _ _ _).slots.size ≤ _); rw [arrV_size]; exact Classical.byContradiction hout) (g := F0 m pc ls (.float x :: .int i :: .ref a :: rest)) rfl (rest := rest) rfl (by rw [hb]; exact hdg) t
  simp only [arrV_size] at h1
  exact h1 st
theorem vx_daldZ {D : va_G} {cl : List vw_C} {ws : va_W} {tys : List (ClassId × FieldType)} {a : Nat} (hexec : p.tables.exec = Jvm.exec) (hb : c.code = cc) (hK : va_K D cl tys s) (hP : va_P D cl ws H) (q0 t0 : Nat) {cA : ClassId} {n : Nat} {f : Nat → UInt64} (ha : ws[q0]? = some (a, .inl (cA, n, .inr (.inr (.inr (.inl f)))))) (ht : tys[t0]? = some (cA, .double)) {i : Int32} (hout : ¬ vp_in i n) (hdg : decode cc pc = .ok (.daload, 1))
    (k : ∀ tx : String, tx = (toString "Index " ++ toString i ++ toString " out of bounds for length " ++ toString n : String) → vx_Note p l e R s m args below meth c H locs cells slots Q (F0 m pc ls rest) "java/lang/ArrayIndexOutOfBoundsException" tx) : W p l e R s m args below meth c H locs cells slots Q (F0 m pc ls (.int i :: .ref a :: rest)) := by
  intro T hT X
  obtain ⟨t, st, q⟩ := k _ rfl T hT X
  refine ⟨t, ?_, q⟩
  have h1 := X.daloadOut hexec (by rw [hT]; exact hP q0 _ ha) ((hK.2 t0 _ ht).1 n (fun j => .double (f j))) (j := i) (by show (i < 0 ∨ (arrV _ _ _).slots.size ≤ _); rw [arrV_size]; exact Classical.byContradiction hout) (g := F0 m pc ls (.int i :: .ref a :: rest)) rfl (rest := rest) rfl (by rw [hb]; exact hdg) t
  simp only [arrV_size] at h1
  exact h1 st
theorem vx_dastZ {D : va_G} {cl : List vw_C} {ws : va_W} {tys : List (ClassId × FieldType)} {a : Nat} (hexec : p.tables.exec = Jvm.exec) (hb : c.code = cc) (hK : va_K D cl tys s) (hP : va_P D cl ws H) (q0 t0 : Nat) {cA : ClassId} {n : Nat} {f : Nat → UInt64} (ha : ws[q0]? = some (a, .inl (cA, n, .inr (.inr (.inr (.inl f)))))) (ht : tys[t0]? = some (cA, .double)) {i : Int32} {x : UInt64} (hout : ¬ vp_in i n) (hdg : decode cc pc = .ok (.dastore, 1))
    (k : ∀ tx : String, tx = (toString "Index " ++ toString i ++ toString " out of bounds for length " ++ toString n : String) → vx_Note p l e R s m args below meth c H locs cells slots Q (F0 m pc ls rest) "java/lang/ArrayIndexOutOfBoundsException" tx) : W p l e R s m args below meth c H locs cells slots Q (F0 m pc ls (.double x :: .int i :: .ref a :: rest)) := by
  intro T hT X
  obtain ⟨t, st, q⟩ := k _ rfl T hT X
  refine ⟨t, ?_, q⟩
  have h1 := X.dastoreOut hexec (by rw [hT]; exact hP q0 _ ha) ((hK.2 t0 _ ht).1 n (fun j => .double (f j))) (j := i) (by show (i < 0 ∨ (arrV _ _ _).slots.size ≤ _); rw [arrV_size]; exact Classical.byContradiction hout) (g := F0 m pc ls (.double x :: .int i :: .ref a :: rest)) rfl (rest := rest) rfl (by rw [hb]; exact hdg) t
  simp only [arrV_size] at h1
  exact h1 st
theorem vx_arraylengthN (hexec : p.tables.exec = Jvm.exec) (hb : c.code = cc) (hdg : decode cc pc = .ok (.arraylength, 1)) (k : vx_NoteN p l e R s m args below meth c H locs cells slots Q (F0 m pc ls rest)) : W p l e R s m args below meth c H locs cells slots Q (F0 m pc ls (.null :: rest)) := by
  intro T hT X
  obtain ⟨t, st, q⟩ := k T hT X
  exact ⟨t, X.arraylengthNull hexec (g := F0 m pc ls (.null :: rest)) rfl (rest := rest) rfl (by rw [hb]; exact hdg) t st, q⟩
theorem vx_ialoadN (hexec : p.tables.exec = Jvm.exec) (hb : c.code = cc) {i : Int32} (hdg : decode cc pc = .ok (.iaload, 1)) (k : vx_NoteN p l e R s m args below meth c H locs cells slots Q (F0 m pc ls rest)) : W p l e R s m args below meth c H locs cells slots Q (F0 m pc ls (.int i :: .null :: rest)) := by
  intro T hT X
  obtain ⟨t, st, q⟩ := k T hT X
  exact ⟨t, X.ialoadNull hexec (g := F0 m pc ls (.int i :: .null :: rest)) rfl (rest := rest) rfl (by rw [hb]; exact hdg) t st, q⟩
theorem vx_laloadN (hexec : p.tables.exec = Jvm.exec) (hb : c.code = cc) {i : Int32} (hdg : decode cc pc = .ok (.laload, 1)) (k : vx_NoteN p l e R s m args below meth c H locs cells slots Q (F0 m pc ls rest)) : W p l e R s m args below meth c H locs cells slots Q (F0 m pc ls (.int i :: .null :: rest)) := by
  intro T hT X
  obtain ⟨t, st, q⟩ := k T hT X
  exact ⟨t, X.laloadNull hexec (g := F0 m pc ls (.int i :: .null :: rest)) rfl (rest := rest) rfl (by rw [hb]; exact hdg) t st, q⟩
theorem vx_faloadN (hexec : p.tables.exec = Jvm.exec) (hb : c.code = cc) {i : Int32} (hdg : decode cc pc = .ok (.faload, 1)) (k : vx_NoteN p l e R s m args below meth c H locs cells slots Q (F0 m pc ls rest)) : W p l e R s m args below meth c H locs cells slots Q (F0 m pc ls (.int i :: .null :: rest)) := by
  intro T hT X
  obtain ⟨t, st, q⟩ := k T hT X
  exact ⟨t, X.faloadNull hexec (g := F0 m pc ls (.int i :: .null :: rest)) rfl (rest := rest) rfl (by rw [hb]; exact hdg) t st, q⟩
theorem vx_daloadN (hexec : p.tables.exec = Jvm.exec) (hb : c.code = cc) {i : Int32} (hdg : decode cc pc = .ok (.daload, 1)) (k : vx_NoteN p l e R s m args below meth c H locs cells slots Q (F0 m pc ls rest)) : W p l e R s m args below meth c H locs cells slots Q (F0 m pc ls (.int i :: .null :: rest)) := by
  intro T hT X
  obtain ⟨t, st, q⟩ := k T hT X
  exact ⟨t, X.daloadNull hexec (g := F0 m pc ls (.int i :: .null :: rest)) rfl (rest := rest) rfl (by rw [hb]; exact hdg) t st, q⟩
theorem vx_aaloadN (hexec : p.tables.exec = Jvm.exec) (hb : c.code = cc) {i : Int32} (hdg : decode cc pc = .ok (.aaload, 1)) (k : vx_NoteN p l e R s m args below meth c H locs cells slots Q (F0 m pc ls rest)) : W p l e R s m args below meth c H locs cells slots Q (F0 m pc ls (.int i :: .null :: rest)) := by
  intro T hT X
  obtain ⟨t, st, q⟩ := k T hT X
  exact ⟨t, X.aaloadNull hexec (g := F0 m pc ls (.int i :: .null :: rest)) rfl (rest := rest) rfl (by rw [hb]; exact hdg) t st, q⟩
theorem vx_baloadN (hexec : p.tables.exec = Jvm.exec) (hb : c.code = cc) {i : Int32} (hdg : decode cc pc = .ok (.baload, 1)) (k : vx_NoteN p l e R s m args below meth c H locs cells slots Q (F0 m pc ls rest)) : W p l e R s m args below meth c H locs cells slots Q (F0 m pc ls (.int i :: .null :: rest)) := by
  intro T hT X
  obtain ⟨t, st, q⟩ := k T hT X
  exact ⟨t, X.baloadNull hexec (g := F0 m pc ls (.int i :: .null :: rest)) rfl (rest := rest) rfl (by rw [hb]; exact hdg) t st, q⟩
theorem vx_caloadN (hexec : p.tables.exec = Jvm.exec) (hb : c.code = cc) {i : Int32} (hdg : decode cc pc = .ok (.caload, 1)) (k : vx_NoteN p l e R s m args below meth c H locs cells slots Q (F0 m pc ls rest)) : W p l e R s m args below meth c H locs cells slots Q (F0 m pc ls (.int i :: .null :: rest)) := by
  intro T hT X
  obtain ⟨t, st, q⟩ := k T hT X
  exact ⟨t, X.caloadNull hexec (g := F0 m pc ls (.int i :: .null :: rest)) rfl (rest := rest) rfl (by rw [hb]; exact hdg) t st, q⟩
theorem vx_saloadN (hexec : p.tables.exec = Jvm.exec) (hb : c.code = cc) {i : Int32} (hdg : decode cc pc = .ok (.saload, 1)) (k : vx_NoteN p l e R s m args below meth c H locs cells slots Q (F0 m pc ls rest)) : W p l e R s m args below meth c H locs cells slots Q (F0 m pc ls (.int i :: .null :: rest)) := by
  intro T hT X
  obtain ⟨t, st, q⟩ := k T hT X
  exact ⟨t, X.saloadNull hexec (g := F0 m pc ls (.int i :: .null :: rest)) rfl (rest := rest) rfl (by rw [hb]; exact hdg) t st, q⟩
theorem vx_iastoreN (hexec : p.tables.exec = Jvm.exec) (hb : c.code = cc) {x : Int32} {i : Int32} (hdg : decode cc pc = .ok (.iastore, 1)) (k : vx_NoteN p l e R s m args below meth c H locs cells slots Q (F0 m pc ls rest)) : W p l e R s m args below meth c H locs cells slots Q (F0 m pc ls (.int x :: .int i :: .null :: rest)) := by
  intro T hT X
  obtain ⟨t, st, q⟩ := k T hT X
  exact ⟨t, X.iastoreNull hexec (g := F0 m pc ls (.int x :: .int i :: .null :: rest)) rfl (rest := rest) rfl (by rw [hb]; exact hdg) t st, q⟩
theorem vx_lastoreN (hexec : p.tables.exec = Jvm.exec) (hb : c.code = cc) {x : Int64} {i : Int32} (hdg : decode cc pc = .ok (.lastore, 1)) (k : vx_NoteN p l e R s m args below meth c H locs cells slots Q (F0 m pc ls rest)) : W p l e R s m args below meth c H locs cells slots Q (F0 m pc ls (.long x :: .int i :: .null :: rest)) := by
  intro T hT X
  obtain ⟨t, st, q⟩ := k T hT X
  exact ⟨t, X.lastoreNull hexec (g := F0 m pc ls (.long x :: .int i :: .null :: rest)) rfl (rest := rest) rfl (by rw [hb]; exact hdg) t st, q⟩
theorem vx_fastoreN (hexec : p.tables.exec = Jvm.exec) (hb : c.code = cc) {x : UInt32} {i : Int32} (hdg : decode cc pc = .ok (.fastore, 1)) (k : vx_NoteN p l e R s m args below meth c H locs cells slots Q (F0 m pc ls rest)) : W p l e R s m args below meth c H locs cells slots Q (F0 m pc ls (.float x :: .int i :: .null :: rest)) := by
  intro T hT X
  obtain ⟨t, st, q⟩ := k T hT X
  exact ⟨t, X.fastoreNull hexec (g := F0 m pc ls (.float x :: .int i :: .null :: rest)) rfl (rest := rest) rfl (by rw [hb]; exact hdg) t st, q⟩
theorem vx_dastoreN (hexec : p.tables.exec = Jvm.exec) (hb : c.code = cc) {x : UInt64} {i : Int32} (hdg : decode cc pc = .ok (.dastore, 1)) (k : vx_NoteN p l e R s m args below meth c H locs cells slots Q (F0 m pc ls rest)) : W p l e R s m args below meth c H locs cells slots Q (F0 m pc ls (.double x :: .int i :: .null :: rest)) := by
  intro T hT X
  obtain ⟨t, st, q⟩ := k T hT X
  exact ⟨t, X.dastoreNull hexec (g := F0 m pc ls (.double x :: .int i :: .null :: rest)) rfl (rest := rest) rfl (by rw [hb]; exact hdg) t st, q⟩
theorem vx_bastoreN (hexec : p.tables.exec = Jvm.exec) (hb : c.code = cc) {x : Int32} {i : Int32} (hdg : decode cc pc = .ok (.bastore, 1)) (k : vx_NoteN p l e R s m args below meth c H locs cells slots Q (F0 m pc ls rest)) : W p l e R s m args below meth c H locs cells slots Q (F0 m pc ls (.int x :: .int i :: .null :: rest)) := by
  intro T hT X
  obtain ⟨t, st, q⟩ := k T hT X
  exact ⟨t, X.bastoreNull hexec (g := F0 m pc ls (.int x :: .int i :: .null :: rest)) rfl (rest := rest) rfl (by rw [hb]; exact hdg) t st, q⟩
theorem vx_castoreN (hexec : p.tables.exec = Jvm.exec) (hb : c.code = cc) {x : Int32} {i : Int32} (hdg : decode cc pc = .ok (.castore, 1)) (k : vx_NoteN p l e R s m args below meth c H locs cells slots Q (F0 m pc ls rest)) : W p l e R s m args below meth c H locs cells slots Q (F0 m pc ls (.int x :: .int i :: .null :: rest)) := by
  intro T hT X
  obtain ⟨t, st, q⟩ := k T hT X
  exact ⟨t, X.castoreNull hexec (g := F0 m pc ls (.int x :: .int i :: .null :: rest)) rfl (rest := rest) rfl (by rw [hb]; exact hdg) t st, q⟩
theorem vx_sastoreN (hexec : p.tables.exec = Jvm.exec) (hb : c.code = cc) {x : Int32} {i : Int32} (hdg : decode cc pc = .ok (.sastore, 1)) (k : vx_NoteN p l e R s m args below meth c H locs cells slots Q (F0 m pc ls rest)) : W p l e R s m args below meth c H locs cells slots Q (F0 m pc ls (.int x :: .int i :: .null :: rest)) := by
  intro T hT X
  obtain ⟨t, st, q⟩ := k T hT X
  exact ⟨t, X.sastoreNull hexec (g := F0 m pc ls (.int x :: .int i :: .null :: rest)) rfl (rest := rest) rfl (by rw [hb]; exact hdg) t st, q⟩
theorem vx_invokeN {own C : String} {index maxL : Nat} {y : MethodName} {bytes : ByteArray} {ret : Option FieldType} (hexec : p.tables.exec = Jvm.exec) (hb : c.code = cc) (hown : s.vm.findClass own = some m.cls) (hlink : (Cond.methodLink own index y).before args s = true) (hinst : (Cond.instanceMethod y).before args s = true) (hcode : (Cond.code y bytes maxL ret).before args s = true) (hsel : (Cond.selects C y y).before args s = true)
    (hx : y.cls ≠ "java/lang/invoke/MethodHandle" ∧ y.cls ≠ "java/lang/invoke/VarHandle") {As : List Value} (hlen : (parseMethodDescriptor y.desc).map (fun d => d.parameters.length) = some As.length) (hdg : decode cc pc = .ok (.invokevirtual index, 3))
    (k : vx_NoteN p l e R s m args below meth c H locs cells slots Q (F0 m pc ls rest)) {st0 : List Value} (hst : st0 = As.reverse ++ .null :: rest) : W p l e R s m args below meth c H locs cells slots Q (F0 m pc ls st0) := by
  intro T hT X
  obtain ⟨r0, r, hn, hrm, hstR, hsigR⟩ := va_Decl.of hinst hcode
  obtain ⟨c2, r2, m2, q1, q2, q3, q4, kP, hkP, hkPi⟩ := Cond.selects_spec hsel
  cases hn.symm.trans q3
  have hl9 : As.length = r.sig.parameters.length := by
    rw [hsigR] at hlen
    exact (Option.some.inj hlen).symm
  obtain ⟨vm', X1, st1⟩ := X.invokevirtualNull hexec hown hlink hn hrm hstR hkP hkPi hx (g := F0 m pc ls st0) rfl (argsL := As) (rest := rest) hl9 hst (by rw [hb]; exact hdg)
  obtain ⟨t, st, q⟩ := k (T.setVm vm') hT X1
  exact ⟨t, st1 t st, q⟩
theorem vx_newarrayZ {atype : ArrayType} (hexec : p.tables.exec = Jvm.exec) (hb : c.code = cc) {n : Int32} (h0 : n < 0) (hdg : decode cc pc = .ok (.newarray atype, 2)) (k : ∀ tx : String, tx = toString n → vx_Note p l e R s m args below meth c H locs cells slots Q (F0 m pc ls rest) "java/lang/NegativeArraySizeException" tx) : W p l e R s m args below meth c H locs cells slots Q (F0 m pc ls (.int n :: rest)) := by
  intro T hT X
  obtain ⟨t, st, q⟩ := k _ rfl T hT X
  exact ⟨t, X.newarrayNegative hexec (g := F0 m pc ls (.int n :: rest)) rfl h0 (rest := rest) rfl (by rw [hb]; exact hdg) t st, q⟩
end
end VXM
/-! ===== END ===== -/
/-! ===== BEGIN a constructor that throws (launches without stack traces) ===== -/
section VXIA
variable {p : Program} {l : Launch} {e : Env} {R : Room} {s : State} {m : MethodId} {args : Array Value} {below : List Frame} {meth : Method} {c : Code} {T : State} {locs : List Loc} {cells slots : Nat}
theorem vx_callI (X : Stand p l e R s m args below meth c T locs cells slots) (hexec : p.tables.exec = Jvm.exec) {own : String} {index : Nat} {y : MethodName} {bytes : ByteArray} {maxL : Nat}
    (hown : s.vm.findClass own = some m.cls) (hy1 : y.name = "<init>") (hlink : (Cond.methodLink own index y).before args s = true) (hinst : (Cond.instanceMethod y).before args s = true)
    (hcode : (Cond.code y bytes maxL none).before args s = true) (hy : y.cls ≠ "java/lang/invoke/MethodHandle" ∧ y.cls ≠ "java/lang/invoke/VarHandle")
    {W9 : Nat} {Pre : Pt → Array Value → Prop} {Post : Pt → Array Value → Option Value → Pt → Prop} {PostX : Pt → Array Value → Addr → Pt → Prop} (hK : vx_Back l R p e below s args y 3 W9 Pre Post PostX)
    {g : JFrame} (hg : g.method = m) (hsize : g.locals.size = c.maxLocals) {a : Addr} {argsL rest : List Value} (hlen : ∀ sig, parseMethodDescriptor y.desc = some sig → argsL.length = sig.parameters.length)
    (hstack : g.stack = argsL.reverse ++ .ref a :: rest) (hW : 2 * g.monitorRoom + (rest.map fun v => v.category).sum ≤ W9) (hdg : decode c.code g.pc = .ok (.invokespecial index, 3))
    (hpre : ∀ vm₁, s.WarmedH vm₁ → Pre ⟨T.setVm vm₁, locs, cells, slots⟩ (Value.ref a :: argsL).toArray) :
    (∃ (v : Option Value) (vm₁ : Vm) (B : Pt), s.WarmedH vm₁ ∧ Stand p l e R s m args below meth c B.U B.locs B.cells B.slots ∧ Post ⟨T.setVm vm₁, locs, cells, slots⟩ (Value.ref a :: argsL).toArray v B ∧
      ∀ target, Steps p.tables e below (B.U.setTop { g with pc := g.pc + 3, stack := v.toList ++ rest }) target → Steps p.tables e below (T.setTop g) target) ∨
    (∃ (q : Addr) (vm₁ : Vm) (B : Pt), s.WarmedH vm₁ ∧ Stand p l e R s m args below meth c B.U B.locs B.cells B.slots ∧ PostX ⟨T.setVm vm₁, locs, cells, slots⟩ (Value.ref a :: argsL).toArray q B ∧
      Steps p.tables e below (T.setTop g) ((B.U.setTop { g with stack := rest }).pushFrame (.throwing q))) := by
  subst hg
  have hpl : e.platform.magicAccessors = ({} : Platform).magicAccessors := by rw [X.admits.platform]
  obtain ⟨mk, methM, cM, kP, vm₁, hnamed, hmethM, hcodeM, -, hlocalsM, -, hkP, -, hW₁, hstep₁⟩ := Steps.initColdArgs (e := e) X.here hexec X.warmed hpl hown hy1 hy hlink hinst hcode (f := g) rfl hlen hstack hdg
  have X₁ := X.noted hW₁
  rcases hK g.method meth c ⟨T.setVm vm₁, locs, cells, slots⟩ { g with stack := rest } (.invokespecial index) mk (Value.ref a :: argsL).toArray X₁ rfl hsize hdg hW (X₁.named hnamed) (hpre vm₁ X₁.warmed) with ⟨v, B, X', hpost, hsteps⟩ | ⟨q, B, X', hpost, hsteps⟩
  · exact Or.inl ⟨v, vm₁, B, X₁.warmed, X', hpost, fun target h => hstep₁ _ fun acts => by rw [doInvoke_state]; exact hsteps.trans h⟩
  · exact Or.inr ⟨q, vm₁, B, X₁.warmed, X', hpost, hstep₁ _ fun acts => by rw [doInvoke_state]; exact hsteps⟩
end VXIA
section VXIB
variable {p : Program} {l : Launch} {e : Env} {R : Room} {s : State} {m : MethodId} {args : Array Value} {below : List Frame} {meth : Method} {c : Code} {H : Heap} {locs : List Loc} {cells slots : Nat}
variable {y : MethodName} {bytes cc : ByteArray} {maxL nL mc ms n index : Nat} {ret : Option FieldType} {ws : List Cond} {rm : Room} {Pc : Array Value → State → Prop} {Qc : Array Value → State → Outcome → State → Prop} {XC : String → State → State → Prop} {free : Addr → Prop} {Ts : List Cond} {own C : String} {b : Addr} {As rest : List Value} {g : JFrame}
theorem vx_runI (S : CallFix p m c cc nL s args Ts own) (hM : vx_Met l y ws rm Pc Qc XC mc ms free) (cw : CallB R s args own index y bytes maxL none ws rm mc ms n ∧ y.name = "<init>" ∧ (Cond.instanceMethod y).before args s = true) (hp : PreS s H Pc (.ref b :: As))
    (hg : g.method = m) (hn : As.length = n) (hsize : g.locals.size = nL) (hstack : g.stack = As.reverse ++ .ref b :: rest) (hW : 2 * g.monitorRoom + (rest.map fun v => v.category).sum ≤ 8) (hdg : decode cc g.pc = .ok (.invokespecial index, 3)) (hf : cells + mc ≤ R.cells ∧ slots + ms ≤ R.slots) :
    vx_Run p l e R s m args below meth c H locs cells slots mc ms g rest (Qc (Value.ref b :: As).toArray) XC free := by
  have hK : vx_Back l R p e below s args y 3 8 (PreOf R mc ms Pc) (PostOf Qc mc ms free) (vx_Post XC mc ms free) := vx_callBack cw.1 hM hp.1
  obtain ⟨⟨-, -, -, -, -, -, hcode, -, hy, hlen, hl⟩, hy1, hin⟩ := cw
  obtain ⟨hx, hb, hml, ho, -⟩ := S
  have hPc := hp.2
  intro T hT X
  rcases vx_callI X hx (bytes := bytes) (maxL := maxL) ho hy1 hl hin hcode hy hK hg (hsize.trans hml.symm) (a := b) (argsL := As) (rest := rest) (fun sig h => hn.trans (hlen sig h)) hstack hW (by rw [hb]; exact hdg)
    (fun vm₁ hW₁ => ⟨hf.1, hf.2, hPc (T.setVm vm₁) hT hW₁⟩) with ⟨v, vm₁, ⟨U', l2, c2, s2⟩, hW₁, X', ⟨g', mk, t, L, e1, e2, hq, h1, hL, h2, h3⟩, st⟩ | ⟨q, vm₁, ⟨U', l2, c2, s2⟩, hW₁, X', ⟨g', mk, t, L, E, ce, e1, e2, hq, hce, hcv, hcl, h1, hL, h2, h3⟩, st⟩
  · dsimp only [Pt.U, Pt.locs, Pt.cells, Pt.slots] at X' e1 e2 h1 h2 h3 st
    subst h1; subst h2; subst h3
    exact Or.inl ⟨v, (T.setVm vm₁).calling g' mk (Value.ref b :: As).toArray, t, U', L, hT, X', hL, e1, e2, hq, st⟩
  · dsimp only [Pt.U, Pt.locs, Pt.cells, Pt.slots] at X' e1 e2 h1 h2 h3 st hcl
    subst h1; subst h2; subst h3
    exact Or.inr ⟨q, (T.setVm vm₁).calling g' mk (Value.ref b :: As).toArray, t, U', L, E, ce, hT, X', hL, e1, e2, hq, hce, hcv, vx_cls hW₁ hcl, st⟩
end VXIB
/-! ===== END ===== -/
/-! ===== BEGIN a private constructor of a nest mate that throws ===== -/
section VXIC
variable {p : Program} {l : Launch} {e : Env} {R : Room} {s : State} {m : MethodId} {args : Array Value} {below : List Frame} {meth : Method} {c : Code} {T : State} {locs : List Loc} {cells slots : Nat}
theorem vx_callIN (X : Stand p l e R s m args below meth c T locs cells slots) (hexec : p.tables.exec = Jvm.exec) {own : String} {index : Nat} {host : String} {y : MethodName} {bytes : ByteArray} {maxL : Nat}
    (hown : s.vm.findClass own = some m.cls) (hy1 : y.name = "<init>") (hlink : (Cond.methodLinkNest own index y host).before args s = true) (hinst : (Cond.instanceMethod y).before args s = true)
    (hcode : (Cond.code y bytes maxL none).before args s = true) (hy : y.cls ≠ "java/lang/invoke/MethodHandle" ∧ y.cls ≠ "java/lang/invoke/VarHandle")
    {W9 : Nat} {Pre : Pt → Array Value → Prop} {Post : Pt → Array Value → Option Value → Pt → Prop} {PostX : Pt → Array Value → Addr → Pt → Prop} (hK : vx_Back l R p e below s args y 3 W9 Pre Post PostX)
    {g : JFrame} (hg : g.method = m) (hsize : g.locals.size = c.maxLocals) {a : Addr} {argsL rest : List Value} (hlen : ∀ sig, parseMethodDescriptor y.desc = some sig → argsL.length = sig.parameters.length)
    (hstack : g.stack = argsL.reverse ++ .ref a :: rest) (hW : 2 * g.monitorRoom + (rest.map fun v => v.category).sum ≤ W9) (hdg : decode c.code g.pc = .ok (.invokespecial index, 3))
    (hpre : ∀ vm₁, s.WarmedH vm₁ → Pre ⟨T.setVm vm₁, locs, cells, slots⟩ (Value.ref a :: argsL).toArray) :
    (∃ (v : Option Value) (vm₁ : Vm) (B : Pt), s.WarmedH vm₁ ∧ Stand p l e R s m args below meth c B.U B.locs B.cells B.slots ∧ Post ⟨T.setVm vm₁, locs, cells, slots⟩ (Value.ref a :: argsL).toArray v B ∧
      ∀ target, Steps p.tables e below (B.U.setTop { g with pc := g.pc + 3, stack := v.toList ++ rest }) target → Steps p.tables e below (T.setTop g) target) ∨
    (∃ (q : Addr) (vm₁ : Vm) (B : Pt), s.WarmedH vm₁ ∧ Stand p l e R s m args below meth c B.U B.locs B.cells B.slots ∧ PostX ⟨T.setVm vm₁, locs, cells, slots⟩ (Value.ref a :: argsL).toArray q B ∧
      Steps p.tables e below (T.setTop g) ((B.U.setTop { g with stack := rest }).pushFrame (.throwing q))) := by
  subst hg
  have hpl : e.platform.magicAccessors = ({} : Platform).magicAccessors := by rw [X.admits.platform]
  obtain ⟨mk, methM, cM, kP, vm₁, hnamed, hmethM, hcodeM, -, hlocalsM, -, hkP, -, hW₁, hstep₁⟩ := Steps.initColdArgsNest (e := e) X.here hexec X.warmed hpl hown hy1 hy hlink hinst hcode (f := g) rfl hlen hstack hdg
  have X₁ := X.noted hW₁
  rcases hK g.method meth c ⟨T.setVm vm₁, locs, cells, slots⟩ { g with stack := rest } (.invokespecial index) mk (Value.ref a :: argsL).toArray X₁ rfl hsize hdg hW (X₁.named hnamed) (hpre vm₁ X₁.warmed) with ⟨v, B, X', hpost, hsteps⟩ | ⟨q, B, X', hpost, hsteps⟩
  · exact Or.inl ⟨v, vm₁, B, X₁.warmed, X', hpost, fun target h => hstep₁ _ fun acts => by rw [doInvoke_state]; exact hsteps.trans h⟩
  · exact Or.inr ⟨q, vm₁, B, X₁.warmed, X', hpost, hstep₁ _ fun acts => by rw [doInvoke_state]; exact hsteps⟩
end VXIC
section VXID
variable {p : Program} {l : Launch} {e : Env} {R : Room} {s : State} {m : MethodId} {args : Array Value} {below : List Frame} {meth : Method} {c : Code} {H : Heap} {locs : List Loc} {cells slots : Nat}
theorem vx_runIN {y : MethodName} {bytes cc : ByteArray} {maxL nL mc ms n index : Nat} {ws : List Cond} {rm : Room} {Pc : Array Value → State → Prop} {Qc : Array Value → State → Outcome → State → Prop} {XC : String → State → State → Prop} {free : Addr → Prop} {Ts : List Cond} {own host : String} {b : Addr} {As rest : List Value} {g : JFrame}
    (S : CallFix p m c cc nL s args Ts own) (hM : vx_Met l y ws rm Pc Qc XC mc ms free) (cw : va_CN R s args own index y host bytes maxL none ws rm mc ms n ∧ y.name = "<init>" ∧ (Cond.instanceMethod y).before args s = true) (hp : PreS s H Pc (.ref b :: As))
    (hg : g.method = m) (hn : As.length = n) (hsize : g.locals.size = nL) (hstack : g.stack = As.reverse ++ .ref b :: rest) (hW : 2 * g.monitorRoom + (rest.map fun v => v.category).sum ≤ 8) (hdg : decode cc g.pc = .ok (.invokespecial index, 3)) (hf : cells + mc ≤ R.cells ∧ slots + ms ≤ R.slots) :
    vx_Run p l e R s m args below meth c H locs cells slots mc ms g rest (Qc (Value.ref b :: As).toArray) XC free := by
  obtain ⟨⟨⟨hrc, hrs, hfr, hlo, hws, hcw⟩, hcode, hini, hy, hlen, hl⟩, hx1, hx2⟩ := cw
  have hK : vx_Back l R p e below s args y 3 8 (PreOf R mc ms Pc) (PostOf Qc mc ms free) (vx_Post XC mc ms free) := vx_back (bytes := bytes) (maxL := maxL) (ret := none) hM hp.1 hrc hrs hfr hlo hws hcw (fun a' U hW => word_at hW (Or.inl (by first | rfl | simp [Cond.onTables, Cond.keeps, Cond.steady])) hini)
  obtain ⟨hx, hb, hml, ho, -⟩ := S
  have hPc := hp.2
  intro T hT X
  rcases vx_callIN X hx (bytes := bytes) (maxL := maxL) ho hx1 hl hx2 hcode hy hK hg (hsize.trans hml.symm) (a := b) (argsL := As) (rest := rest) (fun sig h => hn.trans (hlen sig h)) hstack hW (by rw [hb]; exact hdg)
    (fun vm₁ hW₁ => ⟨hf.1, hf.2, hPc (T.setVm vm₁) hT hW₁⟩) with ⟨v, vm₁, ⟨U', l2, c2, s2⟩, hW₁, X', ⟨g', mk, t, L, e1, e2, hq, h1, hL, h2, h3⟩, st⟩ | ⟨q, vm₁, ⟨U', l2, c2, s2⟩, hW₁, X', ⟨g', mk, t, L, E, ce, e1, e2, hq, hce, hcv, hcl, h1, hL, h2, h3⟩, st⟩
  · dsimp only [Pt.U, Pt.locs, Pt.cells, Pt.slots] at X' e1 e2 h1 h2 h3 st
    subst h1; subst h2; subst h3
    exact Or.inl ⟨v, (T.setVm vm₁).calling g' mk (Value.ref b :: As).toArray, t, U', L, hT, X', hL, e1, e2, hq, st⟩
  · dsimp only [Pt.U, Pt.locs, Pt.cells, Pt.slots] at X' e1 e2 h1 h2 h3 st hcl
    subst h1; subst h2; subst h3
    exact Or.inr ⟨q, (T.setVm vm₁).calling g' mk (Value.ref b :: As).toArray, t, U', L, E, ce, hT, X', hL, e1, e2, hq, hce, hcv, vx_cls hW₁ hcl, st⟩
end VXID
/-! ===== END ===== -/
/-! ===== BEGIN a private method of a nest mate that may throw (follows va_callVN, va_callSN, va_runVN, va_runSN) ===== -/
section
variable {p : Program} {l : Launch} {e : Env} {R : Room} {s : State} {m : MethodId} {args : Array Value} {below : List Frame} {meth : Method} {c : Code} {H : Heap} {locs : List Loc} {cells slots : Nat}
variable {T : State}
theorem vx_callVN (X : Stand p l e R s m args below meth c T locs cells slots) (hexec : p.tables.exec = Jvm.exec) {own C : String} {index : Nat} {host : String} {y : MethodName} {bytes : ByteArray} {maxL : Nat} {ret : Option FieldType}
    (hown : s.vm.findClass own = some m.cls) (hlink : (Cond.methodLinkNest own index y host).before args s = true) (hinst : (Cond.instanceMethod y).before args s = true) (hsel : (Cond.selects C y y).before args s = true)
    (hcode : (Cond.code y bytes maxL ret).before args s = true) (hy : y.cls ≠ "java/lang/invoke/MethodHandle" ∧ y.cls ≠ "java/lang/invoke/VarHandle")
    {W : Nat} {Pre : Pt → Array Value → Prop} {Post : Pt → Array Value → Option Value → Pt → Prop} {PostX : Pt → Array Value → Addr → Pt → Prop} (hK : vx_Back l R p e below s args y 3 W Pre Post PostX)
    {b : Addr} {cellB : Cell} (hcell : T.heap[b]? = some cellB) (hobj : cellB.vm.isStatics = false) (hcls : s.vm.findClass C = some cellB.cls)
    {g : JFrame} (hg : g.method = m) (hsize : g.locals.size = c.maxLocals) {argsL rest : List Value} (hlen : ∀ sig, parseMethodDescriptor y.desc = some sig → argsL.length = sig.parameters.length)
    (hstack : g.stack = argsL.reverse ++ .ref b :: rest) (hW : 2 * g.monitorRoom + (rest.map fun v => v.category).sum ≤ W) (hdg : decode c.code g.pc = .ok (.invokevirtual index, 3))
    (hpre : ∀ vm₁, s.WarmedH vm₁ → Pre ⟨T.setVm vm₁, locs, cells, slots⟩ (Value.ref b :: argsL).toArray) :
    (∃ (v : Option Value) (vm₁ : Vm) (B : Pt), s.WarmedH vm₁ ∧ Stand p l e R s m args below meth c B.U B.locs B.cells B.slots ∧ Post ⟨T.setVm vm₁, locs, cells, slots⟩ (Value.ref b :: argsL).toArray v B ∧
      ∀ target, Steps p.tables e below (B.U.setTop { g with pc := g.pc + 3, stack := v.toList ++ rest }) target → Steps p.tables e below (T.setTop g) target) ∨
    (∃ (q : Addr) (vm₁ : Vm) (B : Pt), s.WarmedH vm₁ ∧ Stand p l e R s m args below meth c B.U B.locs B.cells B.slots ∧ PostX ⟨T.setVm vm₁, locs, cells, slots⟩ (Value.ref b :: argsL).toArray q B ∧
      Steps p.tables e below (T.setTop g) ((B.U.setTop { g with stack := rest }).pushFrame (.throwing q))) := by
  obtain ⟨mk, methM, hnamed, hmethM, hstM, habM⟩ := Cond.instanceMethod_spec hinst
  obtain ⟨methM', cM, hmethM', -, -, -, -, -, -, hsigM⟩ := Cond.code_spec hnamed hcode
  cases hmethM.symm.trans hmethM'
  obtain ⟨c2, r2, m2, q1, q2, q3, q4, kP, hkP, hkPi⟩ := Cond.selects_spec hsel
  cases hcls.symm.trans q1
  cases (State.methodFound?_of_named hnamed hy).symm.trans q2
  cases hnamed.symm.trans q3
  have hselP : selectMethod e.platform s.vm cellB.cls mk = .method mk := by rw [Launch.admits_selectMethod X.admits]; exact q4
  obtain ⟨vm₁, X₁, hstep₁⟩ := X.invokevirtualNest hexec hown hlink hnamed hmethM hstM hkP hkPi hy (a := b) (cell := cellB) hcell
    (fun z h => by rw [h] at hobj; cases hobj) hselP hmethM habM hkP hkPi (g := g) hg (argsL := argsL) (rest := rest) (hlen _ hsigM) hstack hdg
  rcases hK m meth c ⟨T.setVm vm₁, locs, cells, slots⟩ { g with stack := rest } (.invokevirtual index) mk (Value.ref b :: argsL).toArray X₁ hg hsize hdg hW (X₁.named hnamed) (hpre vm₁ X₁.warmed) with ⟨v, B, X', hpost, hsteps⟩ | ⟨q, B, X', hpost, hsteps⟩
  · exact Or.inl ⟨v, vm₁, B, X₁.warmed, X', hpost, fun target h => hstep₁ _ fun acts => by rw [doInvoke_state]; exact hsteps.trans h⟩
  · exact Or.inr ⟨q, vm₁, B, X₁.warmed, X', hpost, hstep₁ _ fun acts => by rw [doInvoke_state]; exact hsteps⟩
theorem vx_callSN (X : Stand p l e R s m args below meth c T locs cells slots) (hexec : p.tables.exec = Jvm.exec) {own : String} {index : Nat} {host : String} {y : MethodName} {bytes : ByteArray} {maxL : Nat} {ret : Option FieldType}
    (hown : s.vm.findClass own = some m.cls) (hlink : (Cond.methodLinkNest own index y host).before args s = true) (hstat : (Cond.static y).before args s = true) (hinit : (Cond.initialized y.cls).before args s = true)
    (hcode : (Cond.code y bytes maxL ret).before args s = true) (hy : y.cls ≠ "java/lang/invoke/MethodHandle" ∧ y.cls ≠ "java/lang/invoke/VarHandle")
    {W : Nat} {Pre : Pt → Array Value → Prop} {Post : Pt → Array Value → Option Value → Pt → Prop} {PostX : Pt → Array Value → Addr → Pt → Prop} (hK : vx_Back l R p e below s args y 3 W Pre Post PostX)
    {g : JFrame} (hg : g.method = m) (hsize : g.locals.size = c.maxLocals) {argsL rest : List Value} (hlen : ∀ sig, parseMethodDescriptor y.desc = some sig → argsL.length = sig.parameters.length)
    (hstack : g.stack = argsL.reverse ++ rest) (hW : 2 * g.monitorRoom + (rest.map fun v => v.category).sum ≤ W) (hdg : decode c.code g.pc = .ok (.invokestatic index, 3))
    (hpre : ∀ vm₁, s.WarmedH vm₁ → Pre ⟨T.setVm vm₁, locs, cells, slots⟩ argsL.toArray) :
    (∃ (v : Option Value) (vm₁ : Vm) (B : Pt), s.WarmedH vm₁ ∧ Stand p l e R s m args below meth c B.U B.locs B.cells B.slots ∧ Post ⟨T.setVm vm₁, locs, cells, slots⟩ argsL.toArray v B ∧
      ∀ target, Steps p.tables e below (B.U.setTop { g with pc := g.pc + 3, stack := v.toList ++ rest }) target → Steps p.tables e below (T.setTop g) target) ∨
    (∃ (q : Addr) (vm₁ : Vm) (B : Pt), s.WarmedH vm₁ ∧ Stand p l e R s m args below meth c B.U B.locs B.cells B.slots ∧ PostX ⟨T.setVm vm₁, locs, cells, slots⟩ argsL.toArray q B ∧
      Steps p.tables e below (T.setTop g) ((B.U.setTop { g with stack := rest }).pushFrame (.throwing q))) := by
  obtain ⟨mk, hnamed⟩ := Cond.code_named hcode
  obtain ⟨methM, cM, hmethM, -, -, -, -, -, -, hsigM⟩ := Cond.code_spec hnamed hcode
  have hstatic : methM.isStatic = true := Cond.static_spec hnamed hmethM hstat
  obtain ⟨kP, hkP, -⟩ := className_of_methodNamed hnamed
  have hinitP : kP.init = .initialized := Cond.initialized_spec (findClass_of_methodNamed hnamed) hkP hinit
  obtain ⟨vm₁, X₁, hstep₁⟩ := X.invokestaticNest hexec hown hlink hnamed hmethM hstatic hkP hinitP hy (g := g) hg (argsL := argsL) (rest := rest) (hlen _ hsigM) hstack hdg
  rcases hK m meth c ⟨T.setVm vm₁, locs, cells, slots⟩ { g with stack := rest } (.invokestatic index) mk argsL.toArray X₁ hg hsize hdg hW (X₁.named hnamed) (hpre vm₁ X₁.warmed) with ⟨v, B, X', hpost, hsteps⟩ | ⟨q, B, X', hpost, hsteps⟩
  · exact Or.inl ⟨v, vm₁, B, X₁.warmed, X', hpost, fun target h => hstep₁ _ fun acts => by rw [doInvoke_state]; exact hsteps.trans h⟩
  · exact Or.inr ⟨q, vm₁, B, X₁.warmed, X', hpost, hstep₁ _ fun acts => by rw [doInvoke_state]; exact hsteps⟩
theorem vx_runVN {y : MethodName} {bytes cc : ByteArray} {maxL nL mc ms n index : Nat} {ret : Option FieldType} {ws : List Cond} {rm : Room} {Pc : Array Value → State → Prop} {Qc : Array Value → State → Outcome → State → Prop} {XC : String → State → State → Prop} {free : Addr → Prop} {Ts : List Cond} {own C host : String} {b : Addr} {As rest : List Value} {g : JFrame}
    (S : CallFix p m c cc nL s args Ts own) (hM : vx_Met l y ws rm Pc Qc XC mc ms free) (cw : va_CN R s args own index y host bytes maxL ret ws rm mc ms n ∧ (Cond.instanceMethod y).before args s = true ∧ (Cond.selects C y y).before args s = true) (hp : PreV s H C b Pc As)
    (hg : g.method = m) (hn : As.length = n) (hsize : g.locals.size = nL) (hstack : g.stack = As.reverse ++ .ref b :: rest) (hW : 2 * g.monitorRoom + (rest.map fun v => v.category).sum ≤ 8) (hdg : decode cc g.pc = .ok (.invokevirtual index, 3)) (hf : cells + mc ≤ R.cells ∧ slots + ms ≤ R.slots) :
    vx_Run p l e R s m args below meth c H locs cells slots mc ms g rest (Qc (Value.ref b :: As).toArray) XC free := by
  obtain ⟨⟨⟨hrc, hrs, hfr, hlo, hws, hcw⟩, hcode, hini, hy, hlen, hl⟩, hx1, hx2⟩ := cw
  have hK : vx_Back l R p e below s args y 3 8 (PreOf R mc ms Pc) (PostOf Qc mc ms free) (vx_Post XC mc ms free) := vx_back (bytes := bytes) (maxL := maxL) (ret := ret) hM hp.1 hrc hrs hfr hlo hws hcw (fun a' U hW => word_at hW (Or.inl (by first | rfl | simp [Cond.onTables, Cond.keeps, Cond.steady])) hini)
  obtain ⟨hx, hb, hml, ho, -⟩ := S
  obtain ⟨-, ⟨cellB, hcB, hoB, hclB⟩, hPc⟩ := hp
  intro T hT X
  rcases vx_callVN X hx (C := C) (bytes := bytes) (maxL := maxL) (ret := ret) ho hl hx1 hx2 hcode hy hK (by rw [hT]; exact hcB) hoB hclB hg (hsize.trans hml.symm) (argsL := As) (rest := rest) (fun sig h => hn.trans (hlen sig h)) hstack hW (by rw [hb]; exact hdg)
    (fun vm₁ hW₁ => ⟨hf.1, hf.2, hPc (T.setVm vm₁) hT hW₁⟩) with ⟨v, vm₁, ⟨U', l2, c2, s2⟩, hW₁, X', ⟨g', mk, t, L, e1, e2, hq, h1, hL, h2, h3⟩, st⟩ | ⟨q, vm₁, ⟨U', l2, c2, s2⟩, hW₁, X', ⟨g', mk, t, L, E, ce, e1, e2, hq, hce, hcv, hcl, h1, hL, h2, h3⟩, st⟩
  · dsimp only [Pt.U, Pt.locs, Pt.cells, Pt.slots] at X' e1 e2 h1 h2 h3 st
    subst h1; subst h2; subst h3
    exact Or.inl ⟨v, (T.setVm vm₁).calling g' mk (Value.ref b :: As).toArray, t, U', L, hT, X', hL, e1, e2, hq, st⟩
  · dsimp only [Pt.U, Pt.locs, Pt.cells, Pt.slots] at X' e1 e2 h1 h2 h3 st hcl
    subst h1; subst h2; subst h3
    exact Or.inr ⟨q, (T.setVm vm₁).calling g' mk (Value.ref b :: As).toArray, t, U', L, E, ce, hT, X', hL, e1, e2, hq, hce, hcv, vx_cls hW₁ hcl, st⟩
theorem vx_runSN {y : MethodName} {bytes cc : ByteArray} {maxL nL mc ms n index : Nat} {ret : Option FieldType} {ws : List Cond} {rm : Room} {Pc : Array Value → State → Prop} {Qc : Array Value → State → Outcome → State → Prop} {XC : String → State → State → Prop} {free : Addr → Prop} {Ts : List Cond} {own host : String} {As rest : List Value} {g : JFrame}
    (S : CallFix p m c cc nL s args Ts own) (hM : vx_Met l y ws rm Pc Qc XC mc ms free) (cw : va_CN R s args own index y host bytes maxL ret ws rm mc ms n ∧ (Cond.static y).before args s = true ∧ True) (hp : PreS s H Pc As)
    (hg : g.method = m) (hn : As.length = n) (hsize : g.locals.size = nL) (hstack : g.stack = As.reverse ++ rest) (hW : 2 * g.monitorRoom + (rest.map fun v => v.category).sum ≤ 8) (hdg : decode cc g.pc = .ok (.invokestatic index, 3)) (hf : cells + mc ≤ R.cells ∧ slots + ms ≤ R.slots) :
    vx_Run p l e R s m args below meth c H locs cells slots mc ms g rest (Qc As.toArray) XC free := by
  obtain ⟨⟨⟨hrc, hrs, hfr, hlo, hws, hcw⟩, hcode, hini, hy, hlen, hl⟩, hx1, hx2⟩ := cw
  have hK : vx_Back l R p e below s args y 3 8 (PreOf R mc ms Pc) (PostOf Qc mc ms free) (vx_Post XC mc ms free) := vx_back (bytes := bytes) (maxL := maxL) (ret := ret) hM hp.1 hrc hrs hfr hlo hws hcw (fun a' U hW => word_at hW (Or.inl (by first | rfl | simp [Cond.onTables, Cond.keeps, Cond.steady])) hini)
  obtain ⟨hx, hb, hml, ho, -⟩ := S
  have hPc := hp.2
  intro T hT X
  rcases vx_callSN X hx (bytes := bytes) (maxL := maxL) (ret := ret) ho hl hx1 hini hcode hy hK hg (hsize.trans hml.symm) (argsL := As) (rest := rest) (fun sig h => hn.trans (hlen sig h)) hstack hW (by rw [hb]; exact hdg)
    (fun vm₁ hW₁ => ⟨hf.1, hf.2, hPc (T.setVm vm₁) hT hW₁⟩) with ⟨v, vm₁, ⟨U', l2, c2, s2⟩, hW₁, X', ⟨g', mk, t, L, e1, e2, hq, h1, hL, h2, h3⟩, st⟩ | ⟨q, vm₁, ⟨U', l2, c2, s2⟩, hW₁, X', ⟨g', mk, t, L, E, ce, e1, e2, hq, hce, hcv, hcl, h1, hL, h2, h3⟩, st⟩
  · dsimp only [Pt.U, Pt.locs, Pt.cells, Pt.slots] at X' e1 e2 h1 h2 h3 st
    subst h1; subst h2; subst h3
    exact Or.inl ⟨v, (T.setVm vm₁).calling g' mk As.toArray, t, U', L, hT, X', hL, e1, e2, hq, st⟩
  · dsimp only [Pt.U, Pt.locs, Pt.cells, Pt.slots] at X' e1 e2 h1 h2 h3 st hcl
    subst h1; subst h2; subst h3
    exact Or.inr ⟨q, (T.setVm vm₁).calling g' mk As.toArray, t, U', L, E, ce, hT, X', hL, e1, e2, hq, hce, hcv, vx_cls hW₁ hcl, st⟩
end
/-! ===== END ===== -/
end
section
/-! ===== BEGIN printed: names, fields, word lists, decode rows ===== -/
def RX0 : String := "BoxballHall$Carrier"
def TX0 : u_T := fun k => match k with
  | 0 => ("BoxballHall$Carrier", "left", "[I", true)
  | _ => ("BoxballHall$Carrier", "most", "I", false)
def tyX0 : Nat → FieldType := fun k => match k with
  | 0 => .array .int
  | _ => .int
abbrev wsX00 : List Cond := u_ws RX0 TX0 2
theorem nmX0 : ∀ a, a < 2 → ∀ b, b < 2 → a ≠ b → (TX0 a).2.1 ≠ (TX0 b).2.1 := by decide +kernel
theorem tyX0_ok : ∀ k, k < 2 → parseFieldDescriptor (TX0 k).2.2.1 = some (tyX0 k) := by decide +kernel
abbrev cX0_init : ByteArray := prog_2_method_1_code
def yX0_init : MethodName := ⟨RX0, "<init>", "()V"⟩
abbrev cX0_canPass : ByteArray := prog_2_method_2_code
def yX0_canPass : MethodName := ⟨RX0, "canPass", "(LBoxballHall$Row;IZ)Z"⟩
abbrev cX0_goOver : ByteArray := prog_2_method_3_code
def yX0_goOver : MethodName := ⟨RX0, "goOver", "(LBoxballHall$Row;IIZ)I"⟩
abbrev cX0_countPickups : ByteArray := prog_2_method_4_code
def yX0_countPickups : MethodName := ⟨RX0, "countPickups", "(LBoxballHall$Row;I)I"⟩
def RX1 : String := "BoxballHall$ChosenWaves"
def TX1 : u_T := fun k => match k with
  | 0 => ("BoxballHall$ChosenWaves", "sizes", "[I", true)
  | 1 => ("BoxballHall$ChosenWaves", "phases", "[I", true)
  | _ => ("BoxballHall$ChosenWaves", "count", "I", false)
def tyX1 : Nat → FieldType := fun k => match k with
  | 0 => .array .int
  | 1 => .array .int
  | _ => .int
abbrev wsX10 : List Cond := u_ws RX1 TX1 3
theorem nmX1 : ∀ a, a < 3 → ∀ b, b < 3 → a ≠ b → (TX1 a).2.1 ≠ (TX1 b).2.1 := by decide +kernel
theorem tyX1_ok : ∀ k, k < 3 → parseFieldDescriptor (TX1 k).2.2.1 = some (tyX1 k) := by decide +kernel
abbrev cX1_init : ByteArray := prog_3_method_1_code
def yX1_init : MethodName := ⟨RX1, "<init>", "()V"⟩
def RX2 : String := "BoxballHall$NumberSet"
def TX2 : u_T := fun k => match k with
  | _ => ("BoxballHall$NumberSet", "words", "[J", true)
def tyX2 : Nat → FieldType := fun k => match k with
  | _ => .array .long
abbrev wsX20 : List Cond := u_ws RX2 TX2 1
theorem nmX2 : ∀ a, a < 1 → ∀ b, b < 1 → a ≠ b → (TX2 a).2.1 ≠ (TX2 b).2.1 := by decide +kernel
theorem tyX2_ok : ∀ k, k < 1 → parseFieldDescriptor (TX2 k).2.2.1 = some (tyX2 k) := by decide +kernel
abbrev cX2_init : ByteArray := prog_4_method_1_code
def yX2_init : MethodName := ⟨RX2, "<init>", "()V"⟩
def RX3 : String := "BoxballHall$Pairs"
def TX3 : u_T := fun k => match k with
  | 0 => ("BoxballHall$Pairs", "standing", "[I", true)
  | 1 => ("BoxballHall$Pairs", "removed", "[I", true)
  | _ => ("BoxballHall$Pairs", "rounds", "I", false)
def tyX3 : Nat → FieldType := fun k => match k with
  | 0 => .array .int
  | 1 => .array .int
  | _ => .int
abbrev wsX30 : List Cond := u_ws RX3 TX3 3
theorem nmX3 : ∀ a, a < 3 → ∀ b, b < 3 → a ≠ b → (TX3 a).2.1 ≠ (TX3 b).2.1 := by decide +kernel
theorem tyX3_ok : ∀ k, k < 3 → parseFieldDescriptor (TX3 k).2.2.1 = some (tyX3 k) := by decide +kernel
abbrev cX3_init : ByteArray := prog_5_method_1_code
def yX3_init : MethodName := ⟨RX3, "<init>", "()V"⟩
abbrev cX3_removeAll : ByteArray := prog_5_method_2_code
def yX3_removeAll : MethodName := ⟨RX3, "removeAll", "(LBoxballHall$Row;)V"⟩
abbrev cX3_standUp : ByteArray := prog_5_method_3_code
def yX3_standUp : MethodName := ⟨RX3, "standUp", "(LBoxballHall$Row;)I"⟩
abbrev cX3_removeRound : ByteArray := prog_5_method_4_code
def yX3_removeRound : MethodName := ⟨RX3, "removeRound", "(I)I"⟩
abbrev cX3_inRound : ByteArray := prog_5_method_5_code
def yX3_inRound : MethodName := ⟨RX3, "inRound", "(I)I"⟩
abbrev cX3_countAll : ByteArray := prog_5_method_6_code
def yX3_countAll : MethodName := ⟨RX3, "countAll", "()I"⟩
abbrev cX3_sizeOf : ByteArray := prog_5_method_7_code
def yX3_sizeOf : MethodName := ⟨RX3, "sizeOf", "(I)I"⟩
abbrev cX3_sumOfSizes : ByteArray := prog_5_method_8_code
def yX3_sumOfSizes : MethodName := ⟨RX3, "sumOfSizes", "(I)I"⟩
def RX4 : String := "BoxballHall$Past"
def TX4 : u_T := fun k => match k with
  | 0 => ("BoxballHall$Past", "capacities", "[[I", true)
  | 1 => ("BoxballHall$Past", "balls", "[[I", true)
  | 2 => ("BoxballHall$Past", "kept", "I", false)
  | _ => ("BoxballHall$Past", "next", "I", false)
def tyX4 : Nat → FieldType := fun k => match k with
  | 0 => .array (.array .int)
  | 1 => .array (.array .int)
  | 2 => .int
  | _ => .int
abbrev wsX40 : List Cond := u_ws RX4 TX4 4
theorem nmX4 : ∀ a, a < 4 → ∀ b, b < 4 → a ≠ b → (TX4 a).2.1 ≠ (TX4 b).2.1 := by decide +kernel
theorem tyX4_ok : ∀ k, k < 4 → parseFieldDescriptor (TX4 k).2.2.1 = some (tyX4 k) := by decide +kernel
abbrev cX4_init : ByteArray := prog_6_method_1_code
def yX4_init : MethodName := ⟨RX4, "<init>", "()V"⟩
abbrev cX4_forget : ByteArray := prog_6_method_2_code
def yX4_forget : MethodName := ⟨RX4, "forget", "()V"⟩
abbrev cX4_hasRow : ByteArray := prog_6_method_3_code
def yX4_hasRow : MethodName := ⟨RX4, "hasRow", "(I)Z"⟩
abbrev cX4_slotOf : ByteArray := prog_6_method_4_code
def yX4_slotOf : MethodName := ⟨RX4, "slotOf", "(I)I"⟩
abbrev cX4_ballsOf : ByteArray := prog_6_method_5_code
def yX4_ballsOf : MethodName := ⟨RX4, "ballsOf", "(II)I"⟩
abbrev cX4_keep : ByteArray := prog_6_method_6_code
def yX4_keep : MethodName := ⟨RX4, "keep", "(LBoxballHall$Row;)V"⟩
abbrev cX4_giveBack : ByteArray := prog_6_method_7_code
def yX4_giveBack : MethodName := ⟨RX4, "giveBack", "(LBoxballHall$Row;)V"⟩
def RX5 : String := "BoxballHall$Queues"
def TX5 : u_T := fun k => match k with
  | 0 => ("BoxballHall$Queues", "times", "[[I", true)
  | _ => ("BoxballHall$Queues", "ways", "[I", true)
def tyX5 : Nat → FieldType := fun k => match k with
  | 0 => .array (.array .int)
  | _ => .array .int
abbrev wsX50 : List Cond := u_ws RX5 TX5 2
theorem nmX5 : ∀ a, a < 2 → ∀ b, b < 2 → a ≠ b → (TX5 a).2.1 ≠ (TX5 b).2.1 := by decide +kernel
theorem tyX5_ok : ∀ k, k < 2 → parseFieldDescriptor (TX5 k).2.2.1 = some (tyX5 k) := by decide +kernel
abbrev cX5_init : ByteArray := prog_7_method_1_code
def yX5_init : MethodName := ⟨RX5, "<init>", "()V"⟩
abbrev cX5_leavingOf : ByteArray := prog_7_method_2_code
def yX5_leavingOf : MethodName := ⟨RX5, "leavingOf", "(II)I"⟩
abbrev cX5_areLeavingsLongestWays : ByteArray := prog_7_method_3_code
def yX5_areLeavingsLongestWays : MethodName := ⟨RX5, "areLeavingsLongestWays", "()Z"⟩
abbrev cX5_longestWayTo : ByteArray := prog_7_method_4_code
def yX5_longestWayTo : MethodName := ⟨RX5, "longestWayTo", "(II)I"⟩
def RX6 : String := "BoxballHall$Row"
def TX6 : u_T := fun k => match k with
  | 0 => ("BoxballHall$Row", "capacities", "[I", true)
  | 1 => ("BoxballHall$Row", "balls", "[I", true)
  | 2 => ("BoxballHall$Row", "boxes", "I", false)
  | _ => ("BoxballHall$Row", "isRing", "Z", false)
def tyX6 : Nat → FieldType := fun k => match k with
  | 0 => .array .int
  | 1 => .array .int
  | 2 => .int
  | _ => .boolean
abbrev wsX60 : List Cond := u_ws RX6 TX6 4
theorem nmX6 : ∀ a, a < 4 → ∀ b, b < 4 → a ≠ b → (TX6 a).2.1 ≠ (TX6 b).2.1 := by decide +kernel
theorem tyX6_ok : ∀ k, k < 4 → parseFieldDescriptor (TX6 k).2.2.1 = some (tyX6 k) := by decide +kernel
abbrev cX6_init : ByteArray := prog_8_method_1_code
def yX6_init : MethodName := ⟨RX6, "<init>", "()V"⟩
abbrev cX6_clearTo : ByteArray := prog_8_method_2_code
def yX6_clearTo : MethodName := ⟨RX6, "clearTo", "(IIZ)V"⟩
abbrev cX6_become : ByteArray := prog_8_method_3_code
def yX6_become : MethodName := ⟨RX6, "become", "(LBoxballHall$Row;)V"⟩
abbrev cX6_takeCapacities : ByteArray := prog_8_method_6_code
def yX6_takeCapacities : MethodName := ⟨RX6, "takeCapacities", "([I)V"⟩
abbrev cX6_takeBalls : ByteArray := prog_8_method_7_code
def yX6_takeBalls : MethodName := ⟨RX6, "takeBalls", "([I)V"⟩
abbrev cX6_hasBallsOf : ByteArray := prog_8_method_8_code
def yX6_hasBallsOf : MethodName := ⟨RX6, "hasBallsOf", "(LBoxballHall$Row;)Z"⟩
abbrev cX6_isSimple : ByteArray := prog_8_method_9_code
def yX6_isSimple : MethodName := ⟨RX6, "isSimple", "()Z"⟩
abbrev cX6_sumOfBalls : ByteArray := prog_8_method_10_code
def yX6_sumOfBalls : MethodName := ⟨RX6, "sumOfBalls", "()I"⟩
abbrev cX6_countFilled : ByteArray := prog_8_method_11_code
def yX6_countFilled : MethodName := ⟨RX6, "countFilled", "()I"⟩
def RX7 : String := "BoxballHall$Runs"
def TX7 : u_T := fun k => match k with
  | 0 => ("BoxballHall$Runs", "places", "[I", true)
  | 1 => ("BoxballHall$Runs", "nextPlaces", "[I", true)
  | 2 => ("BoxballHall$Runs", "balls", "I", false)
  | _ => ("BoxballHall$Runs", "laid", "I", false)
def tyX7 : Nat → FieldType := fun k => match k with
  | 0 => .array .int
  | 1 => .array .int
  | 2 => .int
  | _ => .int
abbrev wsX70 : List Cond := u_ws RX7 TX7 4
theorem nmX7 : ∀ a, a < 4 → ∀ b, b < 4 → a ≠ b → (TX7 a).2.1 ≠ (TX7 b).2.1 := by decide +kernel
theorem tyX7_ok : ∀ k, k < 4 → parseFieldDescriptor (TX7 k).2.2.1 = some (tyX7 k) := by decide +kernel
abbrev cX7_init : ByteArray := prog_9_method_1_code
def yX7_init : MethodName := ⟨RX7, "<init>", "()V"⟩
abbrev cX7_walk : ByteArray := prog_9_method_2_code
def yX7_walk : MethodName := ⟨RX7, "walk", "(LBoxballHall$Row;I)V"⟩
abbrev cX7_goOn : ByteArray := prog_9_method_3_code
def yX7_goOn : MethodName := ⟨RX7, "goOn", "()V"⟩
abbrev cX7_layDown : ByteArray := prog_9_method_4_code
def yX7_layDown : MethodName := ⟨RX7, "layDown", "(II)V"⟩
abbrev cX7_isFirstBall : ByteArray := prog_9_method_5_code
def yX7_isFirstBall : MethodName := ⟨RX7, "isFirstBall", "(I)Z"⟩
abbrev cX7_countAll : ByteArray := prog_9_method_6_code
def yX7_countAll : MethodName := ⟨RX7, "countAll", "()I"⟩
abbrev cX7_findFirstBall : ByteArray := prog_9_method_7_code
def yX7_findFirstBall : MethodName := ⟨RX7, "findFirstBall", "(I)I"⟩
abbrev cX7_lengthFrom : ByteArray := prog_9_method_8_code
def yX7_lengthFrom : MethodName := ⟨RX7, "lengthFrom", "(I)I"⟩
def RX8 : String := "BoxballHall$ThreePieces"
def TX8 : u_T := fun k => match k with
  | 0 => ("BoxballHall$ThreePieces", "capacities", "[I", true)
  | _ => ("BoxballHall$ThreePieces", "balls", "[I", true)
def tyX8 : Nat → FieldType := fun k => match k with
  | 0 => .array .int
  | _ => .array .int
abbrev wsX80 : List Cond := u_ws RX8 TX8 2
theorem nmX8 : ∀ a, a < 2 → ∀ b, b < 2 → a ≠ b → (TX8 a).2.1 ≠ (TX8 b).2.1 := by decide +kernel
theorem tyX8_ok : ∀ k, k < 2 → parseFieldDescriptor (TX8 k).2.2.1 = some (tyX8 k) := by decide +kernel
abbrev cX8_init : ByteArray := prog_10_method_1_code
def yX8_init : MethodName := ⟨RX8, "<init>", "()V"⟩
def RX9 : String := "BoxballHall$TypedSizes"
def TX9 : u_T := fun k => match k with
  | 0 => ("BoxballHall$TypedSizes", "sizes", "[I", true)
  | _ => ("BoxballHall$TypedSizes", "count", "I", false)
def tyX9 : Nat → FieldType := fun k => match k with
  | 0 => .array .int
  | _ => .int
abbrev wsX90 : List Cond := u_ws RX9 TX9 2
theorem nmX9 : ∀ a, a < 2 → ∀ b, b < 2 → a ≠ b → (TX9 a).2.1 ≠ (TX9 b).2.1 := by decide +kernel
theorem tyX9_ok : ∀ k, k < 2 → parseFieldDescriptor (TX9 k).2.2.1 = some (tyX9 k) := by decide +kernel
abbrev cX9_init : ByteArray := prog_11_method_1_code
def yX9_init : MethodName := ⟨RX9, "<init>", "()V"⟩
def RX10 : String := "BoxballHall"
def TX10 : u_T := fun k => match k with
  | 0 => ("BoxballHall", "row", "LBoxballHall$Row;", true)
  | 1 => ("BoxballHall", "past", "LBoxballHall$Past;", true)
  | 2 => ("BoxballHall", "carrier", "LBoxballHall$Carrier;", true)
  | 3 => ("BoxballHall", "pairs", "LBoxballHall$Pairs;", true)
  | 4 => ("BoxballHall", "runs", "LBoxballHall$Runs;", true)
  | 5 => ("BoxballHall", "pieces", "LBoxballHall$ThreePieces;", true)
  | 6 => ("BoxballHall", "chosen", "LBoxballHall$ChosenWaves;", true)
  | 7 => ("BoxballHall", "typed", "LBoxballHall$TypedSizes;", true)
  | 8 => ("BoxballHall", "images", "LBoxballHall$NumberSet;", true)
  | 9 => ("BoxballHall", "queues", "LBoxballHall$Queues;", true)
  | 10 => ("BoxballHall", "thought", "LBoxballHall$Row;", true)
  | _ => ("BoxballHall", "otherThought", "LBoxballHall$Row;", true)
def tyX10 : Nat → FieldType := fun k => match k with
  | 0 => .object "BoxballHall$Row"
  | 1 => .object "BoxballHall$Past"
  | 2 => .object "BoxballHall$Carrier"
  | 3 => .object "BoxballHall$Pairs"
  | 4 => .object "BoxballHall$Runs"
  | 5 => .object "BoxballHall$ThreePieces"
  | 6 => .object "BoxballHall$ChosenWaves"
  | 7 => .object "BoxballHall$TypedSizes"
  | 8 => .object "BoxballHall$NumberSet"
  | 9 => .object "BoxballHall$Queues"
  | 10 => .object "BoxballHall$Row"
  | _ => .object "BoxballHall$Row"
abbrev wsX100 : List Cond := u_ws RX10 TX10 12
theorem nmX10 : ∀ a, a < 12 → ∀ b, b < 12 → a ≠ b → (TX10 a).2.1 ≠ (TX10 b).2.1 := by decide +kernel
theorem tyX10_ok : ∀ k, k < 12 → parseFieldDescriptor (TX10 k).2.2.1 = some (tyX10 k) := by decide +kernel
abbrev cX10_init : ByteArray := prog_1_method_1_code
def yX10_init : MethodName := ⟨RX10, "<init>", "()V"⟩
abbrev cX10_setRow : ByteArray := prog_1_method_2_code
def yX10_setRow : MethodName := ⟨RX10, "setRow", "(IIZ)I"⟩
abbrev cX10_setCapacity : ByteArray := prog_1_method_3_code
def yX10_setCapacity : MethodName := ⟨RX10, "setCapacity", "(II)I"⟩
abbrev cX10_setBalls : ByteArray := prog_1_method_4_code
def yX10_setBalls : MethodName := ⟨RX10, "setBalls", "(II)I"⟩
abbrev cX10_getBalls : ByteArray := prog_1_method_5_code
def yX10_getBalls : MethodName := ⟨RX10, "getBalls", "(I)I"⟩
abbrev cX10_countBalls : ByteArray := prog_1_method_6_code
def yX10_countBalls : MethodName := ⟨RX10, "countBalls", "()I"⟩
abbrev cX10_step : ByteArray := prog_1_method_7_code
def yX10_step : MethodName := ⟨RX10, "step", "(I)I"⟩
abbrev cX10_stepBack : ByteArray := prog_1_method_8_code
def yX10_stepBack : MethodName := ⟨RX10, "stepBack", "(I)I"⟩
abbrev cX10_run : ByteArray := prog_1_method_9_code
def yX10_run : MethodName := ⟨RX10, "run", "(II)I"⟩
abbrev cX10_countKept : ByteArray := prog_1_method_10_code
def yX10_countKept : MethodName := ⟨RX10, "countKept", "()I"⟩
abbrev cX10_getPast : ByteArray := prog_1_method_11_code
def yX10_getPast : MethodName := ⟨RX10, "getPast", "(II)I"⟩
abbrev cX10_undo : ByteArray := prog_1_method_12_code
def yX10_undo : MethodName := ⟨RX10, "undo", "()I"⟩
abbrev cX10_getFilledBits : ByteArray := prog_1_method_39_code
def yX10_getFilledBits : MethodName := ⟨RX10, "getFilledBits", "()I"⟩
abbrev cX10_isSound : ByteArray := prog_1_method_42_code
def yX10_isSound : MethodName := ⟨RX10, "isSound", "()Z"⟩
abbrev cX10_demandRange : ByteArray := prog_1_method_43_code
def yX10_demandRange : MethodName := ⟨RX10, "demandRange", "(III)V"⟩
abbrev cX10_demandBox : ByteArray := prog_1_method_46_code
def yX10_demandBox : MethodName := ⟨RX10, "demandBox", "(I)V"⟩
abbrev cX10_stepTo : ByteArray := prog_1_method_48_code
def yX10_stepTo : MethodName := ⟨RX10, "stepTo", "(IZ)I"⟩
abbrev cX10_takeStep : ByteArray := prog_1_method_49_code
def yX10_takeStep : MethodName := ⟨RX10, "takeStep", "()V"⟩
abbrev cX10_isTurnedBack : ByteArray := prog_1_method_56_code
def yX10_isTurnedBack : MethodName := ⟨RX10, "isTurnedBack", "()Z"⟩
abbrev cX10_areWavesSound : ByteArray := prog_1_method_57_code
def yX10_areWavesSound : MethodName := ⟨RX10, "areWavesSound", "()Z"⟩
abbrev cX10_areEnergiesSums : ByteArray := prog_1_method_58_code
def yX10_areEnergiesSums : MethodName := ⟨RX10, "areEnergiesSums", "()Z"⟩
abbrev cX10_areRunsWaves : ByteArray := prog_1_method_59_code
def yX10_areRunsWaves : MethodName := ⟨RX10, "areRunsWaves", "()Z"⟩
abbrev cX10_ballsLeftBehind : ByteArray := prog_1_method_60_code
def yX10_ballsLeftBehind : MethodName := ⟨RX10, "ballsLeftBehind", "(IIII)I"⟩
abbrev cX10_bitsOfShare : ByteArray := prog_1_method_63_code
def yX10_bitsOfShare : MethodName := ⟨RX10, "bitsOfShare", "(F)I"⟩
def RX11 : String := "BoxballHallModel"
def TX11 : u_T := fun k => match k with
  | _ => ("", "", "", false)
def tyX11 : Nat → FieldType := fun k => match k with
  | _ => .int
abbrev wsX110 : List Cond := u_ws RX11 TX11 0
theorem nmX11 : ∀ a, a < 0 → ∀ b, b < 0 → a ≠ b → (TX11 a).2.1 ≠ (TX11 b).2.1 := by decide +kernel
theorem tyX11_ok : ∀ k, k < 0 → parseFieldDescriptor (TX11 k).2.2.1 = some (tyX11 k) := by decide +kernel
def RJx145de : String := "java/io/Serializable"
def TJx145de : u_T := fun k => match k with
  | _ => ("", "", "", false)
def tyJx145de : Nat → FieldType := fun k => match k with
  | _ => .int
abbrev wsJx145de0 : List Cond := u_ws RJx145de TJx145de 0
theorem nmJx145de : ∀ a, a < 0 → ∀ b, b < 0 → a ≠ b → (TJx145de a).2.1 ≠ (TJx145de b).2.1 := by decide +kernel
theorem tyJx145de_ok : ∀ k, k < 0 → parseFieldDescriptor (TJx145de k).2.2.1 = some (tyJx145de k) := by decide +kernel
def RJx00060 : String := "java/lang/ArrayIndexOutOfBoundsException"
def TJx00060 : u_T := fun k => match k with
  | 0 => ("java/lang/Throwable", "backtrace", "Ljava/lang/Object;", false)
  | 1 => ("java/lang/Throwable", "detailMessage", "Ljava/lang/String;", false)
  | 2 => ("java/lang/Throwable", "cause", "Ljava/lang/Throwable;", false)
  | 3 => ("java/lang/Throwable", "stackTrace", "[Ljava/lang/StackTraceElement;", false)
  | 4 => ("java/lang/Throwable", "depth", "I", false)
  | _ => ("java/lang/Throwable", "suppressedExceptions", "Ljava/util/List;", false)
def tyJx00060 : Nat → FieldType := fun k => match k with
  | 0 => .object "java/lang/Object"
  | 1 => .object "java/lang/String"
  | 2 => .object "java/lang/Throwable"
  | 3 => .array (.object "java/lang/StackTraceElement")
  | 4 => .int
  | _ => .object "java/util/List"
abbrev wsJx000600 : List Cond := u_ws RJx00060 TJx00060 6
theorem nmJx00060 : ∀ a, a < 6 → ∀ b, b < 6 → a ≠ b → (TJx00060 a).2.1 ≠ (TJx00060 b).2.1 := by decide +kernel
theorem tyJx00060_ok : ∀ k, k < 6 → parseFieldDescriptor (TJx00060 k).2.2.1 = some (tyJx00060 k) := by decide +kernel
abbrev cJx00060_init_a7421 : ByteArray := prog_15_method_2_code
def yJx00060_init_a7421 : MethodName := ⟨RJx00060, "<init>", "(Ljava/lang/String;)V"⟩
def RJx8e188 : String := "java/lang/Cloneable"
def TJx8e188 : u_T := fun k => match k with
  | _ => ("", "", "", false)
def tyJx8e188 : Nat → FieldType := fun k => match k with
  | _ => .int
abbrev wsJx8e1880 : List Cond := u_ws RJx8e188 TJx8e188 0
theorem nmJx8e188 : ∀ a, a < 0 → ∀ b, b < 0 → a ≠ b → (TJx8e188 a).2.1 ≠ (TJx8e188 b).2.1 := by decide +kernel
theorem tyJx8e188_ok : ∀ k, k < 0 → parseFieldDescriptor (TJx8e188 k).2.2.1 = some (tyJx8e188 k) := by decide +kernel
def RJxb160c : String := "java/lang/Comparable"
def TJxb160c : u_T := fun k => match k with
  | _ => ("", "", "", false)
def tyJxb160c : Nat → FieldType := fun k => match k with
  | _ => .int
abbrev wsJxb160c0 : List Cond := u_ws RJxb160c TJxb160c 0
theorem nmJxb160c : ∀ a, a < 0 → ∀ b, b < 0 → a ≠ b → (TJxb160c a).2.1 ≠ (TJxb160c b).2.1 := by decide +kernel
theorem tyJxb160c_ok : ∀ k, k < 0 → parseFieldDescriptor (TJxb160c k).2.2.1 = some (tyJxb160c k) := by decide +kernel
def RJxf58ca : String := "java/lang/Float"
def TJxf58ca : u_T := fun k => match k with
  | _ => ("", "", "", false)
def tyJxf58ca : Nat → FieldType := fun k => match k with
  | _ => .int
abbrev wsJxf58ca0 : List Cond := u_ws RJxf58ca TJxf58ca 0
theorem nmJxf58ca : ∀ a, a < 0 → ∀ b, b < 0 → a ≠ b → (TJxf58ca a).2.1 ≠ (TJxf58ca b).2.1 := by decide +kernel
theorem tyJxf58ca_ok : ∀ k, k < 0 → parseFieldDescriptor (TJxf58ca k).2.2.1 = some (tyJxf58ca k) := by decide +kernel
abbrev cJxf58ca_isNaN_12338 : ByteArray := prog_19_method_6_code
def yJxf58ca_isNaN_12338 : MethodName := ⟨RJxf58ca, "isNaN", "(F)Z"⟩
abbrev cJxf58ca_floatToIntBits_5c35a : ByteArray := prog_19_method_24_code
def yJxf58ca_floatToIntBits_5c35a : MethodName := ⟨RJxf58ca, "floatToIntBits", "(F)I"⟩
def RJ9 : String := "java/lang/Math"
def TJ9 : u_T := fun k => match k with
  | _ => ("", "", "", false)
def tyJ9 : Nat → FieldType := fun k => match k with
  | _ => .int
abbrev wsJ90 : List Cond := u_ws RJ9 TJ9 0
theorem nmJ9 : ∀ a, a < 0 → ∀ b, b < 0 → a ≠ b → (TJ9 a).2.1 ≠ (TJ9 b).2.1 := by decide +kernel
theorem tyJ9_ok : ∀ k, k < 0 → parseFieldDescriptor (TJ9 k).2.2.1 = some (tyJ9 k) := by decide +kernel
abbrev cJ9_floorMod_7cf53 : ByteArray := prog_22_method_50_code
def yJ9_floorMod_7cf53 : MethodName := ⟨RJ9, "floorMod", "(II)I"⟩
abbrev cJ9_max_7cf53 : ByteArray := prog_22_method_65_code
def yJ9_max_7cf53 : MethodName := ⟨RJ9, "max", "(II)I"⟩
abbrev cJ9_min_7cf53 : ByteArray := prog_22_method_69_code
def yJ9_min_7cf53 : MethodName := ⟨RJ9, "min", "(II)I"⟩
def RJxd2413 : String := "java/lang/Number"
def TJxd2413 : u_T := fun k => match k with
  | _ => ("", "", "", false)
def tyJxd2413 : Nat → FieldType := fun k => match k with
  | _ => .int
abbrev wsJxd24130 : List Cond := u_ws RJxd2413 TJxd2413 0
theorem nmJxd2413 : ∀ a, a < 0 → ∀ b, b < 0 → a ≠ b → (TJxd2413 a).2.1 ≠ (TJxd2413 b).2.1 := by decide +kernel
theorem tyJxd2413_ok : ∀ k, k < 0 → parseFieldDescriptor (TJxd2413 k).2.2.1 = some (tyJxd2413 k) := by decide +kernel
def RJ0 : String := "java/lang/String"
def TJ0 : u_T := fun k => match k with
  | 0 => ("java/lang/String", "value", "[B", true)
  | _ => ("java/lang/String", "coder", "B", true)
def tyJ0 : Nat → FieldType := fun k => match k with
  | 0 => .array .byte
  | _ => .byte
abbrev wsJ00 : List Cond := u_ws RJ0 TJ0 2
theorem nmJ0 : ∀ a, a < 2 → ∀ b, b < 2 → a ≠ b → (TJ0 a).2.1 ≠ (TJ0 b).2.1 := by decide +kernel
theorem tyJ0_ok : ∀ k, k < 2 → parseFieldDescriptor (TJ0 k).2.2.1 = some (tyJ0 k) := by decide +kernel
def RJxfd54e : String := "java/lang/constant/Constable"
def TJxfd54e : u_T := fun k => match k with
  | _ => ("", "", "", false)
def tyJxfd54e : Nat → FieldType := fun k => match k with
  | _ => .int
abbrev wsJxfd54e0 : List Cond := u_ws RJxfd54e TJxfd54e 0
theorem nmJxfd54e : ∀ a, a < 0 → ∀ b, b < 0 → a ≠ b → (TJxfd54e a).2.1 ≠ (TJxfd54e b).2.1 := by decide +kernel
theorem tyJxfd54e_ok : ∀ k, k < 0 → parseFieldDescriptor (TJxfd54e k).2.2.1 = some (tyJxfd54e k) := by decide +kernel
def RJx3cf43 : String := "java/lang/constant/ConstantDesc"
def TJx3cf43 : u_T := fun k => match k with
  | _ => ("", "", "", false)
def tyJx3cf43 : Nat → FieldType := fun k => match k with
  | _ => .int
abbrev wsJx3cf430 : List Cond := u_ws RJx3cf43 TJx3cf43 0
theorem nmJx3cf43 : ∀ a, a < 0 → ∀ b, b < 0 → a ≠ b → (TJx3cf43 a).2.1 ≠ (TJx3cf43 b).2.1 := by decide +kernel
theorem tyJx3cf43_ok : ∀ k, k < 0 → parseFieldDescriptor (TJx3cf43 k).2.2.1 = some (tyJx3cf43 k) := by decide +kernel
def RJ7 : String := "java/util/Arrays"
def TJ7 : u_T := fun k => match k with
  | _ => ("", "", "", false)
def tyJ7 : Nat → FieldType := fun k => match k with
  | _ => .int
abbrev wsJ70 : List Cond := u_ws RJ7 TJ7 0
theorem nmJ7 : ∀ a, a < 0 → ∀ b, b < 0 → a ≠ b → (TJ7 a).2.1 ≠ (TJ7 b).2.1 := by decide +kernel
theorem tyJ7_ok : ∀ k, k < 0 → parseFieldDescriptor (TJ7 k).2.2.1 = some (tyJ7 k) := by decide +kernel
abbrev cJ7_fill_53178 : ByteArray := prog_30_method_103_code
def yJ7_fill_53178 : MethodName := ⟨RJ7, "fill", "([II)V"⟩
def RL : String := "BoxballHallLaw"
abbrev cL_cell : ByteArray := method_2_code
def yL_cell : MethodName := ⟨RL, "cell", "([II)I"⟩
abbrev cL_setRow : ByteArray := method_3_code
def yL_setRow : MethodName := ⟨RL, "setRow", "(LBoxballHall;IIZ)I"⟩
abbrev cL_setCapacity : ByteArray := method_4_code
def yL_setCapacity : MethodName := ⟨RL, "setCapacity", "(LBoxballHall;II)I"⟩
abbrev cL_setBalls : ByteArray := method_5_code
def yL_setBalls : MethodName := ⟨RL, "setBalls", "(LBoxballHall;II)I"⟩
abbrev cL_getBalls : ByteArray := method_6_code
def yL_getBalls : MethodName := ⟨RL, "getBalls", "(LBoxballHall;I)I"⟩
abbrev cL_step : ByteArray := method_7_code
def yL_step : MethodName := ⟨RL, "step", "(LBoxballHall;I)I"⟩
abbrev cL_stepBack : ByteArray := method_8_code
def yL_stepBack : MethodName := ⟨RL, "stepBack", "(LBoxballHall;I)I"⟩
abbrev cL_run : ByteArray := method_9_code
def yL_run : MethodName := ⟨RL, "run", "(LBoxballHall;II)I"⟩
abbrev cL_getPast : ByteArray := method_10_code
def yL_getPast : MethodName := ⟨RL, "getPast", "(LBoxballHall;II)I"⟩
abbrev cL_undo : ByteArray := method_11_code
def yL_undo : MethodName := ⟨RL, "undo", "(LBoxballHall;)I"⟩
abbrev cL_in : ByteArray := method_12_code
def yL_in : MethodName := ⟨RL, "in", "([III)I"⟩
abbrev cL_law : ByteArray := code
def yL_law : MethodName := ⟨RL, "law", "([I)Z"⟩
-- ===== c_ data: the classes whose objects are told of, their fields' types, the words
def c_cl : List vw_C := [(RX0, TX0, 2), (RX1, TX1, 3), (RX2, TX2, 1), (RX3, TX3, 3), (RX4, TX4, 4), (RX5, TX5, 2), (RX6, TX6, 4), (RX7, TX7, 4), (RX8, TX8, 2), (RX9, TX9, 2), (RX10, TX10, 12)]
def c_ty : Nat → Nat → FieldType := fun k => match k with
  | 0 => tyX0
  | 1 => tyX1
  | 2 => tyX2
  | 3 => tyX3
  | 4 => tyX4
  | 5 => tyX5
  | 6 => tyX6
  | 7 => tyX7
  | 8 => tyX8
  | 9 => tyX9
  | _ => tyX10
def c_nf : Nat → Nat := fun k => match k with
  | 0 => 2
  | 1 => 3
  | 2 => 1
  | 3 => 3
  | 4 => 4
  | 5 => 2
  | 6 => 4
  | 7 => 4
  | 8 => 2
  | 9 => 2
  | _ => 12
def c_host : String := "BoxballHall"
theorem c_in0 : ∀ w ∈ u_ws RX0 TX0 2, w ∈ lw_tbl := by decide +kernel
theorem c_in1 : ∀ w ∈ u_ws RX1 TX1 3, w ∈ lw_tbl := by decide +kernel
theorem c_in2 : ∀ w ∈ u_ws RX2 TX2 1, w ∈ lw_tbl := by decide +kernel
theorem c_in3 : ∀ w ∈ u_ws RX3 TX3 3, w ∈ lw_tbl := by decide +kernel
theorem c_in4 : ∀ w ∈ u_ws RX4 TX4 4, w ∈ lw_tbl := by decide +kernel
theorem c_in5 : ∀ w ∈ u_ws RX5 TX5 2, w ∈ lw_tbl := by decide +kernel
theorem c_in6 : ∀ w ∈ u_ws RX6 TX6 4, w ∈ lw_tbl := by decide +kernel
theorem c_in7 : ∀ w ∈ u_ws RX7 TX7 4, w ∈ lw_tbl := by decide +kernel
theorem c_in8 : ∀ w ∈ u_ws RX8 TX8 2, w ∈ lw_tbl := by decide +kernel
theorem c_in9 : ∀ w ∈ u_ws RX9 TX9 2, w ∈ lw_tbl := by decide +kernel
theorem c_in10 : ∀ w ∈ u_ws RX10 TX10 12, w ∈ lw_tbl := by decide +kernel
/-- what is so of each class of the list -/
def c_clOk (k : Nat) (q : vw_C) : Prop := (∀ w ∈ u_ws q.1 q.2.1 q.2.2, w ∈ lw_tbl) ∧ (∀ j, j < q.2.2 → parseFieldDescriptor (q.2.1 j).2.2.1 = some (c_ty k j)) ∧ (∀ a, a < q.2.2 → ∀ b, b < q.2.2 → a ≠ b → (q.2.1 a).2.1 ≠ (q.2.1 b).2.1) ∧ c_nf k = q.2.2
theorem c_cl_ok : ∀ k q, c_cl[k]? = some q → c_clOk k q
  | 0, q, h => by cases h; exact ⟨c_in0, tyX0_ok, nmX0, rfl⟩
  | 1, q, h => by cases h; exact ⟨c_in1, tyX1_ok, nmX1, rfl⟩
  | 2, q, h => by cases h; exact ⟨c_in2, tyX2_ok, nmX2, rfl⟩
  | 3, q, h => by cases h; exact ⟨c_in3, tyX3_ok, nmX3, rfl⟩
  | 4, q, h => by cases h; exact ⟨c_in4, tyX4_ok, nmX4, rfl⟩
  | 5, q, h => by cases h; exact ⟨c_in5, tyX5_ok, nmX5, rfl⟩
  | 6, q, h => by cases h; exact ⟨c_in6, tyX6_ok, nmX6, rfl⟩
  | 7, q, h => by cases h; exact ⟨c_in7, tyX7_ok, nmX7, rfl⟩
  | 8, q, h => by cases h; exact ⟨c_in8, tyX8_ok, nmX8, rfl⟩
  | 9, q, h => by cases h; exact ⟨c_in9, tyX9_ok, nmX9, rfl⟩
  | 10, q, h => by cases h; exact ⟨c_in10, tyX10_ok, nmX10, rfl⟩
  | k + 11, q, h => by simp [c_cl] at h
/-- pairs of exceptions of which the first is none of the second -/
def c_NC : List (String × String) := [("java/lang/IllegalArgumentException", "java/lang/IndexOutOfBoundsException"), ("java/lang/IndexOutOfBoundsException", "java/util/NoSuchElementException"), ("java/lang/UnsupportedOperationException", "java/lang/IllegalArgumentException")]
end
section
/-! A small machine over cells told by places (a reading of the listing's own instructions), and that the machine does what it does. -/
abbrev c_Cell : Type := Option ((Nat × List Value) ⊕ (Nat × List Value))
abbrev c_Hp : Type := List c_Cell
abbrev c_Ls : Type := List (Option Value)
abbrev c_I : Type := Instr × Nat × Nat × Nat
abbrev c_R : Type := Nat × c_Ls × List Value × c_Hp
def c_sz : c_Cell → Nat
  | none => 6
  | some (.inl q) => q.2.length
  | some (.inr q) => q.2.length
def c_msz (h : c_Hp) : Nat := (h.map c_sz).sum
def c_clr (L : c_Ls) (i : Nat) : c_Ls := match i with
  | 0 => L
  | j + 1 => match L[j]? with
    | some (some w) => if w.category = 2 then L.set j none else L
    | _ => L
def c_set (L : c_Ls) (i : Nat) (v : Value) : c_Ls := (c_clr L i).set i (some v)
def c_tag : Nat → FieldType
  | 0 => .int
  | 1 => .long
  | 2 => .array .int
  | _ => .double
def c_okv (t : FieldType) (v : Value) : Bool := fits t v && decide (narrow t v = v)
def c_cmp (cd : Jvm.ClassFile.Cond) (x y : Int32) : Bool := match cd with
  | .eq => decide (x = y)
  | .ne => decide (¬ x = y)
  | .lt => decide (x < y)
  | .ge => decide (y ≤ x)
  | .gt => decide (y < x)
  | .le => decide (x ≤ y)
def c_s1 (st : List Value) (f : Int32 → List Value → Option c_R) : Option c_R := match st with
  | .int x :: r => f x r
  | _ => none
def c_s2 (st : List Value) (f : Int32 → Int32 → List Value → Option c_R) : Option c_R := match st with
  | .int y :: .int x :: r => f x y r
  | _ => none
def c_f1 (st : List Value) (f : UInt32 → List Value → Option c_R) : Option c_R := match st with
  | .float x :: r => f x r
  | _ => none
def c_f2 (st : List Value) (f : UInt32 → UInt32 → List Value → Option c_R) : Option c_R := match st with
  | .float y :: .float x :: r => f x y r
  | _ => none
def c_iload (L : c_Ls) (i n pc : Nat) (st : List Value) (h : c_Hp) : Option c_R := match L[i]? with
  | some (some (.int x)) => some (pc + n, L, .int x :: st, h)
  | _ => none
def c_fload (L : c_Ls) (i n pc : Nat) (st : List Value) (h : c_Hp) : Option c_R := match L[i]? with
  | some (some (.float x)) => some (pc + n, L, .float x :: st, h)
  | _ => none
def c_aload (L : c_Ls) (i n pc : Nat) (st : List Value) (h : c_Hp) : Option c_R := match L[i]? with
  | some (some (.ref x)) => some (pc + n, L, .ref x :: st, h)
  | some (some (.retAddr x)) => some (pc + n, L, .retAddr x :: st, h)
  | _ => none
def c_istore (L : c_Ls) (i n pc : Nat) (st : List Value) (h : c_Hp) : Option c_R := match st with
  | .int x :: r => if i < L.length then some (pc + n, c_set L i (.int x), r, h) else none
  | _ => none
def c_fstore (L : c_Ls) (i n pc : Nat) (st : List Value) (h : c_Hp) : Option c_R := match st with
  | .float x :: r => if i < L.length then some (pc + n, c_set L i (.float x), r, h) else none
  | _ => none
def c_astore (L : c_Ls) (i n pc : Nat) (st : List Value) (h : c_Hp) : Option c_R := match st with
  | .ref x :: r => if i < L.length then some (pc + n, c_set L i (.ref x), r, h) else none
  | _ => none
def c_nn (r : UInt32) : Bool := decide (r &&& 0x7fffffff ≤ 0x7f800000)
def c_fs (h : c_Hp) (a k : Nat) : Option (List Value) := match h[a]? with
  | some (some (.inl q)) => if q.1 = k then some q.2 else none
  | _ => none
def c_vs (h : c_Hp) (a t : Nat) : Option (List Value) := match h[a]? with
  | some (some (.inr q)) => if q.1 = t then some q.2 else none
  | _ => none
def c_ix (i : Int32) (n : Nat) : Option Nat := if i < 0 then none else if i.toNatClampNeg < n then some i.toNatClampNeg else none
def c_getf (q : c_I) (pc : Nat) (L : c_Ls) (st : List Value) (h : c_Hp) : Option c_R := match st with
  | .ref a :: r => match c_fs h a q.2.1 with
    | some fs => match fs[q.2.2.1]? with
      | some v => some (pc + 3, L, v :: r, h)
      | none => none
    | none => none
  | _ => none
def c_putf (ty : Nat → Nat → FieldType) (q : c_I) (pc : Nat) (L : c_Ls) (st : List Value) (h : c_Hp) : Option c_R := match st with
  | v :: .ref a :: r => match c_fs h a q.2.1 with
    | some fs => if c_okv (ty q.2.1 q.2.2.1) v = true then if q.2.2.1 < fs.length then some (pc + 3, L, r, h.set a (some (.inl (q.2.1, fs.set q.2.2.1 v)))) else none else none
    | none => none
  | _ => none
def c_iald (X : List Int32) (pc : Nat) (L : c_Ls) (st : List Value) (h : c_Hp) : Option c_R := match st with
  | .int i :: .ref a :: r => match c_vs h a 0 with
    | some vs => match c_ix i vs.length with
      | some j => match vs[j]? with
        | some (.int x) => some (pc + 1, L, .int x :: r, h)
        | _ => none
      | none => none
    | none => none
  | .int i :: .retAddr _ :: r => match c_ix i X.length with
    | some j => match X[j]? with
      | some x => some (pc + 1, L, .int x :: r, h)
      | none => none
    | none => none
  | _ => none
def c_aald (pc : Nat) (L : c_Ls) (st : List Value) (h : c_Hp) : Option c_R := match st with
  | .int i :: .ref a :: r => match c_vs h a 2 with
    | some vs => match c_ix i vs.length with
      | some j => match vs[j]? with
        | some (.ref x) => some (pc + 1, L, .ref x :: r, h)
        | _ => none
      | none => none
    | none => none
  | _ => none
def c_iast (pc : Nat) (L : c_Ls) (st : List Value) (h : c_Hp) : Option c_R := match st with
  | .int x :: .int i :: .ref a :: r => match c_vs h a 0 with
    | some vs => match c_ix i vs.length with
      | some j => some (pc + 1, L, r, h.set a (some (.inr (0, vs.set j (.int x)))))
      | none => none
    | none => none
  | _ => none
def c_aast (pc : Nat) (L : c_Ls) (st : List Value) (h : c_Hp) : Option c_R := match st with
  | .ref x :: .int i :: .ref a :: r => match c_vs h a 2 with
    | some vs => match c_vs h x 0 with
      | some _ => match c_ix i vs.length with
        | some j => some (pc + 1, L, r, h.set a (some (.inr (2, vs.set j (.ref x)))))
        | none => none
      | none => none
    | none => none
  | _ => none
def c_alen (X : List Int32) (q : c_I) (pc : Nat) (L : c_Ls) (st : List Value) (h : c_Hp) : Option c_R := match st with
  | .ref a :: r => match c_vs h a q.2.1 with
    | some vs => some (pc + 1, L, .int (Int32.ofNat vs.length) :: r, h)
    | none => none
  | .retAddr _ :: r => some (pc + 1, L, .int (Int32.ofNat X.length) :: r, h)
  | _ => none
def c_dfl (ty : Nat → Nat → FieldType) (k n : Nat) : List Value := (List.range n).map (fun j => defaultValue (ty k j))
def c_newa (q : c_I) (pc : Nat) (L : c_Ls) (st : List Value) (h : c_Hp) : Option c_R := match st with
  | .int n :: r => if n < 0 then none else if n.toNatClampNeg ≤ 100000 then some (pc + 2, L, .ref h.length :: r, h ++ [some (.inr (q.2.1, List.replicate n.toNatClampNeg (defaultValue (c_tag q.2.1))))]) else none
  | _ => none
def c_mnew (pc : Nat) (L : c_Ls) (st : List Value) (h : c_Hp) : Option c_R := match st with
  | .int k :: .int n :: r => if n < 0 then none else if k < 0 then none else if n.toNatClampNeg ≤ 100000 then if k.toNatClampNeg ≤ 100000 then
      some (pc + 4, L, .ref h.length :: r, (h ++ [some (.inr (2, (List.range n.toNatClampNeg).map (fun j => Value.ref (h.length + 1 + j))))]) ++ List.replicate n.toNatClampNeg (some (.inr (0, List.replicate k.toNatClampNeg (Value.int 0)))))
      else none else none
  | _ => none
def c_cast (q : c_I) (pc : Nat) (L : c_Ls) (st : List Value) (h : c_Hp) : Option c_R := match st with
  | .ref a :: r => match c_vs h a q.2.1 with
    | some _ => some (pc + 3, L, .ref a :: r, h)
    | none => none
  | _ => none
def c_isi : Value → Bool
  | .int _ => true
  | _ => false
/-- calls that are one step here: 6 Object's own beginning, 7 Math.max, 8 Math.min, 9 clone of a row of numbers, 10 a float's bits -/
def c_call1 (q : c_I) (pc : Nat) (L : c_Ls) (st : List Value) (h : c_Hp) : Option c_R := match q.2.2.2 with
  | 6 => match st with
    | .ref _ :: r => if (r.map fun v => v.category).sum ≤ 8 then some (pc + 3, L, r, h) else none
    | _ => none
  | 7 => match st with
    | .int y :: .int x :: r => if (r.map fun v => v.category).sum ≤ 8 then some (pc + 3, L, .int (if x < y then y else x) :: r, h) else none
    | _ => none
  | 8 => match st with
    | .int y :: .int x :: r => if (r.map fun v => v.category).sum ≤ 8 then some (pc + 3, L, .int (if y < x then y else x) :: r, h) else none
    | _ => none
  | 9 => match st with
    | .ref a :: r => match c_vs h a 0 with
      | some vs => if (r.map fun v => v.category).sum ≤ 8 then if vs.all c_isi then some (pc + 3, L, .ref h.length :: r, h ++ [some (.inr (0, vs))]) else none else none
      | none => none
    | _ => none
  | 10 => match st with
    | .float x :: r => if (r.map fun v => v.category).sum ≤ 8 then some (pc + 3, L, .int x.toInt32 :: r, h) else none
    | _ => none
  | _ => none
def c_stp (ty : Nat → Nat → FieldType) (nf : Nat → Nat) (X : List Int32) (q : c_I) (pc : Nat) (L : c_Ls) (st : List Value) (h : c_Hp) : Option c_R :=
  match q.1 with
  | .iconst n => some (pc + 1, L, .int (Int32.ofInt n) :: st, h)
  | .bipush n => some (pc + 2, L, .int (Int8.ofInt n).toInt32 :: st, h)
  | .sipush n => some (pc + 3, L, .int (Int16.ofInt n).toInt32 :: st, h)
  | .ldc _ => if q.2.2.2 = 0 then some (pc + 2, L, .int (Int32.ofNat q.2.1) :: st, h) else some (pc + 2, L, .float (UInt32.ofNat q.2.1) :: st, h)
  | .ldc_w _ => if q.2.2.2 = 0 then some (pc + 3, L, .int (Int32.ofNat q.2.1) :: st, h) else some (pc + 3, L, .float (UInt32.ofNat q.2.1) :: st, h)
  | .fconst 0 => some (pc + 1, L, .float 0 :: st, h)
  | .fconst 1 => some (pc + 1, L, .float 0x3f800000 :: st, h)
  | .fconst 2 => some (pc + 1, L, .float 0x40000000 :: st, h)
  | .iload_n k => c_iload L k.val 1 pc st h
  | .iload k => c_iload L k 2 pc st h
  | .fload_n k => c_fload L k.val 1 pc st h
  | .fload k => c_fload L k 2 pc st h
  | .aload_n k => c_aload L k.val 1 pc st h
  | .aload k => c_aload L k 2 pc st h
  | .istore_n k => c_istore L k.val 1 pc st h
  | .istore k => c_istore L k 2 pc st h
  | .fstore_n k => c_fstore L k.val 1 pc st h
  | .fstore k => c_fstore L k 2 pc st h
  | .astore_n k => c_astore L k.val 1 pc st h
  | .astore k => c_astore L k 2 pc st h
  | .iinc i n => match L[i]? with
    | some (some (.int x)) => some (pc + 3, c_set L i (.int (x + Int32.ofInt n)), st, h)
    | _ => none
  | .iadd => c_s2 st (fun x y r => some (pc + 1, L, .int (x + y) :: r, h))
  | .isub => c_s2 st (fun x y r => some (pc + 1, L, .int (x - y) :: r, h))
  | .imul => c_s2 st (fun x y r => some (pc + 1, L, .int (x * y) :: r, h))
  | .iand => c_s2 st (fun x y r => some (pc + 1, L, .int (x &&& y) :: r, h))
  | .ior => c_s2 st (fun x y r => some (pc + 1, L, .int (x ||| y) :: r, h))
  | .ixor => c_s2 st (fun x y r => some (pc + 1, L, .int (x ^^^ y) :: r, h))
  | .ishl => c_s2 st (fun x y r => some (pc + 1, L, .int (x <<< (y &&& 31)) :: r, h))
  | .ishr => c_s2 st (fun x y r => some (pc + 1, L, .int (x >>> (y &&& 31)) :: r, h))
  | .iushr => c_s2 st (fun x y r => some (pc + 1, L, .int (x.toUInt32 >>> (y.toUInt32 &&& Int32.toUInt32 31)).toInt32 :: r, h))
  | .irem => c_s2 st (fun x y r => if y = 0 then none else some (pc + 1, L, .int (x - x / y * y) :: r, h))
  | .idiv => c_s2 st (fun x y r => if y = 0 then none else some (pc + 1, L, .int (x / y) :: r, h))
  | .if_icmp cd _ => c_s2 st (fun x y r => some (if c_cmp cd x y then q.2.1 else pc + 3, L, r, h))
  | .ifCond cd _ => c_s1 st (fun x r => some (if c_cmp cd x 0 then q.2.1 else pc + 3, L, r, h))
  | .goto _ => some (q.2.1, L, st, h)
  | .dup => match st with
    | v :: r => if v.category = 1 then some (pc + 1, L, v :: v :: r, h) else none
    | _ => none
  | .pop => match st with
    | v :: r => if v.category = 1 then some (pc + 1, L, r, h) else none
    | _ => none
  | .i2f => c_s1 st (fun x r => some (pc + 1, L, .float (FP.i2f x) :: r, h))
  | .f2i => c_f1 st (fun x r => some (pc + 1, L, .int (FP.f2i x) :: r, h))
  | .fmul => c_f2 st (fun x y r => if c_nn (FP.fmul x y) then some (pc + 1, L, .float (FP.fmul x y) :: r, h) else none)
  | .fdiv => c_f2 st (fun x y r => if c_nn (FP.fdiv x y) then some (pc + 1, L, .float (FP.fdiv x y) :: r, h) else none)
  | .fsub => c_f2 st (fun x y r => if c_nn (FP.fsub x y) then some (pc + 1, L, .float (FP.fsub x y) :: r, h) else none)
  | .fcmp op => c_f2 st (fun x y r => some (pc + 1, L, .int (Op.cmpValue (FP.fcmp x y) op) :: r, h))
  | .getfield _ => c_getf q pc L st h
  | .putfield _ => c_putf ty q pc L st h
  | .iaload => c_iald X pc L st h
  | .iastore => c_iast pc L st h
  | .aaload => c_aald pc L st h
  | .aastore => c_aast pc L st h
  | .arraylength => c_alen X q pc L st h
  | .new _ => some (pc + 3, L, .ref h.length :: st, h ++ [some (.inl (q.2.1, c_dfl ty q.2.1 (nf q.2.1)))])
  | .newarray _ => c_newa q pc L st h
  | .multianewarray _ _ => c_mnew pc L st h
  | .checkcast _ => c_cast q pc L st h
  | .invokespecial _ => c_call1 q pc L st h
  | .invokestatic _ => c_call1 q pc L st h
  | .invokevirtual _ => c_call1 q pc L st h
  | _ => none
/-- y, code, locals, what it returns, its table, frames, room of locals, class place, catches (pc, exception, place in the table, local, length), instructions -/
abbrev c_M : Type := MethodName × ByteArray × Nat × Option FieldType × List (Nat × Nat × Nat × Nat) × Nat × Nat × Nat × List (Nat × Nat × Nat × Nat × Nat) × List (Nat × c_I)
def c_my (q : c_M) : MethodName := q.1
def c_mc (q : c_M) : ByteArray := q.2.1
def c_mL (q : c_M) : Nat := q.2.2.1
def c_mr (q : c_M) : Option FieldType := q.2.2.2.1
def c_mh (q : c_M) : List (Nat × Nat × Nat × Nat) := q.2.2.2.2.1
def c_mF (q : c_M) : Nat := q.2.2.2.2.2.1
def c_mR (q : c_M) : Nat := q.2.2.2.2.2.2.1
def c_mk (q : c_M) : Nat := q.2.2.2.2.2.2.2.1
def c_mx (q : c_M) : List (Nat × Nat × Nat × Nat × Nat) := q.2.2.2.2.2.2.2.2.1
def c_mi (q : c_M) : List (Nat × c_I) := q.2.2.2.2.2.2.2.2.2
def c_at (pc : Nat) : List (Nat × c_I) → Option c_I
  | [] => none
  | q :: r => if Nat.beq q.1 pc = true then some q.2 else c_at pc r
def c_cat (pc E : Nat) : List (Nat × Nat × Nat × Nat × Nat) → Option (Nat × Nat × Nat)
  | [] => none
  | q :: r => if Nat.beq q.1 pc && Nat.beq q.2.1 E then some q.2.2 else c_cat pc E r
/-- 0 a step, 1 to 3 a return, 4 a call, 5 a throw -/
def c_kd (q : c_I) : Nat := match q.1 with
  | .ireturn => 1
  | .return_ => 2
  | .areturn => 3
  | .invokestatic _ => if q.2.2.2 < 6 then 4 else 0
  | .invokevirtual _ => if q.2.2.2 < 6 then 4 else 0
  | .invokespecial _ => if q.2.2.2 < 6 then 4 else 0
  | .new _ => if q.2.2.2 = 1 then 5 else 0
  | _ => 0
def c_ent (args : List Value) (n : Nat) : c_Ls := let l := args.flatMap (fun v => if v.category = 2 then [some v, none] else [some v]); l ++ List.replicate (n - l.length) none
def c_isS (q : c_I) : Bool := match q.1 with
  | .invokestatic _ => true
  | _ => false
abbrev c_O : Type := Option Value ⊕ Nat
def c_rcv (h : c_Hp) (k : Nat) (s : Bool) (as : List Value) : Bool := if s then true else match as with
  | .ref a :: _ => (c_fs h a k).isSome
  | _ => false
def c_cn (q : c_I) : Nat := if c_isS q then q.2.2.1 else q.2.2.1 + 1
/-- a call's parts: arguments (the receiver first), and what stays -/
def c_prt (md : c_M) (q : c_I) (st : List Value) (h : c_Hp) : Option (List Value × List Value) :=
  if st.length < c_cn q then none else
    let as := (st.take (c_cn q)).reverse
    let rest := st.drop (c_cn q)
    if (rest.map fun v => v.category).sum ≤ 8 then if c_rcv h (c_mk md) (c_isS q) as then if (c_ent as (c_mL md)).length = c_mL md then some (as, rest) else none else none else none
def c_go (P : List c_M) (ty : Nat → Nat → FieldType) (nf : Nat → Nat) (X : List Int32) : Nat → Nat → Nat → c_Ls → List Value → c_Hp → Option (c_O × c_Hp)
  | 0, _, _, _, _, _ => none
  | n + 1, k, pc, L, st, h => match P[k]? with
    | none => none
    | some md => match c_at pc (c_mi md) with
      | none => none
      | some q => match c_kd q with
        | 0 => match c_stp ty nf X q pc L st h with
          | some r => c_go P ty nf X n k r.1 r.2.1 r.2.2.1 r.2.2.2
          | none => none
        | 1 => match st, c_mr md with
          | [.int x], some t => if narrow t (.int x) = .int x then some (.inl (some (.int x)), h) else none
          | _, _ => none
        | 2 => match st, c_mr md with
          | [], none => some (.inl none, h)
          | _, _ => none
        | 4 => match P[q.2.1]? with
          | none => none
          | some mz => match c_prt mz q st h with
            | none => none
            | some ar => match c_go P ty nf X n q.2.1 0 (c_ent ar.1 (c_mL mz)) [] h with
              | some (.inl v, h1) => c_go P ty nf X n k (pc + 3) L (v.toList ++ ar.2) h1
              | some (.inr E, h1) => match c_cat pc E (c_mx md) with
                | some w => c_go P ty nf X n k (((c_mh md).getD w.1 (0, 0, 0, 0)).2.2.1 + w.2.2) ((c_clr L w.2.1).set w.2.1 none) [] h1
                | none => if (c_mh md).isEmpty then some (.inr E, h1) else none
              | none => none
        | 5 => if (c_mh md).isEmpty && decide ((st.map fun v => v.category).sum ≤ 8) then some (.inr q.2.1, h ++ [none]) else none
        | _ => none
end
section
/-- a value here, as the machine has it: places from base on, the script at b -/
def c_v (base b : Nat) : Value → Value
  | .ref i => .ref (base + i)
  | .retAddr _ => .ref b
  | v => v
theorem c_v_cat (base b : Nat) (v : Value) : (c_v base b v).category = v.category := by cases v <;> rfl
theorem c_v_cats (base b : Nat) (l : List Value) : ((l.map (c_v base b)).map fun v => v.category) = l.map fun v => v.category := by
  rw [List.map_map]
  exact List.map_congr_left fun v _ => c_v_cat base b v
def c_cell (D : va_G) (A : Nat → ClassId) (base b i : Nat) (x : (Nat × List Value) ⊕ (Nat × List Value)) (H : Heap) : Prop := match x with
  | .inl q => ∃ r : vw_C, c_cl[q.1]? = some r ∧ q.2.length = r.2.2 ∧ t_OB (base + i) (D.1 q.1) r.2.2 (D.2 q.1) H (vp_V (q.2.map (c_v base b)))
  | .inr q => q.1 < 3 ∧ H[base + i]? = some (arrV (A q.1) q.2.length (vp_V (q.2.map (c_v base b))))
def c_HR (D : va_G) (A : Nat → ClassId) (H0 : Heap) (base b : Nat) (h : c_Hp) (H : Heap) : Prop :=
  base = H0.size ∧ H.size = base + h.length ∧ (∀ q, q < base → H[q]? = H0[q]?) ∧ ∀ i x, h[i]? = some (some x) → c_cell D A base b i x H
def c_LR (base b : Nat) (ls : Array Slot) (nL : Nat) (L : c_Ls) : Prop := L.length = nL ∧ ls.size = nL ∧ lv_wf ls ∧ ∀ (i : Nat) (v : Value), L[i]? = some (some v) → ls[i]? = some (.val (c_v base b v))
theorem c_cell.kept {D : va_G} {A : Nat → ClassId} {base b i : Nat} {x : (Nat × List Value) ⊕ (Nat × List Value)} {H H1 : Heap} (h : c_cell D A base b i x H) (hq : H1[base + i]? = H[base + i]?) : c_cell D A base b i x H1 := by
  rcases x with q | q
  · obtain ⟨r, h1, h2, h3⟩ := h
    exact ⟨r, h1, h2, h3.kept hq⟩
  · exact ⟨h.1, by rw [hq]; exact h.2⟩
theorem c_HR.lt {D : va_G} {A : Nat → ClassId} {H0 : Heap} {base b : Nat} {h : c_Hp} {H : Heap} (R : c_HR D A H0 base b h H) {i : Nat} (hi : i < h.length) : base + i < H.size := by
  rw [R.2.1]; omega
theorem c_HR.set {D : va_G} {A : Nat → ClassId} {H0 : Heap} {base b : Nat} {h : c_Hp} {H H1 : Heap} (R : c_HR D A H0 base b h H) {i : Nat} {x : (Nat × List Value) ⊕ (Nat × List Value)} (hz : H1.size = H.size) (ho : ∀ q, q ≠ base + i → H1[q]? = H[q]?) (hx : c_cell D A base b i x H1) : c_HR D A H0 base b (h.set i (some x)) H1 := by
  obtain ⟨r1, r2, r3, r4⟩ := R
  refine ⟨r1, by rw [hz, r2, List.length_set], fun q hq => by rw [ho q (by omega)]; exact r3 q hq, fun j y hy => ?_⟩
  by_cases e : j = i
  · subst e
    rw [List.getElem?_set] at hy
    simp only [if_true] at hy
    split at hy
    · cases hy; exact hx
    · cases hy
  · rw [List.getElem?_set_ne (fun z => e z.symm)] at hy
    exact (r4 j y hy).kept (ho _ (by omega))
theorem c_HR.push {D : va_G} {A : Nat → ClassId} {H0 : Heap} {base b : Nat} {h : c_Hp} {H H1 : Heap} (R : c_HR D A H0 base b h H) {x : c_Cell} (hz : H1.size = H.size + 1) (ho : ∀ q, q < H.size → H1[q]? = H[q]?) (hx : ∀ y, x = some y → c_cell D A base b h.length y H1) : c_HR D A H0 base b (h ++ [x]) H1 := by
  obtain ⟨r1, r2, r3, r4⟩ := R
  refine ⟨r1, by rw [hz, r2, List.length_append]; rfl, fun q hq => by rw [ho q (by omega)]; exact r3 q hq, fun j y hy => ?_⟩
  by_cases e : j < h.length
  · rw [List.getElem?_append_left e] at hy
    exact (r4 j y hy).kept (ho _ (by rw [r2]; omega))
  · rw [List.getElem?_append_right (by omega)] at hy
    have e2 : j = h.length := by
      have := (List.getElem?_eq_some_iff.mp hy).1
      simp at this
      omega
    subst e2
    rw [Nat.sub_self] at hy
    exact hx y (by simpa using hy)
theorem c_LR.at {base b : Nat} {ls : Array Slot} {nL : Nat} {L : c_Ls} (h : c_LR base b ls nL L) {i : Nat} {v : Value} (hi : L[i]? = some (some v)) : ls[i]? = some (.val (c_v base b v)) := h.2.2.2 i v hi
def c_al (base b : Nat) (L : c_Ls) : List (Nat × Value) := (List.range L.length).filterMap (fun i => match L[i]? with
  | some (some v) => some (i, c_v base b v)
  | _ => none)
theorem c_al_mem {base b : Nat} {L : c_Ls} {i : Nat} {v : Value} (h : L[i]? = some (some v)) : (i, c_v base b v) ∈ c_al base b L := by
  unfold c_al
  refine List.mem_filterMap.mpr ⟨i, List.mem_range.mpr (List.getElem?_eq_some_iff.mp h).1, ?_⟩
  rw [h]
theorem c_al_of {base b : Nat} {L : c_Ls} {q : Nat × Value} (h : q ∈ c_al base b L) : ∃ v, L[q.1]? = some (some v) ∧ q.2 = c_v base b v := by
  unfold c_al at h
  obtain ⟨i, -, hi⟩ := List.mem_filterMap.mp h
  split at hi
  · rename_i v hv
    cases hi
    exact ⟨v, hv, rfl⟩
  · cases hi
theorem c_LR.has {base b : Nat} {ls : Array Slot} {nL : Nat} {L : c_Ls} (h : c_LR base b ls nL L) : lv_has ls nL (c_al base b L) := by
  refine ⟨h.2.1, h.2.2.1, fun q hq => ?_⟩
  obtain ⟨v, h1, h2⟩ := c_al_of hq
  rw [h2]
  exact h.2.2.2 _ _ h1
theorem c_clr_len (L : c_Ls) (i : Nat) : (c_clr L i).length = L.length := by
  unfold c_clr
  split
  · rfl
  · split
    · split
      · simp
      · rfl
    · rfl
theorem c_set_len (L : c_Ls) (i : Nat) (v : Value) : (c_set L i v).length = L.length := by
  unfold c_set
  rw [List.length_set, c_clr_len]
theorem c_clr_get {L : c_Ls} {i j : Nat} {w : Value} (hj : j ≠ i) (h : (c_clr L i)[j]? = some (some w)) : L[j]? = some (some w) ∧ ¬ (j + 1 = i ∧ w.category = 2) := by
  unfold c_clr at h
  cases i with
  | zero => exact ⟨h, fun q => by omega⟩
  | succ k =>
    simp only at h
    by_cases e : j = k
    · subst e
      cases hk : L[j]? with
      | none => rw [hk] at h; simp only at h; rw [hk] at h; cases h
      | some o =>
        cases o with
        | none => rw [hk] at h; simp only at h; rw [hk] at h; cases h
        | some u =>
          rw [hk] at h
          simp only at h
          split at h
          · rw [List.getElem?_set] at h
            simp only [if_true] at h
            split at h <;> cases h
          · rename_i hc
            rw [hk] at h
            cases h
            exact ⟨rfl, fun q => hc q.2⟩
    · have e2 : L[j]? = some (some w) := by
        split at h
        · split at h
          · rw [List.getElem?_set_ne (fun z => e z.symm)] at h; exact h
          · exact h
        · exact h
      exact ⟨e2, fun q => e (by omega)⟩
/-- behind a store -/
theorem c_LR.stored {base b : Nat} {ls ls' : Array Slot} {nL : Nat} {L : c_Ls} (h : c_LR base b ls nL L) {i : Nat} {v : Value} (hi : i < nL) (h' : lv_has ls' nL ((i, c_v base b v) :: (c_al base b L).filter (fun q => !(q.1 == i) && !(q.1 + 1 == i && q.2.category == 2)))) : c_LR base b ls' nL (c_set L i v) := by
  refine ⟨by rw [c_set_len]; exact h.1, h'.1, h'.2.1, fun j w hw => ?_⟩
  by_cases e : j = i
  · subst e
    unfold c_set at hw
    rw [List.getElem?_set] at hw
    simp only [if_true] at hw
    split at hw
    · cases hw
      exact h'.2.2 _ List.mem_cons_self
    · cases hw
  · unfold c_set at hw
    rw [List.getElem?_set_ne (fun z => e z.symm)] at hw
    obtain ⟨h1, h2⟩ := c_clr_get e hw
    refine h'.2.2 (j, c_v base b w) (List.mem_cons_of_mem _ (List.mem_filter.mpr ⟨c_al_mem h1, ?_⟩))
    have e3 : (c_v base b w).category = w.category := c_v_cat base b w
    simp only [e3]
    by_cases e4 : j + 1 = i
    · have e5 : ¬ w.category = 2 := fun z => h2 ⟨e4, z⟩
      simp [e, e5]
    · simp [e, e4]
theorem c_LR.forgot {base b : Nat} {ls : Array Slot} {nL : Nat} {L : c_Ls} (h : c_LR base b ls nL L) (i : Nat) : c_LR base b ls nL (L.set i none) := by
  refine ⟨by rw [List.length_set]; exact h.1, h.2.1, h.2.2.1, fun j w hw => ?_⟩
  rw [List.getElem?_set] at hw
  split at hw
  · split at hw <;> cases hw
  · exact h.2.2.2 j w hw
theorem c_okv_ok {t : FieldType} {v : Value} {base b : Nat} (h : c_okv t v = true) : narrow t (c_v base b v) = c_v base b v ∧ fits t (c_v base b v) = true := by
  unfold c_okv at h
  rw [Bool.and_eq_true, decide_eq_true_eq] at h
  obtain ⟨h1, h2⟩ := h
  cases v <;> first | exact ⟨h2, h1⟩ | (cases t <;> first | exact ⟨rfl, rfl⟩ | (simp [fits] at h1))
theorem c_fs_ok {h : c_Hp} {a k : Nat} {fs : List Value} (e : c_fs h a k = some fs) : h[a]? = some (some (.inl (k, fs))) := by
  unfold c_fs at e
  split at e
  · rename_i q hq
    split at e
    · rename_i hk
      cases e
      obtain ⟨k1, f1⟩ := q
      cases hk
      exact hq
    · cases e
  · cases e
theorem c_vs_ok {h : c_Hp} {a k : Nat} {vs : List Value} (e : c_vs h a k = some vs) : h[a]? = some (some (.inr (k, vs))) := by
  unfold c_vs at e
  split at e
  · rename_i q hq
    split at e
    · rename_i hk
      cases e
      obtain ⟨k1, f1⟩ := q
      cases hk
      exact hq
    · cases e
  · cases e
theorem c_ix_ok {i : Int32} {n j : Nat} (e : c_ix i n = some j) : ¬ i < 0 ∧ i.toNatClampNeg = j ∧ j < n := by
  unfold c_ix at e
  split at e
  · cases e
  · split at e
    · cases e; exact ⟨by assumption, rfl, by assumption⟩
    · cases e
end
section
def c_ng : Cond → Bool
  | .fieldLinkNest .. => true
  | .methodLinkNest .. => true
  | .declares _ => true
  | .castable .. => true
  | _ => false
theorem c_ng_warm {w : Cond} {s U : State} (h : c_ng w = true) (hW : s.WarmedH U.vm) (hZ : va_Nw w s) : va_Nw w U := by
  cases w <;> first | exact va_Nw.warmF hW hZ | exact va_Nw.warmM hW hZ | exact va_Nw.warmD hW hZ | exact va_Nw.warmC hW hZ | (simp [c_ng] at h)
theorem c_ng_on {w : Cond} (h : c_ng w = true) : w.onTables = true := by
  cases w <;> first | rfl | (simp [c_ng] at h)
def c_Fac (D : va_G) (A : Nat → ClassId) (s : State) : Prop :=
  va_K D c_cl [] s ∧ (∀ t, t < 3 → ArrOfT s (A t) (c_tag t) ∧ s.vm.findClass ("[" ++ (c_tag t).toString) = some (A t)) ∧ (∀ w ∈ lw_tbl, c_ng w = true → va_Nw w s) ∧
  (∀ (own : String) (k : Nat) (tx : String), Cond.stringRef own k tx ∈ lw_tbl → ∃ sa, vk_R own k tx sa s) ∧ (∀ q ∈ c_NC, va_Nc q.1 q.2 s) ∧ (Cond.arrayOver (.array .int)).before #[] s = true
theorem c_Fac.moved {D : va_G} {A : Nat → ClassId} {s U : State} (h : c_Fac D A s) (hW : s.WarmedH U.vm) : c_Fac D A U := by
  obtain ⟨h1, h2, h3, h4, h5, h6⟩ := h
  refine ⟨va_K.moved hW.alike h1, fun t ht => ⟨arrOfT_moved hW.alike (h2 t ht).1, by rw [hW.alike.findClass]; exact (h2 t ht).2⟩, fun w hw hn => c_ng_warm hn hW (h3 w hw hn), fun own k tx hk => ?_, fun q hq => va_Nc.moved hW.alike (h5 q hq), Stand.arrayOver_alikeB hW.alike h6⟩
  obtain ⟨sa, hsa⟩ := h4 own k tx hk
  exact ⟨sa, vk_R.warm hW hsa⟩
def c_w (i : Nat) (w : Cond) : Bool := match lw_tbl[i]? with
  | some z => decide (z = w) && goodWord w
  | none => false
def c_n (i : Nat) (w : Cond) : Bool := match lw_tbl[i]? with
  | some z => decide (z = w) && c_ng w
  | none => false
theorem c_w_ok {i : Nat} {w : Cond} (h : c_w i w = true) : w ∈ lw_tbl ∧ goodWord w = true := by
  unfold c_w at h
  split at h
  · rename_i z hz
    rw [Bool.and_eq_true, decide_eq_true_eq] at h
    obtain ⟨rfl, h2⟩ := h
    exact ⟨List.mem_of_getElem? hz, h2⟩
  · cases h
theorem c_n_ok {i : Nat} {w : Cond} (h : c_n i w = true) : w ∈ lw_tbl ∧ c_ng w = true := by
  unfold c_n at h
  split at h
  · rename_i z hz
    rw [Bool.and_eq_true, decide_eq_true_eq] at h
    obtain ⟨rfl, h2⟩ := h
    exact ⟨List.mem_of_getElem? hz, h2⟩
  · cases h
def c_len : Instr → Nat
  | .bipush _ => 2
  | .sipush _ => 3
  | .ldc _ => 2
  | .ldc_w _ => 3
  | .iload _ => 2
  | .fload _ => 2
  | .aload _ => 2
  | .istore _ => 2
  | .fstore _ => 2
  | .astore _ => 2
  | .iinc _ _ => 3
  | .if_icmp _ _ => 3
  | .ifCond _ _ => 3
  | .goto _ => 3
  | .getfield _ => 3
  | .putfield _ => 3
  | .new _ => 3
  | .newarray _ => 2
  | .multianewarray _ _ => 4
  | .checkcast _ => 3
  | .invokespecial _ => 3
  | .invokestatic _ => 3
  | .invokevirtual _ => 3
  | _ => 1
def c_okFld (own : String) (i : Nat) (q : c_I) (ix : List Nat) (r : vw_C) : Bool :=
  decide (q.2.2.1 < r.2.2) && (if q.2.2.2 = 0 then c_w (ix.getD 0 0) (.fieldLink own i (r.2.1 q.2.2.1).1 (r.2.1 q.2.2.1).2.1 (r.2.1 q.2.2.1).2.2.1) else c_n (ix.getD 0 0) (.fieldLinkNest own i (r.2.1 q.2.2.1).1 (r.2.1 q.2.2.1).2.1 (r.2.1 q.2.2.1).2.2.1 c_host))
/-- what is looked at ahead of a run: the instruction stands there, its words stand in the tables at the places ix -/
def c_okJ (own : String) (ini : Bool) (F R : Nat) (pc : Nat) (q : c_I) (ix : List Nat) : Bool := match q.1 with
  | .if_icmp _ off => decide ((pc : Int) + off = (q.2.1 : Int))
  | .ifCond _ off => decide ((pc : Int) + off = (q.2.1 : Int))
  | .goto off => decide ((pc : Int) + off = (q.2.1 : Int))
  | .getfield i => match c_cl[q.2.1]? with
    | some r => c_okFld own i q ix r
    | none => false
  | .putfield i => match c_cl[q.2.1]? with
    | some r => c_okFld own i q ix r && (!(r.2.1 q.2.2.1).2.2.2 || (ini && decide ((r.2.1 q.2.2.1).1 = own) && decide (q.2.2.2 = 0)))
    | none => false
  | .ldc i => if q.2.2.2 = 0 then c_w (ix.getD 0 0) (.constant own i (Int32.ofNat q.2.1)) else c_w (ix.getD 0 0) (.constantFloat own i (UInt32.ofNat q.2.1))
  | .ldc_w i => if q.2.2.2 = 0 then c_w (ix.getD 0 0) (.constant own i (Int32.ofNat q.2.1)) else c_w (ix.getD 0 0) (.constantFloat own i (UInt32.ofNat q.2.1))
  | .new i => if q.2.2.2 = 1 then true else match c_cl[q.2.1]? with
    | some r => c_w (ix.getD 0 0) (.classLink own i r.1) && c_w (ix.getD 1 0) (.instantiable r.1 r.2.2) && c_w (ix.getD 2 0) (.initialized r.1)
    | none => false
  | .newarray t => decide (Jvm.Op.newarray.typeOf t = c_tag q.2.1) && decide (q.2.1 < 2) && c_w (ix.getD 0 0) (.arrayClass (c_tag q.2.1))
  | .multianewarray i d => decide (d = 2) && c_w (ix.getD 0 0) (.classLink own i "[[I") && c_w (ix.getD 1 0) (.arrayClass .int)
  | .checkcast i => decide (q.2.1 < 3) && c_w (ix.getD 0 0) (.classLink own i ("[" ++ (c_tag q.2.1).toString))
  | .arraylength => decide (q.2.1 < 3)
  | .invokespecial i => if q.2.2.2 = 6 then c_w (ix.getD 0 0) (.methodLink own i objectInit) && c_w (ix.getD 1 0) (.instanceMethod objectInit) && c_w (ix.getD 2 0) (.code objectInit ⟨#[0xb1]⟩ 1 none) && decide (1 ≤ F) && decide (30 ≤ R) else decide (q.2.2.2 < 6)
  | .invokestatic i => if q.2.2.2 = 7 then c_w (ix.getD 0 0) (.methodLink own i Lib.Math.max.name) && c_w (ix.getD 1 0) (.static Lib.Math.max.name) && c_w (ix.getD 2 0) (.initialized "java/lang/Math") && c_w (ix.getD 3 0) (.code Lib.Math.max.name Lib.Math.max.code 2 (some .int)) && decide (1 ≤ F) && decide (30 ≤ R)
    else if q.2.2.2 = 8 then c_w (ix.getD 0 0) (.methodLink own i Lib.Math.min.name) && c_w (ix.getD 1 0) (.static Lib.Math.min.name) && c_w (ix.getD 2 0) (.initialized "java/lang/Math") && c_w (ix.getD 3 0) (.code Lib.Math.min.name Lib.Math.min.code 2 (some .int)) && decide (1 ≤ F) && decide (30 ≤ R)
    else if q.2.2.2 = 10 then c_w (ix.getD 0 0) (.methodLink own i ⟨"java/lang/Float", "floatToRawIntBits", "(F)I"⟩) && c_w (ix.getD 1 0) (.native ⟨"java/lang/Float", "floatToRawIntBits", "(F)I"⟩) && c_w (ix.getD 2 0) (.static ⟨"java/lang/Float", "floatToRawIntBits", "(F)I"⟩) && c_w (ix.getD 3 0) (.initialized "java/lang/Float") && decide (1 ≤ F) && decide (30 ≤ R)
    else decide (q.2.2.2 < 6)
  | .invokevirtual i => if q.2.2.2 = 9 then c_w (ix.getD 0 0) (.methodLink own i ⟨"[I", "clone", "()Ljava/lang/Object;"⟩) && c_w (ix.getD 1 0) (.sameMethod "[I" "java/lang/Object" "clone" "()Ljava/lang/Object;") && c_w (ix.getD 2 0) (.native ⟨"java/lang/Object", "clone", "()Ljava/lang/Object;"⟩) && c_w (ix.getD 3 0) (.instanceMethod ⟨"java/lang/Object", "clone", "()Ljava/lang/Object;"⟩) && c_w (ix.getD 4 0) (.selects "[I" ⟨"[I", "clone", "()Ljava/lang/Object;"⟩ ⟨"java/lang/Object", "clone", "()Ljava/lang/Object;"⟩) && c_n (ix.getD 5 0) (.castable "[I" "java/lang/Cloneable") && decide (1 ≤ F) && decide (30 ≤ R)
    else decide (q.2.2.2 < 6)
  | _ => true
def c_okI (own : String) (cc : ByteArray) (ini : Bool) (F R : Nat) (pc : Nat) (q : c_I) (ix : List Nat) : Bool := decide (decode cc pc = .ok (q.1, c_len q.1)) && c_okJ own ini F R pc q ix
section Sim
variable {p : Program} {l : Launch} {e : Env} {R : Room} {s : State} {m : MethodId} {args : Array Value} {below : List Frame} {meth : Method} {c : Code} {Q : State → Prop}
variable {D : va_G} {A : Nat → ClassId} {H0 : Heap} {base b nL n0 z0 : Nat} {X : List Int32}
/-- a frame of the method y (code cc), as it stands while it runs -/
def c_ctx (p : Program) (l : Launch) (R : Room) (s : State) (m : MethodId) (args : Array Value) (meth : Method) (c : Code) (D : va_G) (A : Nat → ClassId) (H0 : Heap) (base b : Nat) (X : List Int32) (y : MethodName) (cc : ByteArray) (nL F Rl : Nat) : Prop :=
  p.tables.exec = Jvm.exec ∧ c.code = cc ∧ c.maxLocals = nL ∧ s.vm.findClass y.cls = some m.cls ∧ (∀ w ∈ lw_tbl, goodWord w = true → w.before args s = true) ∧ c_Fac D A s ∧ meth.locks = false ∧ (y.name = "<init>" → meth.name = "<init>") ∧ F ≤ R.frames ∧ Rl ≤ R.locals ∧
  l.stackTraces = false ∧ (va_X b X.length (fun j => X.getD j 0) s H0 ∧ b < base) ∧ vx_Zq Bundle.tN "UNASSIGNED_STACK" Bundle.steD (fun q => base ≤ q) s H0 ∧ vx_Zq Bundle.tN "SUPPRESSED_SENTINEL" Bundle.listD (fun q => base ≤ q) s H0
/-- the machine comes to Q from wherever this picture holds -/
def c_K (p : Program) (l : Launch) (e : Env) (R : Room) (s : State) (m : MethodId) (args : Array Value) (below : List Frame) (meth : Method) (c : Code) (Q : State → Prop) (D : va_G) (A : Nat → ClassId) (H0 : Heap) (base b nL n0 z0 : Nat) (pc : Nat) (L : c_Ls) (st : List Value) (h : c_Hp) : Prop :=
  ∀ (H : Heap) (locs : List Loc) (cells slots : Nat) (ls : Array Slot), c_HR D A H0 base b h H → c_LR base b ls nL L → (∀ z ∈ locs, base ≤ z.base) → cells + n0 = h.length → slots + z0 = c_msz h → W p l e R s m args below meth c H locs cells slots Q (F0 m pc ls (st.map (c_v base b)))
theorem c_ldcwf {cc : ByteArray} {H : Heap} {locs : List Loc} {cells slots pc : Nat} {ls : Array Slot} {rest : List Value} (hexec : p.tables.exec = Jvm.exec) (hb : c.code = cc) {own : String} {index : Nat} {v : UInt32} (hown : s.vm.findClass own = some m.cls) (hconst : (Jvm.Cond.constantFloat own index v).before args s = true) (hdg : decode cc pc = .ok (.ldc_w index, 3)) (k : W p l e R s m args below meth c H locs cells slots Q (F0 m (pc + 3) ls (.float v :: rest))) : W p l e R s m args below meth c H locs cells slots Q (F0 m pc ls rest) := by
  intro T hT X9
  obtain ⟨t, a, b9⟩ := k T hT X9
  obtain ⟨k9, cf, hk, hcf, hcp⟩ := Cond.constantFloat_spec hown hconst
  obtain ⟨k', hk', he⟩ := X9.warmed.alike.2.2 _ _ hk
  have hdg2 : decode c.code pc = .ok (.ldc_w index, 3) := by rw [hb]; exact hdg
  refine ⟨t, ?_, b9⟩
  jvm_step X9.here [hexec, hdg2, ldc_w.wp_float (s := T) (f := F0 m pc ls rest) X9.here.top hk' (by rw [he]; exact hcf) hcp]
  exact a
theorem c_s1_ok {st : List Value} {f : Int32 → List Value → Option c_R} {r : c_R} (h : c_s1 st f = some r) : ∃ x t, st = .int x :: t ∧ f x t = some r := by
  unfold c_s1 at h
  split at h
  · exact ⟨_, _, rfl, h⟩
  · cases h
theorem c_s2_ok {st : List Value} {f : Int32 → Int32 → List Value → Option c_R} {r : c_R} (h : c_s2 st f = some r) : ∃ x y t, st = .int y :: .int x :: t ∧ f x y t = some r := by
  unfold c_s2 at h
  split at h
  · exact ⟨_, _, _, rfl, h⟩
  · cases h
theorem c_f1_ok {st : List Value} {f : UInt32 → List Value → Option c_R} {r : c_R} (h : c_f1 st f = some r) : ∃ x t, st = .float x :: t ∧ f x t = some r := by
  unfold c_f1 at h
  split at h
  · exact ⟨_, _, rfl, h⟩
  · cases h
theorem c_f2_ok {st : List Value} {f : UInt32 → UInt32 → List Value → Option c_R} {r : c_R} (h : c_f2 st f = some r) : ∃ x y t, st = .float y :: .float x :: t ∧ f x y t = some r := by
  unfold c_f2 at h
  split at h
  · exact ⟨_, _, _, rfl, h⟩
  · cases h
theorem c_iload_n {cc : ByteArray} (hx : p.tables.exec = Jvm.exec) (hb : c.code = cc) {q : Fin 4} {pc : Nat} {L : c_Ls} {st : List Value} {h : c_Hp} {r : c_R} (hd : decode cc pc = .ok (.iload_n q, 1)) (e1 : c_iload L q.val 1 pc st h = some r) (k : c_K p l e R s m args below meth c Q D A H0 base b nL n0 z0 r.1 r.2.1 r.2.2.1 r.2.2.2) : c_K p l e R s m args below meth c Q D A H0 base b nL n0 z0 pc L st h := by
  intro H locs cells slots ls hH hL hlo hc hs
  unfold c_iload at e1
  split at e1
  · rename_i x hv
    cases e1
    exact lv_iload_n hx hb hd rfl (hL.at hv) (k H locs cells slots ls hH hL hlo hc hs)
  · cases e1
theorem c_iload_i {cc : ByteArray} (hx : p.tables.exec = Jvm.exec) (hb : c.code = cc) {i : Nat} {pc : Nat} {L : c_Ls} {st : List Value} {h : c_Hp} {r : c_R} (hd : decode cc pc = .ok (.iload i, 2)) (e1 : c_iload L i 2 pc st h = some r) (k : c_K p l e R s m args below meth c Q D A H0 base b nL n0 z0 r.1 r.2.1 r.2.2.1 r.2.2.2) : c_K p l e R s m args below meth c Q D A H0 base b nL n0 z0 pc L st h := by
  intro H locs cells slots ls hH hL hlo hc hs
  unfold c_iload at e1
  split at e1
  · rename_i x hv
    cases e1
    exact lv_iload hx hb hd (hL.at hv) (k H locs cells slots ls hH hL hlo hc hs)
  · cases e1
theorem c_fload_n {cc : ByteArray} (hx : p.tables.exec = Jvm.exec) (hb : c.code = cc) {q : Fin 4} {pc : Nat} {L : c_Ls} {st : List Value} {h : c_Hp} {r : c_R} (hd : decode cc pc = .ok (.fload_n q, 1)) (e1 : c_fload L q.val 1 pc st h = some r) (k : c_K p l e R s m args below meth c Q D A H0 base b nL n0 z0 r.1 r.2.1 r.2.2.1 r.2.2.2) : c_K p l e R s m args below meth c Q D A H0 base b nL n0 z0 pc L st h := by
  intro H locs cells slots ls hH hL hlo hc hs
  unfold c_fload at e1
  split at e1
  · rename_i x hv
    cases e1
    exact lv_fload_n hx hb hd rfl (hL.at hv) (k H locs cells slots ls hH hL hlo hc hs)
  · cases e1
theorem c_fload_i {cc : ByteArray} (hx : p.tables.exec = Jvm.exec) (hb : c.code = cc) {i : Nat} {pc : Nat} {L : c_Ls} {st : List Value} {h : c_Hp} {r : c_R} (hd : decode cc pc = .ok (.fload i, 2)) (e1 : c_fload L i 2 pc st h = some r) (k : c_K p l e R s m args below meth c Q D A H0 base b nL n0 z0 r.1 r.2.1 r.2.2.1 r.2.2.2) : c_K p l e R s m args below meth c Q D A H0 base b nL n0 z0 pc L st h := by
  intro H locs cells slots ls hH hL hlo hc hs
  unfold c_fload at e1
  split at e1
  · rename_i x hv
    cases e1
    exact lv_fload hx hb hd (hL.at hv) (k H locs cells slots ls hH hL hlo hc hs)
  · cases e1
theorem c_aload_n {cc : ByteArray} (hx : p.tables.exec = Jvm.exec) (hb : c.code = cc) {q : Fin 4} {pc : Nat} {L : c_Ls} {st : List Value} {h : c_Hp} {r : c_R} (hd : decode cc pc = .ok (.aload_n q, 1)) (e1 : c_aload L q.val 1 pc st h = some r) (k : c_K p l e R s m args below meth c Q D A H0 base b nL n0 z0 r.1 r.2.1 r.2.2.1 r.2.2.2) : c_K p l e R s m args below meth c Q D A H0 base b nL n0 z0 pc L st h := by
  intro H locs cells slots ls hH hL hlo hc hs
  unfold c_aload at e1
  split at e1
  · rename_i x hv
    cases e1
    exact lv_aload_n hx hb hd rfl (hL.at hv) (k H locs cells slots ls hH hL hlo hc hs)
  · rename_i x hv
    cases e1
    exact lv_aload_n hx hb hd rfl (hL.at hv) (k H locs cells slots ls hH hL hlo hc hs)
  · cases e1
theorem c_aload_i {cc : ByteArray} (hx : p.tables.exec = Jvm.exec) (hb : c.code = cc) {i : Nat} {pc : Nat} {L : c_Ls} {st : List Value} {h : c_Hp} {r : c_R} (hd : decode cc pc = .ok (.aload i, 2)) (e1 : c_aload L i 2 pc st h = some r) (k : c_K p l e R s m args below meth c Q D A H0 base b nL n0 z0 r.1 r.2.1 r.2.2.1 r.2.2.2) : c_K p l e R s m args below meth c Q D A H0 base b nL n0 z0 pc L st h := by
  intro H locs cells slots ls hH hL hlo hc hs
  unfold c_aload at e1
  split at e1
  · rename_i x hv
    cases e1
    exact lv_aload hx hb hd (hL.at hv) (k H locs cells slots ls hH hL hlo hc hs)
  · rename_i x hv
    cases e1
    exact lv_aload hx hb hd (hL.at hv) (k H locs cells slots ls hH hL hlo hc hs)
  · cases e1
theorem c_istore_n {cc : ByteArray} (hx : p.tables.exec = Jvm.exec) (hb : c.code = cc) {q : Fin 4} {pc : Nat} {L : c_Ls} {st : List Value} {h : c_Hp} {r : c_R} (hd : decode cc pc = .ok (.istore_n q, 1)) (e1 : c_istore L q.val 1 pc st h = some r) (k : c_K p l e R s m args below meth c Q D A H0 base b nL n0 z0 r.1 r.2.1 r.2.2.1 r.2.2.2) : c_K p l e R s m args below meth c Q D A H0 base b nL n0 z0 pc L st h := by
  intro H locs cells slots ls hH hL hlo hc hs
  unfold c_istore at e1
  split at e1
  · rename_i x t
    split at e1
    · rename_i hi
      cases e1
      have hi2 : q.val < nL := by rw [← hL.1]; exact hi
      exact lv_istore_n hx hb hd rfl hL.has hi2 rfl fun ls1 h1 => k H locs cells slots ls1 hH (hL.stored hi2 h1) hlo hc hs
    · cases e1
  · cases e1
theorem c_istore_i {cc : ByteArray} (hx : p.tables.exec = Jvm.exec) (hb : c.code = cc) {i : Nat} {pc : Nat} {L : c_Ls} {st : List Value} {h : c_Hp} {r : c_R} (hd : decode cc pc = .ok (.istore i, 2)) (e1 : c_istore L i 2 pc st h = some r) (k : c_K p l e R s m args below meth c Q D A H0 base b nL n0 z0 r.1 r.2.1 r.2.2.1 r.2.2.2) : c_K p l e R s m args below meth c Q D A H0 base b nL n0 z0 pc L st h := by
  intro H locs cells slots ls hH hL hlo hc hs
  unfold c_istore at e1
  split at e1
  · rename_i x t
    split at e1
    · rename_i hi
      cases e1
      have hi2 : i < nL := by rw [← hL.1]; exact hi
      exact lv_istore hx hb hd hL.has hi2 rfl fun ls1 h1 => k H locs cells slots ls1 hH (hL.stored hi2 h1) hlo hc hs
    · cases e1
  · cases e1
theorem c_fstore_n {cc : ByteArray} (hx : p.tables.exec = Jvm.exec) (hb : c.code = cc) {q : Fin 4} {pc : Nat} {L : c_Ls} {st : List Value} {h : c_Hp} {r : c_R} (hd : decode cc pc = .ok (.fstore_n q, 1)) (e1 : c_fstore L q.val 1 pc st h = some r) (k : c_K p l e R s m args below meth c Q D A H0 base b nL n0 z0 r.1 r.2.1 r.2.2.1 r.2.2.2) : c_K p l e R s m args below meth c Q D A H0 base b nL n0 z0 pc L st h := by
  intro H locs cells slots ls hH hL hlo hc hs
  unfold c_fstore at e1
  split at e1
  · rename_i x t
    split at e1
    · rename_i hi
      cases e1
      have hi2 : q.val < nL := by rw [← hL.1]; exact hi
      exact lv_fstore_n hx hb hd rfl hL.has hi2 rfl fun ls1 h1 => k H locs cells slots ls1 hH (hL.stored hi2 h1) hlo hc hs
    · cases e1
  · cases e1
theorem c_fstore_i {cc : ByteArray} (hx : p.tables.exec = Jvm.exec) (hb : c.code = cc) {i : Nat} {pc : Nat} {L : c_Ls} {st : List Value} {h : c_Hp} {r : c_R} (hd : decode cc pc = .ok (.fstore i, 2)) (e1 : c_fstore L i 2 pc st h = some r) (k : c_K p l e R s m args below meth c Q D A H0 base b nL n0 z0 r.1 r.2.1 r.2.2.1 r.2.2.2) : c_K p l e R s m args below meth c Q D A H0 base b nL n0 z0 pc L st h := by
  intro H locs cells slots ls hH hL hlo hc hs
  unfold c_fstore at e1
  split at e1
  · rename_i x t
    split at e1
    · rename_i hi
      cases e1
      have hi2 : i < nL := by rw [← hL.1]; exact hi
      exact lv_fstore hx hb hd hL.has hi2 rfl fun ls1 h1 => k H locs cells slots ls1 hH (hL.stored hi2 h1) hlo hc hs
    · cases e1
  · cases e1
theorem c_astore_n {cc : ByteArray} (hx : p.tables.exec = Jvm.exec) (hb : c.code = cc) {q : Fin 4} {pc : Nat} {L : c_Ls} {st : List Value} {h : c_Hp} {r : c_R} (hd : decode cc pc = .ok (.astore_n q, 1)) (e1 : c_astore L q.val 1 pc st h = some r) (k : c_K p l e R s m args below meth c Q D A H0 base b nL n0 z0 r.1 r.2.1 r.2.2.1 r.2.2.2) : c_K p l e R s m args below meth c Q D A H0 base b nL n0 z0 pc L st h := by
  intro H locs cells slots ls hH hL hlo hc hs
  unfold c_astore at e1
  split at e1
  · rename_i x t
    split at e1
    · rename_i hi
      cases e1
      have hi2 : q.val < nL := by rw [← hL.1]; exact hi
      exact lv_astore_n hx hb hd rfl hL.has hi2 rfl fun ls1 h1 => k H locs cells slots ls1 hH (hL.stored hi2 h1) hlo hc hs
    · cases e1
  · cases e1
theorem c_astore_i {cc : ByteArray} (hx : p.tables.exec = Jvm.exec) (hb : c.code = cc) {i : Nat} {pc : Nat} {L : c_Ls} {st : List Value} {h : c_Hp} {r : c_R} (hd : decode cc pc = .ok (.astore i, 2)) (e1 : c_astore L i 2 pc st h = some r) (k : c_K p l e R s m args below meth c Q D A H0 base b nL n0 z0 r.1 r.2.1 r.2.2.1 r.2.2.2) : c_K p l e R s m args below meth c Q D A H0 base b nL n0 z0 pc L st h := by
  intro H locs cells slots ls hH hL hlo hc hs
  unfold c_astore at e1
  split at e1
  · rename_i x t
    split at e1
    · rename_i hi
      cases e1
      have hi2 : i < nL := by rw [← hL.1]; exact hi
      exact lv_astore hx hb hd hL.has hi2 rfl fun ls1 h1 => k H locs cells slots ls1 hH (hL.stored hi2 h1) hlo hc hs
    · cases e1
  · cases e1
theorem c_iinc_i {cc : ByteArray} (hx : p.tables.exec = Jvm.exec) (hb : c.code = cc) {i : Nat} {n : Int} {pc : Nat} {L : c_Ls} {st : List Value} {h : c_Hp} {x : Int32} (hd : decode cc pc = .ok (.iinc i n, 3)) (hv : L[i]? = some (some (.int x))) (k : c_K p l e R s m args below meth c Q D A H0 base b nL n0 z0 (pc + 3) (c_set L i (.int (x + Int32.ofInt n))) st h) : c_K p l e R s m args below meth c Q D A H0 base b nL n0 z0 pc L st h := by
  intro H locs cells slots ls hH hL hlo hc hs
  have hi : i < nL := by rw [← hL.1]; exact (List.getElem?_eq_some_iff.mp hv).1
  have hm := c_al_mem (base := base) (b := b) hv
  obtain ⟨w, hw⟩ := List.getElem?_of_mem hm
  exact lv_iinc (v := x + Int32.ofInt n) hx hb hd hL.has hw rfl hi rfl fun ls1 h1 => k H locs cells slots ls1 hH (hL.stored hi h1) hlo hc hs
theorem c_icmp {cc : ByteArray} (hx : p.tables.exec = Jvm.exec) (hb : c.code = cc) {cd : Jvm.ClassFile.Cond} {off : Int} {tgt pc : Nat} {L : c_Ls} {st : List Value} {h : c_Hp} {x y : Int32} (hd : decode cc pc = .ok (.if_icmp cd off, 3)) (ht : (pc : Int) + off = (tgt : Int)) (k : c_K p l e R s m args below meth c Q D A H0 base b nL n0 z0 (if c_cmp cd x y = true then tgt else pc + 3) L st h) : c_K p l e R s m args below meth c Q D A H0 base b nL n0 z0 pc L (.int y :: .int x :: st) h := by
  intro H locs cells slots ls hH hL hlo hc hs
  by_cases z : c_cmp cd x y = true
  · rw [if_pos z] at k
    have k1 := k H locs cells slots ls hH hL hlo hc hs
    cases cd <;> (unfold c_cmp at z; simp only [decide_eq_true_eq] at z)
    · exact lv_icmp_eq hx hb hd ht (fun _ => k1) (fun q => absurd z q)
    · exact lv_icmp_ne hx hb hd ht (fun _ => k1) (fun q => absurd q z)
    · exact lv_icmp_lt hx hb hd ht (fun _ => k1) (fun q => absurd z q)
    · exact lv_icmp_ge hx hb hd ht (fun _ => k1) (fun q => absurd z q)
    · exact lv_icmp_gt hx hb hd ht (fun _ => k1) (fun q => absurd z q)
    · exact lv_icmp_le hx hb hd ht (fun _ => k1) (fun q => absurd z q)
  · rw [if_neg z] at k
    have k1 := k H locs cells slots ls hH hL hlo hc hs
    cases cd <;> (unfold c_cmp at z; simp only [decide_eq_true_eq] at z)
    · exact lv_icmp_eq hx hb hd ht (fun q => absurd q z) (fun _ => k1)
    · exact lv_icmp_ne hx hb hd ht (fun q => absurd q z) (fun _ => k1)
    · exact lv_icmp_lt hx hb hd ht (fun q => absurd q z) (fun _ => k1)
    · exact lv_icmp_ge hx hb hd ht (fun q => absurd q z) (fun _ => k1)
    · exact lv_icmp_gt hx hb hd ht (fun q => absurd q z) (fun _ => k1)
    · exact lv_icmp_le hx hb hd ht (fun q => absurd q z) (fun _ => k1)
theorem c_if {cc : ByteArray} (hx : p.tables.exec = Jvm.exec) (hb : c.code = cc) {cd : Jvm.ClassFile.Cond} {off : Int} {tgt pc : Nat} {L : c_Ls} {st : List Value} {h : c_Hp} {x : Int32} (hd : decode cc pc = .ok (.ifCond cd off, 3)) (ht : (pc : Int) + off = (tgt : Int)) (k : c_K p l e R s m args below meth c Q D A H0 base b nL n0 z0 (if c_cmp cd x 0 = true then tgt else pc + 3) L st h) : c_K p l e R s m args below meth c Q D A H0 base b nL n0 z0 pc L (.int x :: st) h := by
  intro H locs cells slots ls hH hL hlo hc hs
  by_cases z : c_cmp cd x 0 = true
  · rw [if_pos z] at k
    have k1 := k H locs cells slots ls hH hL hlo hc hs
    cases cd <;> (unfold c_cmp at z; simp only [decide_eq_true_eq] at z)
    · exact lv_if_eq hx hb hd ht (fun _ => k1) (fun q => absurd z q)
    · exact lv_if_ne hx hb hd ht (fun _ => k1) (fun q => absurd q z)
    · exact lv_if_lt hx hb hd ht (fun _ => k1) (fun q => absurd z q)
    · exact lv_if_ge hx hb hd ht (fun _ => k1) (fun q => absurd z q)
    · exact lv_if_gt hx hb hd ht (fun _ => k1) (fun q => absurd z q)
    · exact lv_if_le hx hb hd ht (fun _ => k1) (fun q => absurd z q)
  · rw [if_neg z] at k
    have k1 := k H locs cells slots ls hH hL hlo hc hs
    cases cd <;> (unfold c_cmp at z; simp only [decide_eq_true_eq] at z)
    · exact lv_if_eq hx hb hd ht (fun q => absurd q z) (fun _ => k1)
    · exact lv_if_ne hx hb hd ht (fun q => absurd q z) (fun _ => k1)
    · exact lv_if_lt hx hb hd ht (fun q => absurd q z) (fun _ => k1)
    · exact lv_if_ge hx hb hd ht (fun q => absurd q z) (fun _ => k1)
    · exact lv_if_gt hx hb hd ht (fun q => absurd q z) (fun _ => k1)
    · exact lv_if_le hx hb hd ht (fun q => absurd q z) (fun _ => k1)
end Sim
end
section
section SimH
variable {p : Program} {l : Launch} {e : Env} {R : Room} {s : State} {m : MethodId} {args : Array Value} {below : List Frame} {meth : Method} {c : Code} {Q : State → Prop}
variable {D : va_G} {A : Nat → ClassId} {H0 : Heap} {base b nL n0 z0 F Rl : Nat} {X : List Int32} {y : MethodName} {cc : ByteArray} {ini : Bool} {pc : Nat} {q : c_I} {ix : List Nat} {L : c_Ls} {st : List Value} {h : c_Hp} {r : c_R}
theorem c_uws {C : String} {T : u_T} {N : Nat} : ∀ w ∈ u_ws C T N, goodWord w = true := by
  intro w hw
  obtain ⟨k, -, rfl⟩ := List.mem_map.mp hw
  unfold u_lay
  split <;> rfl
theorem c_msz_set {h : c_Hp} {a : Nat} {x y : c_Cell} (hx : h[a]? = some x) (e : c_sz x = c_sz y) : c_msz (h.set a y) = c_msz h := by
  unfold c_msz
  induction h generalizing a with
  | nil => cases hx
  | cons z t ih =>
    cases a with
    | zero =>
      have : z = x := by simpa using hx
      subst this
      simp [e]
    | succ a =>
      have hx' : t[a]? = some x := by simpa using hx
      have := ih hx'
      simp only [List.set_cons_succ, List.map_cons, List.sum_cons] at this ⊢
      rw [this]
theorem c_msz_app (h : c_Hp) (x : c_Cell) : c_msz (h ++ [x]) = c_msz h + c_sz x := by
  unfold c_msz
  simp
theorem c_arrV_congr {cA : ClassId} {N : Nat} {f g : Nat → Value} (h : ∀ j, j < N → f j = g j) : arrV cA N f = arrV cA N g := by
  unfold arrV
  congr 1
  apply Array.ext
  · simp
  · intro i h1 h2
    simp only [Array.getElem_ofFn]
    exact h i (by simpa using h1)
theorem c_P1 {i : Nat} {k : Nat} {fs : List Value} {H : Heap} (hc : c_cell D A base b i (.inl (k, fs)) H) : va_P D c_cl [(base + i, .inr (k, fs.map (c_v base b)))] H := by
  intro j z hz
  cases j with
  | zero =>
    cases hz
    obtain ⟨r, h1, -, h3⟩ := hc
    exact ⟨r, h1, h3⟩
  | succ j => cases hz
theorem c_getf_i (C : c_ctx p l R s m args meth c D A H0 base b X y cc nL F Rl) {i : Nat} (hq : q.1 = .getfield i) (hd : decode cc pc = .ok (.getfield i, 3)) (ok : c_okJ y.cls ini F Rl pc q ix = true) (e1 : c_getf q pc L st h = some r) (k : c_K p l e R s m args below meth c Q D A H0 base b nL n0 z0 r.1 r.2.1 r.2.2.1 r.2.2.2) : c_K p l e R s m args below meth c Q D A H0 base b nL n0 z0 pc L st h := by
  intro H locs cells slots ls hH hL hlo hc hs
  obtain ⟨hx, hb, -, hown, hts, ⟨hK, -, hng, -⟩, -⟩ := C
  unfold c_getf at e1
  split at e1
  · rename_i a t
    split at e1
    · rename_i fs hfs
      split at e1
      · rename_i v hv
        cases e1
        obtain ⟨rr, g1, g2, g3⟩ := hH.2.2.2 a _ (c_fs_ok hfs)
        have hP := c_P1 (hH.2.2.2 a _ (c_fs_ok hfs))
        obtain ⟨hin, -, -, -⟩ := c_cl_ok _ _ g1
        have hts2 : ∀ w ∈ u_ws rr.1 rr.2.1 rr.2.2, w.before args s = true := fun w hw => hts w (hin w hw) (c_uws w hw)
        unfold c_okJ at ok
        simp only [hq] at ok
        simp only at g1
        rw [g1] at ok
        simp only [c_okFld, Bool.and_eq_true, decide_eq_true_eq] at ok
        obtain ⟨ok1, ok2⟩ := ok
        have hv2 : (fs.map (c_v base b))[q.2.2.1]? = some (c_v base b v) := by rw [List.getElem?_map, hv]; rfl
        split at ok2
        · obtain ⟨w1, w2⟩ := c_w_ok ok2
          exact va_get hx hb hts2 (fun w hw => hw) hown hK hP 0 rfl g1 q.2.2.1 ok1 (hts _ w1 w2) (fun x hx => hx) hv2 hd (k H locs cells slots ls hH hL hlo hc hs)
        · obtain ⟨w1, w2⟩ := c_n_ok ok2
          exact va_getN hx hb hts2 (fun w hw => hw) hown hK hP 0 rfl g1 q.2.2.1 ok1 (va_Nw.use rfl (hng _ w1 w2)) (fun x hx => hx) hv2 hd (k H locs cells slots ls hH hL hlo hc hs)
      · cases e1
    · cases e1
  · cases e1
theorem c_putf_i (C : c_ctx p l R s m args meth c D A H0 base b X y cc nL F Rl) {i : Nat} (hini : ini = true → y.name = "<init>") (hq : q.1 = .putfield i) (hd : decode cc pc = .ok (.putfield i, 3)) (ok : c_okJ y.cls ini F Rl pc q ix = true) (e1 : c_putf c_ty q pc L st h = some r) (k : c_K p l e R s m args below meth c Q D A H0 base b nL n0 z0 r.1 r.2.1 r.2.2.1 r.2.2.2) : c_K p l e R s m args below meth c Q D A H0 base b nL n0 z0 pc L st h := by
  intro H locs cells slots ls hH hL hlo hc hs
  obtain ⟨hx, hb, -, hown, hts, ⟨hK, -, hng, -⟩, -, hnm9, -⟩ := C
  unfold c_putf at e1
  split at e1
  · rename_i v a t
    split at e1
    · rename_i fs hfs
      split at e1
      · rename_i hokv
        split at e1
        · rename_i hlt
          cases e1
          obtain ⟨hn, hfit⟩ := c_okv_ok (base := base) (b := b) hokv
          obtain ⟨rr, g1, g2, g3⟩ := hH.2.2.2 a _ (c_fs_ok hfs)
          simp only at g1 g2 g3
          obtain ⟨C9, T, N⟩ := rr
          obtain ⟨hin, hty, hnm, -⟩ := c_cl_ok _ _ g1
          have hts2 : ∀ w ∈ u_ws C9 T N, w.before args s = true := fun w hw => hts w (hin w hw) (c_uws w hw)
          unfold c_okJ at ok
          simp only [hq] at ok
          rw [g1] at ok
          simp only [c_okFld, Bool.and_eq_true, decide_eq_true_eq] at ok
          obtain ⟨⟨hk, ok2⟩, ok3⟩ := ok
          have hap := va_apart (own := y.cls) hts2 (fun w hw => hw) (c_ty q.2.1) hty hnm hK g1
          obtain ⟨cell, q1, q2, q3, q4⟩ := g3
          obtain ⟨hS, hfc, kC, hkC, hkind⟩ := hK.1 q.2.1 _ g1
          obtain ⟨cf, kf, fi, f, hi, hsl⟩ := hS q.2.2.1 hk
          have hlay := hts2 _ (u_in_lay hk)
          have hlays := u_lays hts2 (fun w hw => hw) hk
          unfold u_lay at hlay
          have hst := (u_facts hfc hkC hlays hi).1
          have hl2 : q.2.2.1 < (fs.map (c_v base b)).length := by rw [List.length_map]; exact hlt
          have fin : ∀ (H1 : Heap), H1[base + a]? = some (cell.setSlot f.slot (c_v base b v)) → H1.size = H.size → (∀ z, z ≠ base + a → H1[z]? = H[z]?) → W p l e R s m args below meth c H1 (locs ++ [⟨base + a, f.slot⟩]) cells slots Q (F0 m (pc + 3) ls (t.map (c_v base b))) := by
            intro H1 e1 e2 e3
            rw [hsl] at e1
            refine k H1 _ cells slots ls (hH.set (x := .inl (q.2.1, fs.set q.2.2.1 v)) e2 e3 ⟨_, g1, by rw [List.length_set]; exact g2, ?_⟩) hL ?_ (by rw [List.length_set]; exact hc) (by rw [c_msz_set (c_fs_ok hfs)]; exact hs; simp [c_sz])
            · rw [List.map_set]
              exact t_OB.to (V := updV (vp_V (fs.map (c_v base b))) q.2.2.1 (c_v base b v)) ⟨_, e1, q2, q3, t_set q4 hap hk _⟩ (fun j _ => vp_updV_set hl2 _ j)
            · intro z hz
              rcases List.mem_append.mp hz with h1 | h1
              · exact hlo z h1
              · rw [List.mem_singleton.mp h1]; exact Nat.le_add_right _ _
          cases hfin : (T q.2.2.1).2.2.2 with
          | false =>
            rw [if_neg (by rw [hfin]; decide)] at hlay
            have h6 := u_store hfc hkC hkind hlay hi (hty _ hk) hn hfit
            split at ok2
            · obtain ⟨w1, w2⟩ := c_w_ok ok2
              exact W.putK hx hb (f := f) ⟨hown, hts _ w1 w2, ⟨_, _, _, hi⟩, hst⟩ (by rw [q2]; exact h6) q1 q3 (by rw [hsl]; exact k2_hasslot (q4 _ hk)) rfl rfl hd fun H1 e1 e2 e3 => fin H1 e1 e2 e3
            · obtain ⟨w1, w2⟩ := c_n_ok ok2
              exact va_WputK hx hb (f := f) hown (va_Nw.use rfl (hng _ w1 w2)) hi hst (by rw [q2]; exact h6) q1 q3 (by rw [hsl]; exact k2_hasslot (q4 _ hk)) rfl rfl hd fun H1 e1 e2 e3 => fin H1 e1 e2 e3
          | true =>
            rw [if_pos hfin] at hlay
            simp only [hfin, Bool.not_true, Bool.false_or, Bool.and_eq_true, decide_eq_true_eq] at ok3
            obtain ⟨⟨o1, o2⟩, o3⟩ := ok3
            rw [if_pos o3] at ok2
            obtain ⟨w1, w2⟩ := c_w_ok ok2
            have hcf : m.cls = cf := by
              obtain ⟨_, _, c', _, _, _, -, -, hf', -, -, -, hown2, -⟩ := Cond.laysFinal_spec hlay
              have e1 : c' = cf := by have := hi.symm.trans hf'; simp at this; exact this.1.symm
              rw [o2] at hown2
              rw [← e1]; exact Option.some.inj (hown.symm.trans hown2)
            have h6 := u_fits hfc hkC hkind (Or.inr hlay) hi (hty _ hk) hn hfit
            exact W.putFinK hx hb hown (hts _ w1 w2) hi hst hcf (hnm9 (hini o1)) (by rw [q2]; exact h6) q1 q3 (by rw [hsl]; exact k2_hasslot (q4 _ hk)) rfl rfl hd fun H1 e1 e2 e3 => fin H1 e1 e2 e3
        · cases e1
      · cases e1
    · cases e1
  · cases e1
end SimH
end
section
section SimA
variable {p : Program} {l : Launch} {e : Env} {R : Room} {s : State} {m : MethodId} {args : Array Value} {below : List Frame} {meth : Method} {c : Code} {Q : State → Prop}
variable {D : va_G} {A : Nat → ClassId} {H0 : Heap} {base b nL n0 z0 F Rl : Nat} {X : List Int32} {y : MethodName} {cc : ByteArray} {ini : Bool} {pc : Nat} {q : c_I} {ix : List Nat} {L : c_Ls} {st : List Value} {h : c_Hp} {r : c_R}
theorem c_vV {vs : List Value} {j : Nat} {v : Value} (hv : vs[j]? = some v) : vp_V (vs.map (c_v base b)) j = c_v base b v := by
  unfold vp_V
  rw [List.getD_eq_getElem?_getD, List.getElem?_map, hv]
  rfl
theorem c_rd {cA : ClassId} {vs : List Value} {i : Int32} {j : Nat} {v : Value} (hj : i.toNatClampNeg = j) (hv : vs[j]? = some v) : (arrV cA vs.length (vp_V (vs.map (c_v base b)))).slots[i.toNatClampNeg]? = some (c_v base b v) := by
  rw [hj, arrV_read _ _ (List.getElem?_eq_some_iff.mp hv).1, c_vV hv]
theorem c_in {cA : ClassId} {vs : List Value} {f : Nat → Value} {i : Int32} {j : Nat} (h0 : ¬ i < 0) (hj : i.toNatClampNeg = j) (hl : j < vs.length) : ¬ (i < 0 ∨ (arrV cA vs.length f).slots.size ≤ i.toNatClampNeg) := by
  rw [arrV_size, hj]
  intro z
  rcases z with z | z
  · exact h0 z
  · omega
theorem c_arr_set {cA : ClassId} {vs : List Value} {j : Nat} {v : Value} (hl : j < vs.length) : (arrV cA vs.length (vp_V (vs.map (c_v base b)))).setSlot j (c_v base b v) = arrV cA (vs.set j v).length (vp_V ((vs.set j v).map (c_v base b))) := by
  rw [arrV_store, List.length_set, List.map_set]
  congr 1
  exact funext fun i => vp_updV_set (by rw [List.length_map]; exact hl) _ i
theorem c_iald_i (C : c_ctx p l R s m args meth c D A H0 base b X y cc nL F Rl) (hd : decode cc pc = .ok (.iaload, 1)) (e1 : c_iald X pc L st h = some r) (k : c_K p l e R s m args below meth c Q D A H0 base b nL n0 z0 r.1 r.2.1 r.2.2.1 r.2.2.2) : c_K p l e R s m args below meth c Q D A H0 base b nL n0 z0 pc L st h := by
  intro H locs cells slots ls hH hL hlo hc hs
  obtain ⟨hx, hb, -, hown, hts, ⟨hK, hA, -⟩, -, -, -, -, -, ⟨hX, hbb⟩, -⟩ := C
  unfold c_iald at e1
  split at e1
  · rename_i i a t
    split at e1
    · rename_i vs hvs
      split at e1
      · rename_i j hj
        split at e1
        · rename_i x hv
          cases e1
          obtain ⟨-, g2⟩ := hH.2.2.2 a _ (c_vs_ok hvs)
          obtain ⟨j1, j2, j3⟩ := c_ix_ok hj
          exact W.iald (v := .int x) hx hb g2 ((hA 0 (by decide)).1 _ _) (fun z => by cases z) (c_in j1 j2 j3) (c_rd j2 hv) rfl rfl hd (k H locs cells slots ls hH hL hlo hc hs)
        · cases e1
      · cases e1
    · cases e1
  · rename_i i z t
    split at e1
    · rename_i j hj
      split at e1
      · rename_i x hv
        cases e1
        obtain ⟨j1, j2, j3⟩ := c_ix_ok hj
        have hS : va_S (fun q => base ≤ q) H0 H locs := ⟨by rw [hH.2.1, ← hH.1]; exact Nat.le_add_right _ _, fun q hq hz => hH.2.2.1 q (Nat.not_le.mp hz), hlo⟩
        have k1 := k H locs cells slots ls hH hL hlo hc hs
        have hvx : X.getD i.toNatClampNeg 0 = x := by rw [j2, List.getD_eq_getElem?_getD, hv]; rfl
        refine va_sld hx hb hX (by rw [← hH.1]; exact hbb) (Nat.not_le.mpr hbb) hS ?_ hd ?_
        · intro z
          rcases z with z | z
          · exact j1 z
          · rw [j2] at z; omega
        · rw [hvx]; exact k1
      · cases e1
    · cases e1
  · cases e1
theorem c_aald_i (C : c_ctx p l R s m args meth c D A H0 base b X y cc nL F Rl) (hd : decode cc pc = .ok (.aaload, 1)) (e1 : c_aald pc L st h = some r) (k : c_K p l e R s m args below meth c Q D A H0 base b nL n0 z0 r.1 r.2.1 r.2.2.1 r.2.2.2) : c_K p l e R s m args below meth c Q D A H0 base b nL n0 z0 pc L st h := by
  intro H locs cells slots ls hH hL hlo hc hs
  obtain ⟨hx, hb, -, hown, hts, ⟨hK, hA, -⟩, -⟩ := C
  unfold c_aald at e1
  split at e1
  · rename_i i a t
    split at e1
    · rename_i vs hvs
      split at e1
      · rename_i j hj
        split at e1
        · rename_i x hv
          cases e1
          obtain ⟨-, g2⟩ := hH.2.2.2 a _ (c_vs_ok hvs)
          obtain ⟨j1, j2, j3⟩ := c_ix_ok hj
          exact W.aald (ty := .array .int) hx hb g2 ((hA 2 (by decide)).1 _ _) rfl (fun z => by cases z) (c_in j1 j2 j3) (c_rd j2 hv) rfl rfl hd (k H locs cells slots ls hH hL hlo hc hs)
        · cases e1
      · cases e1
    · cases e1
  · cases e1
theorem c_iast_i (C : c_ctx p l R s m args meth c D A H0 base b X y cc nL F Rl) (hd : decode cc pc = .ok (.iastore, 1)) (e1 : c_iast pc L st h = some r) (k : c_K p l e R s m args below meth c Q D A H0 base b nL n0 z0 r.1 r.2.1 r.2.2.1 r.2.2.2) : c_K p l e R s m args below meth c Q D A H0 base b nL n0 z0 pc L st h := by
  intro H locs cells slots ls hH hL hlo hc hs
  obtain ⟨hx, hb, -, hown, hts, ⟨hK, hA, -⟩, -⟩ := C
  unfold c_iast at e1
  split at e1
  · rename_i x i a t
    split at e1
    · rename_i vs hvs
      split at e1
      · rename_i j hj
        cases e1
        obtain ⟨-, g2⟩ := hH.2.2.2 a _ (c_vs_ok hvs)
        obtain ⟨j1, j2, j3⟩ := c_ix_ok hj
        refine W.iast hx hb g2 ((hA 0 (by decide)).1 _ _) (fun z => by cases z) (c_in j1 j2 j3) rfl rfl hd fun H1 e1 e2 e3 => ?_
        rw [j2] at e1 ⊢
        refine k H1 _ cells slots ls (hH.set (x := .inr (0, vs.set j (.int x))) e2 e3 ⟨(show (0 : Nat) < 3 by decide), ?_⟩) hL ?_ (by rw [List.length_set]; exact hc) (by rw [c_msz_set (c_vs_ok hvs)]; exact hs; simp [c_sz])
        · have h9 := c_arr_set (base := base) (b := b) (cA := A 0) (v := .int x) j3
          rw [← h9]; exact e1
        · intro z hz
          rcases List.mem_append.mp hz with h1 | h1
          · exact hlo z h1
          · rw [List.mem_singleton.mp h1]; exact Nat.le_add_right _ _
      · cases e1
    · cases e1
  · cases e1
theorem c_aast_i (C : c_ctx p l R s m args meth c D A H0 base b X y cc nL F Rl) (hd : decode cc pc = .ok (.aastore, 1)) (e1 : c_aast pc L st h = some r) (k : c_K p l e R s m args below meth c Q D A H0 base b nL n0 z0 r.1 r.2.1 r.2.2.1 r.2.2.2) : c_K p l e R s m args below meth c Q D A H0 base b nL n0 z0 pc L st h := by
  intro H locs cells slots ls hH hL hlo hc hs
  obtain ⟨hx, hb, -, hown, hts, ⟨hK, hA, -, -, -, hover⟩, -⟩ := C
  unfold c_aast at e1
  split at e1
  · rename_i x i a t
    split at e1
    · rename_i vs hvs
      split at e1
      · rename_i ws hws
        split at e1
        · rename_i j hj
          cases e1
          obtain ⟨-, g2⟩ := hH.2.2.2 a _ (c_vs_ok hvs)
          obtain ⟨-, g3⟩ := hH.2.2.2 x _ (c_vs_ok hws)
          obtain ⟨j1, j2, j3⟩ := c_ix_ok hj
          obtain ⟨comp, c2, kA, o1, o2, o3, o4⟩ := Cond.arrayOver_specA hover
          have hA0 : comp = A 0 := Option.some.inj (o1.symm.trans (hA 0 (by decide)).2)
          have hA2 : c2 = A 2 := Option.some.inj (o4.symm.trans (hA 2 (by decide)).2)
          subst hA0 hA2
          obtain ⟨-, k0, hk0, -⟩ := (hA 0 (by decide)).1 0 (fun _ => .null)
          refine W.aast hx hb g2 (fun z hz => by cases hz) (fun z => by cases z) o2 o3 rfl hk0 ⟨j1, by rw [arrV_size, j2]; exact j3⟩ g3 (fun z hz => by cases hz) hk0 (va_asg _ _) rfl rfl hd fun H1 e1 e2 e3 => ?_
          rw [j2] at e1 ⊢
          refine k H1 _ cells slots ls (hH.set (x := .inr (2, vs.set j (.ref x))) e2 e3 ⟨(show (2 : Nat) < 3 by decide), ?_⟩) hL ?_ (by rw [List.length_set]; exact hc) (by rw [c_msz_set (c_vs_ok hvs)]; exact hs; simp [c_sz])
          · have h9 := c_arr_set (base := base) (b := b) (cA := A 2) (v := .ref x) j3
            rw [← h9]; exact e1
          · intro z hz
            rcases List.mem_append.mp hz with h1 | h1
            · exact hlo z h1
            · rw [List.mem_singleton.mp h1]; exact Nat.le_add_right _ _
        · cases e1
      · cases e1
    · cases e1
  · cases e1
theorem c_alen_i (C : c_ctx p l R s m args meth c D A H0 base b X y cc nL F Rl) (hq : q.1 = .arraylength) (hd : decode cc pc = .ok (.arraylength, 1)) (ok : c_okJ y.cls ini F Rl pc q ix = true) (e1 : c_alen X q pc L st h = some r) (k : c_K p l e R s m args below meth c Q D A H0 base b nL n0 z0 r.1 r.2.1 r.2.2.1 r.2.2.2) : c_K p l e R s m args below meth c Q D A H0 base b nL n0 z0 pc L st h := by
  intro H locs cells slots ls hH hL hlo hc hs
  obtain ⟨hx, hb, -, hown, hts, ⟨hK, hA, -⟩, -, -, -, -, -, ⟨hX, hbb⟩, -⟩ := C
  unfold c_alen at e1
  split at e1
  · rename_i a t
    split at e1
    · rename_i vs hvs
      cases e1
      obtain ⟨g1, g2⟩ := hH.2.2.2 a _ (c_vs_ok hvs)
      exact W.alen hx hb g2 ((hA _ g1).1 _ _) (by rw [arrV_size]) rfl rfl hd (k H locs cells slots ls hH hL hlo hc hs)
    · cases e1
  · rename_i z t
    cases e1
    have hS : va_S (fun q => base ≤ q) H0 H locs := ⟨by rw [hH.2.1, ← hH.1]; exact Nat.le_add_right _ _, fun q hq hz => hH.2.2.1 q (Nat.not_le.mp hz), hlo⟩
    exact va_slen hx hb hX (by rw [← hH.1]; exact hbb) (Nat.not_le.mpr hbb) hS hd (k H locs cells slots ls hH hL hlo hc hs)
  · cases e1
theorem c_rep_V {n : Nat} {v w : Value} (hw : c_v base b v = w) : ∀ j, j < n → vp_V ((List.replicate n v).map (c_v base b)) j = w := by
  intro j hj
  rw [c_vV (v := v) (by rw [List.getElem?_replicate, if_pos hj]), hw]
theorem c_newa_i (C : c_ctx p l R s m args meth c D A H0 base b X y cc nL F Rl) {t : ArrayType} (hq : q.1 = .newarray t) (hd : decode cc pc = .ok (.newarray t, 2)) (ok : c_okJ y.cls ini F Rl pc q ix = true) (e1 : c_newa q pc L st h = some r) (hr1 : r.2.2.2.length ≤ n0 + R.cells) (hr2 : c_msz r.2.2.2 ≤ z0 + R.slots) (k : c_K p l e R s m args below meth c Q D A H0 base b nL n0 z0 r.1 r.2.1 r.2.2.1 r.2.2.2) : c_K p l e R s m args below meth c Q D A H0 base b nL n0 z0 pc L st h := by
  intro H locs cells slots ls hH hL hlo hc hs
  obtain ⟨hx, hb, -, hown, hts, ⟨hK, hA, -⟩, -⟩ := C
  unfold c_okJ at ok
  simp only [hq, Bool.and_eq_true, decide_eq_true_eq] at ok
  obtain ⟨⟨o1, o2⟩, o3⟩ := ok
  obtain ⟨w1, w2⟩ := c_w_ok o3
  unfold c_newa at e1
  split at e1
  · rename_i n t9
    split at e1
    · cases e1
    · rename_i hn
      split at e1
      · rename_i hn2
        cases e1
        simp only [List.length_append, List.length_cons, List.length_nil, c_msz_app, c_sz, List.length_replicate] at hr1 hr2
        have hbytes : n.toNatClampNeg * componentBytes (Jvm.Op.newarray.typeOf t) ≤ 536870912 := by
          have : componentBytes (Jvm.Op.newarray.typeOf t) ≤ 8 := by cases t <;> decide
          exact Nat.le_trans (Nat.mul_le_mul hn2 this) (by decide)
        refine va_newaK hx hb (by rw [o1]; exact hts _ w1 w2) rfl hd rfl hn rfl hbytes (by omega) (by omega) hH.2.1 fun H1 cA e1 e2 e3 e4 e5 => ?_
        have hcA : cA = A q.2.1 := by
          rw [o1] at e5
          exact Option.some.inj (e5.symm.trans (hA _ (by omega)).2)
        subst hcA
        refine k H1 locs _ _ ls (hH.push (x := some (.inr (q.2.1, List.replicate n.toNatClampNeg (defaultValue (c_tag q.2.1))))) (by rw [e2, hH.2.1]) (fun z hz => e3 z (by rw [← hH.2.1]; exact hz)) (fun y9 hy9 => ?_)) hL hlo (by simp; omega) (by rw [c_msz_app]; simp [c_sz]; omega)
        cases hy9
        refine ⟨by show q.2.1 < 3; omega, ?_⟩
        rw [e1, o1]
        simp only [List.length_replicate]
        congr 1
        refine c_arrV_congr fun j hj => (c_rep_V ?_ j hj).symm
        rcases (show q.2.1 = 0 ∨ q.2.1 = 1 by omega) with h9 | h9 <;> rw [h9] <;> rfl
      · cases e1
  · cases e1
theorem c_new_i (C : c_ctx p l R s m args meth c D A H0 base b X y cc nL F Rl) {i : Nat} (hq : q.1 = .new i) (hq2 : ¬ q.2.2.2 = 1) (hd : decode cc pc = .ok (.new i, 3)) (ok : c_okJ y.cls ini F Rl pc q ix = true) (hr1 : h.length + 1 ≤ n0 + R.cells) (hr2 : c_msz h + c_nf q.2.1 ≤ z0 + R.slots) (k : c_K p l e R s m args below meth c Q D A H0 base b nL n0 z0 (pc + 3) L (.ref h.length :: st) (h ++ [some (.inl (q.2.1, c_dfl c_ty q.2.1 (c_nf q.2.1)))])) : c_K p l e R s m args below meth c Q D A H0 base b nL n0 z0 pc L st h := by
  intro H locs cells slots ls hH hL hlo hc hs
  obtain ⟨hx, hb, -, hown, hts, ⟨hK, hA, -⟩, -⟩ := C
  unfold c_okJ at ok
  simp only [hq] at ok
  rw [if_neg hq2] at ok
  split at ok
  · rename_i rr g1
    simp only [Bool.and_eq_true] at ok
    obtain ⟨⟨o1, o2⟩, o3⟩ := ok
    obtain ⟨u1, u2⟩ := c_w_ok o1
    obtain ⟨v1, v2⟩ := c_w_ok o2
    obtain ⟨w1, w2⟩ := c_w_ok o3
    obtain ⟨C9, T, N⟩ := rr
    obtain ⟨hin, hty, hnm, hnf⟩ := c_cl_ok _ _ g1
    have hnf : c_nf q.2.1 = N := hnf
    have hts2 : ∀ w ∈ u_ws C9 T N, w.before args s = true := fun w hw => hts w (hin w hw) (c_uws w hw)
    have hKn := hK.1 q.2.1 _ g1
    rw [hnf] at hr2 k
    refine W.newcK hx hb hown (hts _ u1 u2) (hts _ v1 v2) (hts _ w1 w2) rfl hd (by omega) (by omega) hKn.2.1 hH.2.1 fun H1 kC hkC e1 e2 e3 => ?_
    have hlen : (c_dfl c_ty q.2.1 N).length = N := by simp [c_dfl]
    refine k H1 locs _ _ ls (hH.push (by rw [e2, hH.2.1]) (fun z hz => e3 z (by rw [← hH.2.1]; exact hz)) (fun y9 hy9 => ?_)) hL hlo (by simp; omega) (by rw [c_msz_app]; simp only [c_sz, hlen]; omega)
    cases hy9
    refine ⟨(C9, T, N), g1, hlen, (u_born (c_ty q.2.1) hts2 (fun w hw => hw) hKn hkC e1 hty).to (fun j hj => ?_)⟩
    show _ = vp_V ((c_dfl c_ty q.2.1 N).map (c_v base b)) j
    rw [c_vV (v := defaultValue (c_ty q.2.1 j)) (by simp [c_dfl, hj])]
    cases c_ty q.2.1 j <;> rfl
  · cases ok
theorem c_cast_i (C : c_ctx p l R s m args meth c D A H0 base b X y cc nL F Rl) {i : Nat} (hq : q.1 = .checkcast i) (hd : decode cc pc = .ok (.checkcast i, 3)) (ok : c_okJ y.cls ini F Rl pc q ix = true) (e1 : c_cast q pc L st h = some r) (k : c_K p l e R s m args below meth c Q D A H0 base b nL n0 z0 r.1 r.2.1 r.2.2.1 r.2.2.2) : c_K p l e R s m args below meth c Q D A H0 base b nL n0 z0 pc L st h := by
  intro H locs cells slots ls hH hL hlo hc hs
  obtain ⟨hx, hb, -, hown, hts, ⟨hK, hA, -⟩, -⟩ := C
  unfold c_okJ at ok
  simp only [hq, Bool.and_eq_true, decide_eq_true_eq] at ok
  obtain ⟨o1, o2⟩ := ok
  obtain ⟨w1, w2⟩ := c_w_ok o2
  unfold c_cast at e1
  split at e1
  · rename_i a t
    split at e1
    · rename_i vs hvs
      cases e1
      obtain ⟨-, g2⟩ := hH.2.2.2 a _ (c_vs_ok hvs)
      intro T hT X9
      obtain ⟨vm', X', st9⟩ := X9.checkcastYes hx hown (hts _ w1 w2) (by rw [hT]; exact g2) rfl (hA _ o1).2 (va_asg _ _) (g := F0 m pc ls (.ref (base + a) :: t.map (c_v base b))) rfl rfl (by rw [hb]; exact hd)
      obtain ⟨t9, a1, b1⟩ := k H locs cells slots ls hH hL hlo hc hs (T.setVm vm') hT X'
      exact ⟨t9, st9 t9 a1, b1⟩
    · cases e1
  · cases e1
end SimA
end
section
section SimB
variable {p : Program} {l : Launch} {e : Env} {R : Room} {s : State} {m : MethodId} {args : Array Value} {below : List Frame} {meth : Method} {c : Code} {Q : State → Prop}
variable {D : va_G} {A : Nat → ClassId} {H0 : Heap} {base b nL n0 z0 F Rl : Nat} {X : List Int32} {y : MethodName} {cc : ByteArray} {ini : Bool} {pc : Nat} {q : c_I} {ix : List Nat} {L : c_Ls} {st : List Value} {h : c_Hp} {r : c_R}
theorem c_sum {t : List Value} {n : Nat} (h : (t.map fun v => v.category).sum ≤ n) : ((t.map (c_v base b)).map fun v => v.category).sum ≤ n := by
  rw [c_v_cats]; exact h
theorem c_special_i (C : c_ctx p l R s m args meth c D A H0 base b X y cc nL F Rl) {i : Nat} (hq : q.1 = .invokespecial i) (hq2 : q.2.2.2 = 6) (hd : decode cc pc = .ok (.invokespecial i, 3)) (ok : c_okJ y.cls ini F Rl pc q ix = true) (e1 : c_call1 q pc L st h = some r) (k : c_K p l e R s m args below meth c Q D A H0 base b nL n0 z0 r.1 r.2.1 r.2.2.1 r.2.2.2) : c_K p l e R s m args below meth c Q D A H0 base b nL n0 z0 pc L st h := by
  intro H locs cells slots ls hH hL hlo hc hs
  obtain ⟨hx, hb, hml, hown, hts, ⟨hK, hA, -⟩, -, -, hF, hR, -⟩ := C
  unfold c_okJ at ok
  simp only [hq] at ok
  rw [if_pos hq2] at ok
  simp only [Bool.and_eq_true, decide_eq_true_eq] at ok
  obtain ⟨⟨⟨⟨o1, o2⟩, o3⟩, o4⟩, o5⟩ := ok
  obtain ⟨u1, u2⟩ := c_w_ok o1
  obtain ⟨v1, v2⟩ := c_w_ok o2
  obtain ⟨w1, w2⟩ := c_w_ok o3
  unfold c_call1 at e1
  rw [hq2] at e1
  simp only at e1
  split at e1
  · rename_i a t
    split at e1
    · rename_i hsum
      cases e1
      have hsum2 := c_sum (base := base) (b := b) hsum
      refine W.objInit hx hb hown (hts _ u1 u2) (hts _ v1 v2) (hts _ w1 w2) rfl (by rw [hml]; exact hL.2.1) rfl hd (by omega) ?_ (k H locs cells slots ls hH hL hlo hc hs)
      show 2 * 0 + _ + 12 ≤ _
      omega
    · cases e1
  · cases e1
theorem c_static_i (C : c_ctx p l R s m args meth c D A H0 base b X y cc nL F Rl) {i : Nat} (hq : q.1 = .invokestatic i) (hd : decode cc pc = .ok (.invokestatic i, 3)) (hq6 : ¬ q.2.2.2 < 6) (ok : c_okJ y.cls ini F Rl pc q ix = true) (e1 : c_call1 q pc L st h = some r) (hr1 : r.2.2.2.length ≤ n0 + R.cells) (hr2 : c_msz r.2.2.2 ≤ z0 + R.slots) (k : c_K p l e R s m args below meth c Q D A H0 base b nL n0 z0 r.1 r.2.1 r.2.2.1 r.2.2.2) : c_K p l e R s m args below meth c Q D A H0 base b nL n0 z0 pc L st h := by
  intro H locs cells slots ls hH hL hlo hc hs
  obtain ⟨hx, hb, hml, hown, hts, ⟨hK, hA, -⟩, -, -, hF, hR, -⟩ := C
  unfold c_okJ at ok
  simp only [hq] at ok
  have hml2 : c.maxLocals = ls.size := by rw [hml]; exact hL.2.1.symm
  by_cases h7 : q.2.2.2 = 7
  · rw [if_pos h7] at ok
    simp only [Bool.and_eq_true, decide_eq_true_eq] at ok
    obtain ⟨⟨⟨⟨⟨o1, o2⟩, o3⟩, o6⟩, o4⟩, o5⟩ := ok
    obtain ⟨u1, u2⟩ := c_w_ok o1
    obtain ⟨v1, v2⟩ := c_w_ok o2
    obtain ⟨w1, w2⟩ := c_w_ok o3
    obtain ⟨x1, x2⟩ := c_w_ok o6
    unfold c_call1 at e1
    rw [h7] at e1
    simp only at e1
    split at e1
    · split at e1
      · rename_i hsum
        cases e1
        have hsum2 := c_sum (base := base) (b := b) hsum
        simp only at hr1 hr2
        exact va_mmax hx hb hml2 hown (hts _ u1 u2) (hts _ v1 v2) (hts _ w1 w2) (hts _ x1 x2) (by omega) (by omega) (by omega) (by omega) hd (k H locs cells slots ls hH hL hlo hc hs)
      · cases e1
    · cases e1
  · rw [if_neg h7] at ok
    by_cases h8 : q.2.2.2 = 8
    · rw [if_pos h8] at ok
      simp only [Bool.and_eq_true, decide_eq_true_eq] at ok
      obtain ⟨⟨⟨⟨⟨o1, o2⟩, o3⟩, o6⟩, o4⟩, o5⟩ := ok
      obtain ⟨u1, u2⟩ := c_w_ok o1
      obtain ⟨v1, v2⟩ := c_w_ok o2
      obtain ⟨w1, w2⟩ := c_w_ok o3
      obtain ⟨x1, x2⟩ := c_w_ok o6
      unfold c_call1 at e1
      rw [h8] at e1
      simp only at e1
      split at e1
      · split at e1
        · rename_i hsum
          cases e1
          have hsum2 := c_sum (base := base) (b := b) hsum
          simp only at hr1 hr2
          exact va_mmin hx hb hml2 hown (hts _ u1 u2) (hts _ v1 v2) (hts _ w1 w2) (hts _ x1 x2) (by omega) (by omega) (by omega) (by omega) hd (k H locs cells slots ls hH hL hlo hc hs)
        · cases e1
      · cases e1
    · rw [if_neg h8] at ok
      by_cases h10 : q.2.2.2 = 10
      · rw [if_pos h10] at ok
        simp only [Bool.and_eq_true, decide_eq_true_eq] at ok
        obtain ⟨⟨⟨⟨⟨o1, o2⟩, o3⟩, o6⟩, o4⟩, o5⟩ := ok
        obtain ⟨u1, u2⟩ := c_w_ok o1
        obtain ⟨v1, v2⟩ := c_w_ok o2
        obtain ⟨w1, w2⟩ := c_w_ok o3
        obtain ⟨x1, x2⟩ := c_w_ok o6
        unfold c_call1 at e1
        rw [h10] at e1
        simp only at e1
        split at e1
        · split at e1
          · rename_i hsum
            cases e1
            have hsum2 := c_sum (base := base) (b := b) hsum
            exact vn_f2i hx hb hml2 hown (hts _ u1 u2) (hts _ v1 v2) (hts _ w1 w2) (hts _ x1 x2) (by omega) (by omega) hd (k H locs cells slots ls hH hL hlo hc hs)
          · cases e1
        · cases e1
      · rw [if_neg h10] at ok
        simp only [decide_eq_true_eq] at ok
        exact absurd ok hq6
theorem c_isi_fit {vs : List Value} (h : vs.all c_isi = true) {cA : ClassId} : ∀ (i : Nat) (v : Value), (arrV cA vs.length (vp_V (vs.map (c_v base b)))).slots[i]? = some v → fits .int v = true := by
  intro i v hv
  refine va_fit (F := vp_V (vs.map (c_v base b))) (n := vs.length) (fun j hj => ?_) i v hv
  obtain ⟨w, hw⟩ : ∃ w, vs[j]? = some w := ⟨_, List.getElem?_eq_getElem hj⟩
  rw [c_vV hw]
  have h1 := List.all_eq_true.mp h w (List.mem_of_getElem? hw)
  cases w <;> first | rfl | (simp [c_isi] at h1)
theorem c_virtual_i (C : c_ctx p l R s m args meth c D A H0 base b X y cc nL F Rl) {i : Nat} (hq : q.1 = .invokevirtual i) (hd : decode cc pc = .ok (.invokevirtual i, 3)) (hq6 : ¬ q.2.2.2 < 6) (ok : c_okJ y.cls ini F Rl pc q ix = true) (e1 : c_call1 q pc L st h = some r) (hr1 : r.2.2.2.length ≤ n0 + R.cells) (hr2 : c_msz r.2.2.2 ≤ z0 + R.slots) (k : c_K p l e R s m args below meth c Q D A H0 base b nL n0 z0 r.1 r.2.1 r.2.2.1 r.2.2.2) : c_K p l e R s m args below meth c Q D A H0 base b nL n0 z0 pc L st h := by
  intro H locs cells slots ls hH hL hlo hc hs
  obtain ⟨hx, hb, hml, hown, hts, ⟨hK, hA, hng, -⟩, -, -, hF, hR, -⟩ := C
  unfold c_okJ at ok
  simp only [hq] at ok
  have hml2 : c.maxLocals = ls.size := by rw [hml]; exact hL.2.1.symm
  by_cases h9 : q.2.2.2 = 9
  · rw [if_pos h9] at ok
    simp only [Bool.and_eq_true, decide_eq_true_eq] at ok
    obtain ⟨⟨⟨⟨⟨⟨⟨o1, o2⟩, o3⟩, o4⟩, o5⟩, o6⟩, o7⟩, o8⟩ := ok
    obtain ⟨u1, u2⟩ := c_w_ok o1
    obtain ⟨v1, v2⟩ := c_w_ok o2
    obtain ⟨w1, w2⟩ := c_w_ok o3
    obtain ⟨x1, x2⟩ := c_w_ok o4
    obtain ⟨y1, y2⟩ := c_w_ok o5
    obtain ⟨z1, z2⟩ := c_n_ok o6
    unfold c_call1 at e1
    rw [h9] at e1
    simp only at e1
    split at e1
    · rename_i a t
      split at e1
      · rename_i vs hvs
        split at e1
        · rename_i hsum
          split at e1
          · rename_i hall
            cases e1
            have hsum2 := c_sum (base := base) (b := b) hsum
            simp only [List.length_append, List.length_cons, List.length_nil, c_msz_app, c_sz] at hr1 hr2
            obtain ⟨-, g2⟩ := hH.2.2.2 a _ (c_vs_ok hvs)
            obtain ⟨hA1, hA2⟩ := hA 0 (by decide)
            obtain ⟨c0, t0', f1, f2, f3⟩ := Cond.castable_spec (va_Nw.use (A := args) rfl (hng _ z1 z2))
            have hA3 : s.vm.findClass "[I" = some (A 0) := hA2
            cases hA3.symm.trans f1
            intro T hT X9
            obtain ⟨-, kA, hkA, comp, hkind⟩ := State.isArrayOf_alike X9.warmed.alike (hA1 0 (fun _ => .null))
            obtain ⟨-, kS, hkS, compS, hkindS⟩ := hA1 0 (fun _ => .null)
            obtain ⟨vm', X', st9⟩ := X9.cloneArray hx hown (hts _ u1 u2) (hts _ v1 v2) (hts _ w1 w2) (hts _ x1 x2) (hts _ y1 y2) (a := base + a) (cell := arrV (A 0) vs.length (vp_V (vs.map (c_v base b)))) (by rw [hT]; exact g2) (fun k h => by cases h) (fun h => by cases h) hA3 f2 f3
              (fun i v hv => by
                have hk' : T.vm.classes[A 0]? = some kA := hkA
                have h5 : fits (c_tag 0) v = true := c_isi_fit hall i v hv
                show T.fitsSlot (A 0) .none i v = true
                simpa [State.fitsSlot, State.slotType?, hk', hkind] using h5)
              (g := F0 m pc ls (.ref (base + a) :: t.map (c_v base b))) rfl (by rw [hml2]) rfl (by rw [hb]; exact hd) (by omega) (by show 2 * 0 + _ + 14 ≤ _; omega) (by omega) (by rw [arrV_size]; omega) (hloader := Vm.clonesLoader_of_array hkS hkindS)
            rw [arrV_size] at X'
            have e9 : ({ cls := (arrV (A 0) vs.length (vp_V (vs.map (c_v base b)))).cls, slots := (arrV (A 0) vs.length (vp_V (vs.map (c_v base b)))).slots } : Cell) = arrV (A 0) vs.length (vp_V (vs.map (c_v base b))) := rfl
            rw [e9] at X' st9
            have hT2 : T.heap.size = base + h.length := by rw [hT]; exact hH.2.1
            obtain ⟨t2, b1, b2⟩ := k (T.heap.push (arrV (A 0) vs.length (vp_V (vs.map (c_v base b))))) locs (cells + 1) (slots + vs.length) ls
              (hH.push (x := some (.inr (0, vs))) (by rw [Array.size_push, hT]) (fun z hz => by rw [Array.getElem?_push, hT, if_neg (Nat.ne_of_lt hz)]) (fun y9 hy9 => by
                cases hy9
                refine ⟨(show (0 : Nat) < 3 by decide), ?_⟩
                rw [← hT2, Array.getElem?_push_size])) hL hlo (by simp; omega) (by rw [c_msz_app]; simp only [c_sz]; omega)
              ((T.setVm vm').pushCell (arrV (A 0) vs.length (vp_V (vs.map (c_v base b))))) rfl X'
            refine ⟨t2, st9 t2 ?_, b2⟩
            have b3 := b1
            simp only [List.map_cons, c_v, ← hT2] at b3
            exact b3
          · cases e1
        · cases e1
      · cases e1
    · cases e1
  · rw [if_neg h9] at ok
    simp only [decide_eq_true_eq] at ok
    exact absurd ok hq6
theorem c_msz_rep (n : Nat) (x : c_Cell) : c_msz (List.replicate n x) = n * c_sz x := by
  unfold c_msz
  simp
theorem c_msz_app2 (h h2 : c_Hp) : c_msz (h ++ h2) = c_msz h + c_msz h2 := by
  unfold c_msz
  simp
theorem c_msz_one (x : c_Cell) : c_msz [x] = c_sz x := by
  unfold c_msz
  simp
theorem c_outer0 (cA : ClassId) (N h0 : Nat) : ∀ i : Nat, Jvm.Free.Multi.outerC cA N h0 i = arrV cA N (fun j => if j < i then Value.ref (h0 + 1 + j) else .null)
  | 0 => by
    show ({ cls := cA, slots := Array.replicate N .null, vm := .none } : Cell) = _
    unfold arrV
    congr 1
    apply Array.ext
    · simp
    · intro i h1 h2
      simp
  | i + 1 => by
    show (Jvm.Free.Multi.outerC cA N h0 i).setSlot i (.ref (h0 + 1 + i)) = _
    rw [c_outer0 cA N h0 i, arrV_store]
    congr 1
    funext j
    unfold updV
    by_cases e : j = i
    · subst e; simp
    · by_cases e2 : j < i
      · rw [if_neg e, if_pos (show j < i + 1 by omega)]; exact if_pos e2
      · rw [if_neg e, if_neg (show ¬ j < i + 1 by omega)]; exact if_neg e2
theorem c_outer (cA : ClassId) (N h0 hl : Nat) (e : h0 = base + hl) : Jvm.Free.Multi.outerC cA N h0 N = arrV cA ((List.range N).map (fun j => Value.ref (hl + 1 + j))).length (vp_V (((List.range N).map (fun j => Value.ref (hl + 1 + j))).map (c_v base b))) := by
  rw [c_outer0, List.length_map, List.length_range]
  refine c_arrV_congr fun j hj => ?_
  rw [if_pos hj, c_vV (v := .ref (hl + 1 + j)) (by simp [hj])]
  have e3 : h0 + 1 + j = base + (hl + 1 + j) := by omega
  exact congrArg Value.ref e3
theorem c_inner (cA : ClassId) (M : Nat) : Jvm.Free.Multi.innerC cA M (.int 0) = arrV cA (List.replicate M (Value.int 0)).length (vp_V ((List.replicate M (Value.int 0)).map (c_v base b))) := by
  show ({ cls := cA, slots := Array.replicate M (.int 0), vm := .none } : Cell) = _
  rw [List.length_replicate, c_arrV_congr (g := fun _ => .int 0) (c_rep_V rfl)]
  unfold arrV
  congr 1
  apply Array.ext
  · simp
  · intro i h1 h2
    simp
theorem c_mnew_i (C : c_ctx p l R s m args meth c D A H0 base b X y cc nL F Rl) {i d : Nat} (hq : q.1 = .multianewarray i d) (hd : decode cc pc = .ok (.multianewarray i d, 4)) (ok : c_okJ y.cls ini F Rl pc q ix = true) (e1 : c_mnew pc L st h = some r) (hr1 : r.2.2.2.length ≤ n0 + R.cells) (hr2 : c_msz r.2.2.2 ≤ z0 + R.slots) (k : c_K p l e R s m args below meth c Q D A H0 base b nL n0 z0 r.1 r.2.1 r.2.2.1 r.2.2.2) : c_K p l e R s m args below meth c Q D A H0 base b nL n0 z0 pc L st h := by
  intro H locs cells slots ls hH hL hlo hc hs
  obtain ⟨hx, hb, hml, hown, hts, ⟨hK, hA, hng, -, -, hover⟩, -, -, hF, hR, -⟩ := C
  unfold c_okJ at ok
  simp only [hq, Bool.and_eq_true, decide_eq_true_eq] at ok
  obtain ⟨⟨rfl, o2⟩, o3⟩ := ok
  obtain ⟨u1, u2⟩ := c_w_ok o2
  obtain ⟨v1, v2⟩ := c_w_ok o3
  unfold c_mnew at e1
  split at e1
  · rename_i kk nn t
    split at e1
    · cases e1
    · rename_i hn
      split at e1
      · cases e1
      · rename_i hk
        split at e1
        · rename_i hn2
          split at e1
          · rename_i hk2
            cases e1
            simp only [List.length_append, List.length_cons, List.length_nil, c_msz_app2, c_msz_rep, c_msz_one, c_sz, List.length_map, List.length_range, List.length_replicate] at hr1 hr2
            intro T hT X9
            obtain ⟨vm₁, cA, comp, -, fA, fC, -, -, X', step⟩ := X9.multianewarray2F hx hown (hts _ u1 u2) (show (Cond.arrayOver (.array .int)).before args s = true from hover) (hts _ v1 v2) (g := F0 m pc ls (.int kk :: .int nn :: t.map (c_v base b))) rfl (by rw [hb]; exact hd) rfl hn hk (by omega) (by show _ * 4 ≤ _; omega) (by omega) rfl rfl (by omega) (by omega)
            have hA0 : comp = A 0 := Option.some.inj (fC.symm.trans (hA 0 (by decide)).2)
            have hA2 : cA = A 2 := Option.some.inj (fA.symm.trans (hA 2 (by decide)).2)
            subst hA0 hA2
            have hTs : (T.setVm vm₁).heap.size = base + h.length := by show T.heap.size = _; rw [hT]; exact hH.2.1
            obtain ⟨f1, f2, -, -⟩ := Jvm.Free.Multi.fill_facts (T.setVm vm₁) (A 2) (A 0) nn.toNatClampNeg kk.toNatClampNeg (defaultValue .int) nn.toNatClampNeg
            have f3 := fun a (ha : a < (T.setVm vm₁).heap.size) => Jvm.Free.Multi.fill_old (T.setVm vm₁) (A 2) (A 0) nn.toNatClampNeg kk.toNatClampNeg (defaultValue .int) ha nn.toNatClampNeg
            have f4 := Jvm.Free.Multi.fill_inner (T.setVm vm₁) (A 2) (A 0) nn.toNatClampNeg kk.toNatClampNeg (defaultValue .int) nn.toNatClampNeg
            rw [hTs] at f1 f2 f3 f4
            have hTh : (T.setVm vm₁).heap = H := hT
            rw [hTh] at f3
            obtain ⟨t2, b1, b2⟩ := k (Jvm.Free.Multi.fill (T.setVm vm₁) (A 2) (A 0) nn.toNatClampNeg kk.toNatClampNeg (defaultValue .int) nn.toNatClampNeg).heap locs _ _ ls
              ⟨hH.1, by rw [f1]; simp; omega, fun z hz => by rw [f3 z (by omega)]; exact hH.2.2.1 z hz, fun j x hj => by
                by_cases e2 : j < h.length
                · rw [List.append_assoc, List.getElem?_append_left e2] at hj
                  exact (hH.2.2.2 j x hj).kept (f3 _ (by omega))
                · by_cases e3 : j = h.length
                  · subst e3
                    rw [List.append_assoc, List.getElem?_append_right (Nat.le_refl _), Nat.sub_self] at hj
                    simp only [List.cons_append, List.getElem?_cons_zero] at hj
                    cases hj
                    refine ⟨(show (2 : Nat) < 3 by decide), ?_⟩
                    rw [f2]
                    exact congrArg some (c_outer (base := base) (b := b) (A 2) nn.toNatClampNeg _ h.length rfl)
                  · rw [List.append_assoc, List.getElem?_append_right (by omega)] at hj
                    have e4 : j - h.length = (j - h.length - 1) + 1 := by omega
                    rw [e4] at hj
                    simp only [List.cons_append, List.nil_append, List.getElem?_cons_succ] at hj
                    rw [List.getElem?_replicate] at hj
                    split at hj
                    · rename_i e5
                      cases hj
                      refine ⟨(show (0 : Nat) < 3 by decide), ?_⟩
                      rw [show base + j = base + h.length + 1 + (j - h.length - 1) by omega, f4 _ e5]
                      exact congrArg some (c_inner (base := base) (b := b) (A 0) kk.toNatClampNeg)
                    · cases hj⟩
              hL hlo (by simp; omega) (by simp only [c_msz_app2, c_msz_rep, c_msz_one, c_sz, List.length_map, List.length_range, List.length_replicate]; omega)
              (Jvm.Free.Multi.fill (T.setVm vm₁) (A 2) (A 0) nn.toNatClampNeg kk.toNatClampNeg (defaultValue .int) nn.toNatClampNeg) rfl X'
            refine ⟨t2, step t2 ?_, b2⟩
            have hT2 : T.heap.size = base + h.length := hTs
            have b3 := b1
            simp only [List.map_cons, c_v, ← hT2] at b3
            exact b3
          · cases e1
        · cases e1
  · cases e1
end SimB
end
section
section Sim1
variable {p : Program} {l : Launch} {e : Env} {R : Room} {s : State} {m : MethodId} {args : Array Value} {below : List Frame} {meth : Method} {c : Code} {Q : State → Prop}
variable {D : va_G} {A : Nat → ClassId} {H0 : Heap} {base b nL n0 z0 F Rl : Nat} {X : List Int32} {y : MethodName} {cc : ByteArray} {ini : Bool} {pc : Nat} {q : c_I} {ix : List Nat} {L : c_Ls} {st : List Value} {h : c_Hp} {r : c_R}
set_option maxHeartbeats 4000000 in
theorem c_sim1 (C : c_ctx p l R s m args meth c D A H0 base b X y cc nL F Rl) (hini : ini = true → y.name = "<init>") (ok : c_okI y.cls cc ini F Rl pc q ix = true) (h0 : c_kd q = 0) (e1 : c_stp c_ty c_nf X q pc L st h = some r) (hr1 : r.2.2.2.length ≤ n0 + R.cells) (hr2 : c_msz r.2.2.2 ≤ z0 + R.slots) (k : c_K p l e R s m args below meth c Q D A H0 base b nL n0 z0 r.1 r.2.1 r.2.2.1 r.2.2.2) : c_K p l e R s m args below meth c Q D A H0 base b nL n0 z0 pc L st h := by
  unfold c_okI at ok
  rw [Bool.and_eq_true, decide_eq_true_eq] at ok
  obtain ⟨hd, ok⟩ := ok
  have C2 := C
  obtain ⟨hx, hb, hml, hown, hts, -⟩ := C2
  cases hq : q.1

  case iconst n =>
    rw [hq] at hd
    simp only [c_stp, hq] at e1
    cases e1
    intro H locs cells slots ls hH hL hlo hc hs
    exact lv_iconst hx hb hd rfl (k H locs cells slots ls hH hL hlo hc hs)
  case bipush n =>
    rw [hq] at hd
    simp only [c_stp, hq] at e1
    cases e1
    intro H locs cells slots ls hH hL hlo hc hs
    exact lv_bipush hx hb hd rfl (k H locs cells slots ls hH hL hlo hc hs)
  case sipush n =>
    rw [hq] at hd
    simp only [c_stp, hq] at e1
    cases e1
    intro H locs cells slots ls hH hL hlo hc hs
    exact lv_sipush hx hb hd rfl (k H locs cells slots ls hH hL hlo hc hs)
  case ldc i =>
    rw [hq] at hd
    simp only [c_stp, hq] at e1
    unfold c_okJ at ok
    simp only [hq] at ok
    split at e1
    · rename_i h9
      rw [if_pos h9] at ok
      obtain ⟨w1, w2⟩ := c_w_ok ok
      cases e1
      intro H locs cells slots ls hH hL hlo hc hs
      exact lv_ldc hx hb hown (hts _ w1 w2) hd (k H locs cells slots ls hH hL hlo hc hs)
    · rename_i h9
      rw [if_neg h9] at ok
      obtain ⟨w1, w2⟩ := c_w_ok ok
      cases e1
      intro H locs cells slots ls hH hL hlo hc hs
      exact lv_ldcf hx hb hown (hts _ w1 w2) hd (k H locs cells slots ls hH hL hlo hc hs)
  case ldc_w i =>
    rw [hq] at hd
    simp only [c_stp, hq] at e1
    unfold c_okJ at ok
    simp only [hq] at ok
    split at e1
    · rename_i h9
      rw [if_pos h9] at ok
      obtain ⟨w1, w2⟩ := c_w_ok ok
      cases e1
      intro H locs cells slots ls hH hL hlo hc hs
      exact lv_ldcw hx hb hown (hts _ w1 w2) hd (k H locs cells slots ls hH hL hlo hc hs)
    · rename_i h9
      rw [if_neg h9] at ok
      obtain ⟨w1, w2⟩ := c_w_ok ok
      cases e1
      intro H locs cells slots ls hH hL hlo hc hs
      exact c_ldcwf hx hb hown (hts _ w1 w2) hd (k H locs cells slots ls hH hL hlo hc hs)
  case fconst n =>
    rw [hq] at hd
    simp only [c_stp, hq] at e1
    match n, hd, e1 with
    | 0, hd, e1 => cases e1; exact fun H locs cells slots ls hH hL hlo hc hs => lv_fconst0 hx hb hd (k H locs cells slots ls hH hL hlo hc hs)
    | 1, hd, e1 => cases e1; exact fun H locs cells slots ls hH hL hlo hc hs => lv_fconst1 hx hb hd (k H locs cells slots ls hH hL hlo hc hs)
    | 2, hd, e1 => cases e1; exact fun H locs cells slots ls hH hL hlo hc hs => lv_fconst2 hx hb hd (k H locs cells slots ls hH hL hlo hc hs)
  case iload_n n =>
    rw [hq] at hd
    simp only [c_stp, hq] at e1
    exact c_iload_n hx hb hd e1 k
  case iload i =>
    rw [hq] at hd
    simp only [c_stp, hq] at e1
    exact c_iload_i hx hb hd e1 k
  case fload_n n =>
    rw [hq] at hd
    simp only [c_stp, hq] at e1
    exact c_fload_n hx hb hd e1 k
  case fload i =>
    rw [hq] at hd
    simp only [c_stp, hq] at e1
    exact c_fload_i hx hb hd e1 k
  case aload_n n =>
    rw [hq] at hd
    simp only [c_stp, hq] at e1
    exact c_aload_n hx hb hd e1 k
  case aload i =>
    rw [hq] at hd
    simp only [c_stp, hq] at e1
    exact c_aload_i hx hb hd e1 k
  case istore_n n =>
    rw [hq] at hd
    simp only [c_stp, hq] at e1
    exact c_istore_n hx hb hd e1 k
  case istore i =>
    rw [hq] at hd
    simp only [c_stp, hq] at e1
    exact c_istore_i hx hb hd e1 k
  case fstore_n n =>
    rw [hq] at hd
    simp only [c_stp, hq] at e1
    exact c_fstore_n hx hb hd e1 k
  case fstore i =>
    rw [hq] at hd
    simp only [c_stp, hq] at e1
    exact c_fstore_i hx hb hd e1 k
  case astore_n n =>
    rw [hq] at hd
    simp only [c_stp, hq] at e1
    exact c_astore_n hx hb hd e1 k
  case astore i =>
    rw [hq] at hd
    simp only [c_stp, hq] at e1
    exact c_astore_i hx hb hd e1 k
  case iinc i n =>
    rw [hq] at hd
    simp only [c_stp, hq] at e1
    split at e1
    · rename_i x hv
      cases e1
      exact c_iinc_i hx hb hd hv k
    · cases e1
  case iadd =>
    rw [hq] at hd
    simp only [c_stp, hq] at e1
    obtain ⟨x, z, t, rfl, e2⟩ := c_s2_ok e1
    cases e2
    intro H locs cells slots ls hH hL hlo hc hs
    exact lv_iadd hx hb hd (k H locs cells slots ls hH hL hlo hc hs)
  case isub =>
    rw [hq] at hd
    simp only [c_stp, hq] at e1
    obtain ⟨x, z, t, rfl, e2⟩ := c_s2_ok e1
    cases e2
    intro H locs cells slots ls hH hL hlo hc hs
    exact lv_isub hx hb hd (k H locs cells slots ls hH hL hlo hc hs)
  case imul =>
    rw [hq] at hd
    simp only [c_stp, hq] at e1
    obtain ⟨x, z, t, rfl, e2⟩ := c_s2_ok e1
    cases e2
    intro H locs cells slots ls hH hL hlo hc hs
    exact lv_imul hx hb hd (k H locs cells slots ls hH hL hlo hc hs)
  case iand =>
    rw [hq] at hd
    simp only [c_stp, hq] at e1
    obtain ⟨x, z, t, rfl, e2⟩ := c_s2_ok e1
    cases e2
    intro H locs cells slots ls hH hL hlo hc hs
    exact lv_iand hx hb hd (k H locs cells slots ls hH hL hlo hc hs)
  case ior =>
    rw [hq] at hd
    simp only [c_stp, hq] at e1
    obtain ⟨x, z, t, rfl, e2⟩ := c_s2_ok e1
    cases e2
    intro H locs cells slots ls hH hL hlo hc hs
    exact lv_ior hx hb hd (k H locs cells slots ls hH hL hlo hc hs)
  case ixor =>
    rw [hq] at hd
    simp only [c_stp, hq] at e1
    obtain ⟨x, z, t, rfl, e2⟩ := c_s2_ok e1
    cases e2
    intro H locs cells slots ls hH hL hlo hc hs
    exact lv_ixor hx hb hd (k H locs cells slots ls hH hL hlo hc hs)
  case ishl =>
    rw [hq] at hd
    simp only [c_stp, hq] at e1
    obtain ⟨x, z, t, rfl, e2⟩ := c_s2_ok e1
    cases e2
    intro H locs cells slots ls hH hL hlo hc hs
    exact lv_ishl hx hb hd (k H locs cells slots ls hH hL hlo hc hs)
  case ishr =>
    rw [hq] at hd
    simp only [c_stp, hq] at e1
    obtain ⟨x, z, t, rfl, e2⟩ := c_s2_ok e1
    cases e2
    intro H locs cells slots ls hH hL hlo hc hs
    exact lv_ishr hx hb hd (k H locs cells slots ls hH hL hlo hc hs)
  case iushr =>
    rw [hq] at hd
    simp only [c_stp, hq] at e1
    obtain ⟨x, z, t, rfl, e2⟩ := c_s2_ok e1
    cases e2
    intro H locs cells slots ls hH hL hlo hc hs
    exact lv_iushr hx hb hd rfl (k H locs cells slots ls hH hL hlo hc hs)
  case irem =>
    rw [hq] at hd
    simp only [c_stp, hq] at e1
    obtain ⟨x, z, t, rfl, e2⟩ := c_s2_ok e1
    split at e2
    · cases e2
    · rename_i hz
      cases e2
      intro H locs cells slots ls hH hL hlo hc hs
      exact lv_irem hx hb hd hz (k H locs cells slots ls hH hL hlo hc hs)
  case idiv =>
    rw [hq] at hd
    simp only [c_stp, hq] at e1
    obtain ⟨x, z, t, rfl, e2⟩ := c_s2_ok e1
    split at e2
    · cases e2
    · rename_i hz
      cases e2
      intro H locs cells slots ls hH hL hlo hc hs
      exact lv_idiv hx hb hd hz (k H locs cells slots ls hH hL hlo hc hs)
  case if_icmp cd off =>
    rw [hq] at hd
    simp only [c_stp, hq] at e1
    obtain ⟨x, z, t, rfl, e2⟩ := c_s2_ok e1
    cases e2
    unfold c_okJ at ok
    simp only [hq, decide_eq_true_eq] at ok
    exact c_icmp hx hb hd ok k
  case ifCond cd off =>
    rw [hq] at hd
    simp only [c_stp, hq] at e1
    obtain ⟨x, t, rfl, e2⟩ := c_s1_ok e1
    cases e2
    unfold c_okJ at ok
    simp only [hq, decide_eq_true_eq] at ok
    exact c_if hx hb hd ok k
  case goto off =>
    rw [hq] at hd
    simp only [c_stp, hq] at e1
    cases e1
    unfold c_okJ at ok
    simp only [hq, decide_eq_true_eq] at ok
    exact fun H locs cells slots ls hH hL hlo hc hs => lv_goto hx hb hd ok (k H locs cells slots ls hH hL hlo hc hs)
  case dup =>
    rw [hq] at hd
    simp only [c_stp, hq] at e1
    split at e1
    · split at e1
      · rename_i v t hcat
        cases e1
        exact fun H locs cells slots ls hH hL hlo hc hs => lv_dup hx hb hd (by rw [c_v_cat]; exact hcat) (k H locs cells slots ls hH hL hlo hc hs)
      · cases e1
    · cases e1
  case pop =>
    rw [hq] at hd
    simp only [c_stp, hq] at e1
    split at e1
    · split at e1
      · rename_i v t hcat
        cases e1
        exact fun H locs cells slots ls hH hL hlo hc hs => lv_pop hx hb hd (by rw [c_v_cat]; exact hcat) (k H locs cells slots ls hH hL hlo hc hs)
      · cases e1
    · cases e1
  case i2f =>
    rw [hq] at hd
    simp only [c_stp, hq] at e1
    obtain ⟨x, t, rfl, e2⟩ := c_s1_ok e1
    cases e2
    exact fun H locs cells slots ls hH hL hlo hc hs => lv_i2f hx hb hd (k H locs cells slots ls hH hL hlo hc hs)
  case f2i =>
    rw [hq] at hd
    simp only [c_stp, hq] at e1
    obtain ⟨x, t, rfl, e2⟩ := c_f1_ok e1
    cases e2
    exact fun H locs cells slots ls hH hL hlo hc hs => lv_f2i hx hb hd (k H locs cells slots ls hH hL hlo hc hs)
  case fmul =>
    rw [hq] at hd
    simp only [c_stp, hq] at e1
    obtain ⟨x, z, t, rfl, e2⟩ := c_f2_ok e1
    split at e2
    · rename_i hz
      cases e2
      exact fun H locs cells slots ls hH hL hlo hc hs => lv_fmul hx hb hd (by unfold c_nn at hz; unfold vf_n32; exact of_decide_eq_true hz) (k H locs cells slots ls hH hL hlo hc hs)
    · cases e2
  case fdiv =>
    rw [hq] at hd
    simp only [c_stp, hq] at e1
    obtain ⟨x, z, t, rfl, e2⟩ := c_f2_ok e1
    split at e2
    · rename_i hz
      cases e2
      exact fun H locs cells slots ls hH hL hlo hc hs => lv_fdiv hx hb hd (by unfold c_nn at hz; unfold vf_n32; exact of_decide_eq_true hz) (k H locs cells slots ls hH hL hlo hc hs)
    · cases e2
  case fsub =>
    rw [hq] at hd
    simp only [c_stp, hq] at e1
    obtain ⟨x, z, t, rfl, e2⟩ := c_f2_ok e1
    split at e2
    · rename_i hz
      cases e2
      exact fun H locs cells slots ls hH hL hlo hc hs => lv_fsub hx hb hd (by unfold c_nn at hz; unfold vf_n32; exact of_decide_eq_true hz) (k H locs cells slots ls hH hL hlo hc hs)
    · cases e2
  case fcmp op =>
    rw [hq] at hd
    simp only [c_stp, hq] at e1
    obtain ⟨x, z, t, rfl, e2⟩ := c_f2_ok e1
    cases e2
    exact fun H locs cells slots ls hH hL hlo hc hs => lv_fcmp hx hb hd (k H locs cells slots ls hH hL hlo hc hs)
  case getfield i =>
    rw [hq] at hd
    simp only [c_stp, hq] at e1
    exact c_getf_i C hq hd ok e1 k
  case putfield i =>
    rw [hq] at hd
    simp only [c_stp, hq] at e1
    exact c_putf_i C hini hq hd ok e1 k
  case iaload =>
    rw [hq] at hd
    simp only [c_stp, hq] at e1
    exact c_iald_i C hd e1 k
  case iastore =>
    rw [hq] at hd
    simp only [c_stp, hq] at e1
    exact c_iast_i C hd e1 k
  case aaload =>
    rw [hq] at hd
    simp only [c_stp, hq] at e1
    exact c_aald_i C hd e1 k
  case aastore =>
    rw [hq] at hd
    simp only [c_stp, hq] at e1
    exact c_aast_i C hd e1 k
  case arraylength =>
    rw [hq] at hd
    simp only [c_stp, hq] at e1
    exact c_alen_i C hq hd ok e1 k
  case new i =>
    rw [hq] at hd
    simp only [c_stp, hq] at e1
    cases e1
    have h9 : ¬ q.2.2.2 = 1 := fun z => by simp [c_kd, hq, z] at h0
    simp only [List.length_append, List.length_cons, List.length_nil, c_msz_app, c_sz, c_dfl, List.length_map, List.length_range] at hr1 hr2
    exact c_new_i C hq h9 hd ok (by omega) (by omega) k
  case newarray t =>
    rw [hq] at hd
    simp only [c_stp, hq] at e1
    exact c_newa_i C hq hd ok e1 hr1 hr2 k
  case multianewarray i d =>
    rw [hq] at hd
    simp only [c_stp, hq] at e1
    exact c_mnew_i C hq hd ok e1 hr1 hr2 k
  case checkcast i =>
    rw [hq] at hd
    simp only [c_stp, hq] at e1
    exact c_cast_i C hq hd ok e1 k
  case invokespecial i =>
    rw [hq] at hd
    simp only [c_stp, hq] at e1
    have h9 : ¬ q.2.2.2 < 6 := fun z => by simp [c_kd, hq, z] at h0
    have h6 : q.2.2.2 = 6 := by
      unfold c_okJ at ok
      simp only [hq] at ok
      by_cases z : q.2.2.2 = 6
      · exact z
      · rw [if_neg z, decide_eq_true_eq] at ok; exact absurd ok h9
    exact c_special_i C hq h6 hd ok e1 k
  case invokestatic i =>
    rw [hq] at hd
    simp only [c_stp, hq] at e1
    have h9 : ¬ q.2.2.2 < 6 := fun z => by simp [c_kd, hq, z] at h0
    exact c_static_i C hq hd h9 ok e1 hr1 hr2 k
  case invokevirtual i =>
    rw [hq] at hd
    simp only [c_stp, hq] at e1
    have h9 : ¬ q.2.2.2 < 6 := fun z => by simp [c_kd, hq, z] at h0
    exact c_virtual_i C hq hd h9 ok e1 hr1 hr2 k
  all_goals (simp only [c_stp, hq] at e1; cases e1)
end Sim1
end
section
def c_le (h h2 : c_Hp) : Prop := h.length ≤ h2.length ∧ c_msz h ≤ c_msz h2
theorem c_le.rf (h : c_Hp) : c_le h h := ⟨Nat.le_refl _, Nat.le_refl _⟩
theorem c_le.tr {h h2 h3 : c_Hp} (a : c_le h h2) (b : c_le h2 h3) : c_le h h3 := ⟨Nat.le_trans a.1 b.1, Nat.le_trans a.2 b.2⟩
theorem c_le.app (h h2 : c_Hp) : c_le h (h ++ h2) := ⟨by simp, by rw [c_msz_app2]; exact Nat.le_add_right _ _⟩
theorem c_le.st {h : c_Hp} {a : Nat} {x y : c_Cell} (hx : h[a]? = some x) (e : c_sz x = c_sz y) : c_le h (h.set a y) := ⟨by simp, by rw [c_msz_set hx e]; exact Nat.le_refl _⟩
section Mono
variable {X : List Int32} {q : c_I} {pc i n : Nat} {L : c_Ls} {st : List Value} {h : c_Hp} {r : c_R}
theorem c_iload_le (e : c_iload L i n pc st h = some r) : r.2.2.2 = h := by
  unfold c_iload at e
  split at e <;> cases e
  rfl
theorem c_fload_le (e : c_fload L i n pc st h = some r) : r.2.2.2 = h := by
  unfold c_fload at e
  split at e <;> cases e
  rfl
theorem c_aload_le (e : c_aload L i n pc st h = some r) : r.2.2.2 = h := by
  unfold c_aload at e
  split at e <;> cases e <;> rfl
theorem c_istore_le (e : c_istore L i n pc st h = some r) : r.2.2.2 = h := by
  unfold c_istore at e
  split at e
  · split at e <;> cases e
    rfl
  · cases e
theorem c_fstore_le (e : c_fstore L i n pc st h = some r) : r.2.2.2 = h := by
  unfold c_fstore at e
  split at e
  · split at e <;> cases e
    rfl
  · cases e
theorem c_astore_le (e : c_astore L i n pc st h = some r) : r.2.2.2 = h := by
  unfold c_astore at e
  split at e
  · split at e <;> cases e
    rfl
  · cases e
theorem c_getf_le (e : c_getf q pc L st h = some r) : r.2.2.2 = h := by
  unfold c_getf at e
  split at e
  · split at e
    · split at e <;> cases e
      rfl
    · cases e
  · cases e
theorem c_putf_le (e : c_putf c_ty q pc L st h = some r) : c_le h r.2.2.2 := by
  unfold c_putf at e
  split at e
  · split at e
    · rename_i fs hfs
      split at e
      · split at e <;> cases e
        exact c_le.st (c_fs_ok hfs) (by simp [c_sz])
      · cases e
    · cases e
  · cases e
theorem c_iald_le (e : c_iald X pc L st h = some r) : r.2.2.2 = h := by
  unfold c_iald at e
  split at e
  · split at e
    · split at e
      · split at e <;> cases e
        rfl
      · cases e
    · cases e
  · split at e
    · split at e <;> cases e
      rfl
    · cases e
  · cases e
theorem c_aald_le (e : c_aald pc L st h = some r) : r.2.2.2 = h := by
  unfold c_aald at e
  split at e
  · split at e
    · split at e
      · split at e <;> cases e
        rfl
      · cases e
    · cases e
  · cases e
theorem c_iast_le (e : c_iast pc L st h = some r) : c_le h r.2.2.2 := by
  unfold c_iast at e
  split at e
  · split at e
    · rename_i vs hvs
      split at e <;> cases e
      exact c_le.st (c_vs_ok hvs) (by simp [c_sz])
    · cases e
  · cases e
theorem c_aast_le (e : c_aast pc L st h = some r) : c_le h r.2.2.2 := by
  unfold c_aast at e
  split at e
  · split at e
    · rename_i vs hvs
      split at e
      · split at e <;> cases e
        exact c_le.st (c_vs_ok hvs) (by simp [c_sz])
      · cases e
    · cases e
  · cases e
theorem c_alen_le (e : c_alen X q pc L st h = some r) : r.2.2.2 = h := by
  unfold c_alen at e
  split at e
  · split at e <;> cases e
    rfl
  · cases e; rfl
  · cases e
theorem c_newa_le (e : c_newa q pc L st h = some r) : c_le h r.2.2.2 := by
  unfold c_newa at e
  split at e
  · split at e
    · cases e
    · split at e <;> cases e
      exact c_le.app _ _
  · cases e
theorem c_mnew_le (e : c_mnew pc L st h = some r) : c_le h r.2.2.2 := by
  unfold c_mnew at e
  split at e
  · split at e
    · cases e
    · split at e
      · cases e
      · split at e
        · split at e <;> cases e
          exact (c_le.app _ _).tr (c_le.app _ _)
        · cases e
  · cases e
theorem c_cast_le (e : c_cast q pc L st h = some r) : r.2.2.2 = h := by
  unfold c_cast at e
  split at e
  · split at e <;> cases e
    rfl
  · cases e
theorem c_call1_le (e : c_call1 q pc L st h = some r) : c_le h r.2.2.2 := by
  unfold c_call1 at e
  split at e
  · split at e
    · split at e <;> cases e
      exact c_le.rf _
    · cases e
  · split at e
    · split at e <;> cases e
      exact c_le.rf _
    · cases e
  · split at e
    · split at e <;> cases e
      exact c_le.rf _
    · cases e
  · split at e
    · split at e
      · split at e
        · split at e <;> cases e
          exact c_le.app _ _
        · cases e
      · cases e
    · cases e
  · split at e
    · split at e <;> cases e
      exact c_le.rf _
    · cases e
  · cases e
theorem c_le.of {h h2 : c_Hp} (e : h2 = h) : c_le h h2 := by rw [e]; exact c_le.rf _
set_option maxHeartbeats 4000000 in
theorem c_stp_le (e : c_stp c_ty c_nf X q pc L st h = some r) : c_le h r.2.2.2 := by
  cases hq : q.1
  case putfield i => simp only [c_stp, hq] at e; exact c_putf_le e
  case getfield i => simp only [c_stp, hq] at e; exact .of (c_getf_le e)
  case iaload => simp only [c_stp, hq] at e; exact .of (c_iald_le e)
  case iastore => simp only [c_stp, hq] at e; exact c_iast_le e
  case aaload => simp only [c_stp, hq] at e; exact .of (c_aald_le e)
  case aastore => simp only [c_stp, hq] at e; exact c_aast_le e
  case arraylength => simp only [c_stp, hq] at e; exact .of (c_alen_le e)
  case new i => simp only [c_stp, hq] at e; cases e; exact c_le.app _ _
  case newarray t => simp only [c_stp, hq] at e; exact c_newa_le e
  case multianewarray i d => simp only [c_stp, hq] at e; exact c_mnew_le e
  case checkcast i => simp only [c_stp, hq] at e; exact .of (c_cast_le e)
  case invokespecial i => simp only [c_stp, hq] at e; exact c_call1_le e
  case invokestatic i => simp only [c_stp, hq] at e; exact c_call1_le e
  case invokevirtual i => simp only [c_stp, hq] at e; exact c_call1_le e
  case iload_n n => simp only [c_stp, hq] at e; exact .of (c_iload_le e)
  case iload n => simp only [c_stp, hq] at e; exact .of (c_iload_le e)
  case fload_n n => simp only [c_stp, hq] at e; exact .of (c_fload_le e)
  case fload n => simp only [c_stp, hq] at e; exact .of (c_fload_le e)
  case aload_n n => simp only [c_stp, hq] at e; exact .of (c_aload_le e)
  case aload n => simp only [c_stp, hq] at e; exact .of (c_aload_le e)
  case istore_n n => simp only [c_stp, hq] at e; exact .of (c_istore_le e)
  case istore n => simp only [c_stp, hq] at e; exact .of (c_istore_le e)
  case fstore_n n => simp only [c_stp, hq] at e; exact .of (c_fstore_le e)
  case fstore n => simp only [c_stp, hq] at e; exact .of (c_fstore_le e)
  case astore_n n => simp only [c_stp, hq] at e; exact .of (c_astore_le e)
  case astore n => simp only [c_stp, hq] at e; exact .of (c_astore_le e)
  case fconst n =>
    match n, hq with
    | 0, hq => simp only [c_stp, hq] at e; cases e; exact c_le.rf _
    | 1, hq => simp only [c_stp, hq] at e; cases e; exact c_le.rf _
    | 2, hq => simp only [c_stp, hq] at e; cases e; exact c_le.rf _
  all_goals first
    | (simp only [c_stp, hq] at e; cases e; exact c_le.rf _)
    | (simp only [c_stp, hq] at e; cases e; done)
    | (simp only [c_stp, hq] at e; obtain ⟨x, z, t, rfl, e2⟩ := c_s2_ok e; cases e2; exact c_le.rf _)
    | (simp only [c_stp, hq] at e; obtain ⟨x, t, rfl, e2⟩ := c_s1_ok e; cases e2; exact c_le.rf _)
    | (simp only [c_stp, hq] at e; obtain ⟨x, z, t, rfl, e2⟩ := c_f2_ok e; cases e2; exact c_le.rf _)
    | (simp only [c_stp, hq] at e; obtain ⟨x, t, rfl, e2⟩ := c_f1_ok e; cases e2; exact c_le.rf _)
    | (simp only [c_stp, hq] at e; obtain ⟨x, z, t, rfl, e2⟩ := c_s2_ok e; split at e2 <;> cases e2; exact c_le.rf _)
    | (simp only [c_stp, hq] at e; obtain ⟨x, z, t, rfl, e2⟩ := c_f2_ok e; split at e2 <;> cases e2; exact c_le.rf _)
    | (simp only [c_stp, hq] at e; split at e <;> cases e <;> exact c_le.rf _)
    | (simp only [c_stp, hq] at e; split at e; split at e <;> cases e; exact c_le.rf _; cases e)
end Mono
theorem c_go_le {P : List c_M} {X : List Int32} : ∀ (n k pc : Nat) (L : c_Ls) (st : List Value) (h : c_Hp) (r : c_O × c_Hp), c_go P c_ty c_nf X n k pc L st h = some r → c_le h r.2
  | 0, _, _, _, _, _, _, e => by simp [c_go] at e
  | n + 1, k, pc, L, st, h, r, e => by
    simp only [c_go] at e
    split at e
    · cases e
    · split at e
      · cases e
      · split at e
        · split at e
          · rename_i r1 hr1
            exact (c_stp_le hr1).tr (c_go_le n _ _ _ _ _ _ e)
          · cases e
        · split at e
          · split at e <;> cases e
            exact c_le.rf _
          · cases e
        · split at e <;> cases e
          exact c_le.rf _
        · split at e
          · cases e
          · split at e
            · cases e
            · split at e
              · rename_i v h1 e2
                exact (c_go_le n _ _ _ _ _ _ e2).tr (c_go_le n _ _ _ _ _ _ e)
              · rename_i E h1 e2
                split at e
                · exact (c_go_le n _ _ _ _ _ _ e2).tr (c_go_le n _ _ _ _ _ _ e)
                · split at e <;> cases e
                  exact c_go_le n _ _ _ _ _ _ e2
              · cases e
        · split at e <;> cases e
          exact c_le.app _ _
        · cases e
end
section
section CtorX
variable {p : Program} {l : Launch} {e : Env} {R : Room} {s : State} {m₀ : MethodId} {args : Array Value} {below : List Frame} {meth : Method} {c : Code} {W : State} {locs : List Loc} {cells slots : Nat}
set_option linter.unusedSimpArgs false
set_option linter.unusedVariables false
/-! follows the proof of Stand.ctorThrowS (JvmDerived/BundleOwnThrow.lean), the first constructor's own index and bytes as they come -/
set_option maxHeartbeats 1000000 in
theorem c_ctorThrow (X : Stand p l e R s m₀ args below meth c W locs cells slots) (hexec : p.tables.exec = Jvm.exec) (htr : e.platform.stackTraces = false) {jx : Nat} {rx : ByteArray} (x0 : decode rx 0 = .ok (.aload_n 0, 1)) (x1 : decode rx 1 = .ok (.aload_n 1, 1)) (x2 : decode rx 2 = .ok (.invokespecial jx, 3)) (x5 : decode rx 5 = .ok (.return_, 1)) {own cls : String} {names : List String} {ic : Nat}
    (hown : s.vm.findClass own = some m₀.cls) (hcls : Bundle.fit cls = true) (hnames : ∀ n ∈ names, Bundle.fit n = true)
    (h : ∀ a ∈ Bundle.ownAtomsX own ic cls jx rx names, a.before args s = true)
    (hlocs : ∀ x ∈ locs, ∀ cell, s.heap[x.base]? = some cell → cell.vm.isStatics = false)
    {a : Addr} {cX : ClassId} {kX : Class} (hfoundX : s.vm.findClass cls = some cX) (hkX : s.vm.classes[cX]? = some kX) (hcell : W.heap[a]? = some (freshCell cX kX)) (hnew : s.heap.size ≤ a)
    {msg : Value} (hmsg : msg.isRef = true)
    {g : JFrame} (hg : g.method = m₀) (hsize : g.locals.size = c.maxLocals) (hlocked : g.locked = none) (hentered : g.entered = []) {rest : List Value} (hstack : g.stack = msg :: .ref a :: .ref a :: rest)
    (hd6 : decode c.code g.pc = .ok (.invokespecial ic, 3)) (hd9 : decode c.code (g.pc + 3) = .ok (.athrow, 1)) (hout : ∀ x ∈ c.exceptionTable.toList, covers x (g.pc + 3) = false)
    (hRframes : names.length + 3 < R.frames) (hRlocals : 2 * g.monitorRoom + ((Value.ref a :: rest).map fun v => v.category).sum + (13 * (names.length + 1) + 42) ≤ R.locals) (hlocks : meth.locks = false := by first | assumption | exact BodyLoose.notSynchronized (by assumption) | exact Body.notSynchronized (by assumption)) :
    ∃ U : State, Steps p.tables e below (W.setTop g) U ∧ U.status = .running ∧ Ended U below (.threw a) ∧ s.WarmedH U.vm ∧ s.sameButNew ({ U with vm := s.vm } : State) locs cells slots ∧
      ∃ ce, U.heap[a]? = some ce ∧ s.vm.findClass cls = some ce.cls ∧ ce.vm = .none := by
  have howns : e.platform.frameOwnsMonitors = true := by rw [X.admits.platform]
  have hfin : e.platform.finalization = false := by rw [X.admits.platform]
  have hpl : e.platform.magicAccessors = ({} : Platform).magicAccessors := by rw [X.admits.platform]
  have a' : ∀ x, x ∈ Bundle.ownAtomsX own ic cls jx rx names → x.holds args s none s [] = true := fun x hx => h x hx
  obtain ⟨T, Z0, L, -, Y⟩ := ThrowableC.of_atoms (args := args) howns hfin hpl (fun x hx => h x (by simp [Bundle.ownAtomsX, hx]))
  obtain ⟨Z, M, LZ, LM, hnZ⟩ := Init0T.ofS_atoms (args := args) hpl L Y (fun x hx => h x (by simp [Bundle.ownAtomsX, hx]))
  obtain ⟨P1, Ps, hlen, L1, hL, hP1m, hlink1, hlink⟩ := Bundle.chainSX (args := args) hpl hnZ x0 x1 x2 x5 names cls hcls hnames (fun x hx => h x (by simp [Bundle.ownAtomsX, hx]))
              
  have hfound : s.vm.findClass cls = some P1.m.cls := findClass_of_methodNamed hP1m
  cases Option.some.inj (hfoundX.symm.trans hfound)
  obtain ⟨c1, kX', hc1, hk, hord, -, -, hn6⟩ := Cond.instantiable_spec (a' (.instantiable cls 6) (by simp [Bundle.ownAtomsX]))
  cases Option.some.inj (hc1.symm.trans hfound)
  cases Option.some.inj (hkX.symm.trans hk)
  have hsel0 : selectMethod e.platform s.vm P1.m.cls T.fill0 = .method T.fill0 := by
    obtain ⟨c2, r2, m2, q1, q2, q3, q4, -⟩ := Cond.selects_spec (a' (.selects cls Bundle.tFill0 Bundle.tFill0) (by simp [Bundle.ownAtomsX]))
    cases Option.some.inj (q1.symm.trans hfound)
    cases Option.some.inj (q2.symm.trans (State.methodFound?_of_named Y.fill0 (by decide)))
    cases Option.some.inj (q3.symm.trans Y.fill0)
    rw [Launch.admits_selectMethod X.admits]; exact q4
  have hselF : selectMethod e.platform s.vm P1.m.cls T.fill = .method T.fill := by
    obtain ⟨c2, r2, m2, q1, q2, q3, q4, -⟩ := Cond.selects_spec (a' (.selects cls Bundle.tFill Bundle.tFill) (by simp [Bundle.ownAtomsX]))
    cases Option.some.inj (q1.symm.trans hfound)
    cases Option.some.inj (q2.symm.trans (State.methodFound?_of_named Y.fill (by decide)))
    cases Option.some.inj (q3.symm.trans Y.fill)
    rw [Launch.admits_selectMethod X.admits]; exact q4
  obtain ⟨cellS0, hcS0, hiss⟩ := Y.statics
  obtain ⟨u0, hu0⟩ := Cond.staticRefV Y.unassigned L.unassignedStatic L.statics hcS0 hiss (a' (.isRef (.static Bundle.tN "UNASSIGNED_STACK" Bundle.steD)) (by simp [Bundle.ownAtomsX]))
  obtain ⟨sen, hsen⟩ := Cond.staticRefV Y.sentinel L.sentinelStatic L.statics hcS0 hiss (a' (.isRef (.static Bundle.tN "SUPPRESSED_SENTINEL" Bundle.listD)) (by simp [Bundle.ownAtomsX]))
  obtain ⟨ci198, i198, fB, hk198, hg198, ha198, hsB, -, hnB, htB, hffB⟩ := Cond.ownField (t := .object "java/lang/Object") Y.found L.cls (by decide +kernel) (a' (.fieldLink Bundle.tN 198 Bundle.tN "backtrace" "Ljava/lang/Object;") (by simp [Bundle.ownAtomsX])) (a' (.lays Bundle.tN Bundle.tN "backtrace" "Ljava/lang/Object;") (by simp [Bundle.ownAtomsX])) e.platform hpl
  obtain ⟨cellS, hcS', heS, -, hkeep⟩ := X.same.2.2.2.2.2 T.aS cellS0 hcS0
  have hcellS : W.heap[T.aS]? = some cellS := hcS'
  have hout' : ∀ i, (⟨T.aS, i⟩ : Loc) ∉ locs := fun i hmem => by
    have := hlocs _ hmem cellS0 hcS0
    rw [hiss] at this; cases this
  have hknownS : cellS.vm ≠ .unknown := by
    rw [heS]; intro hu
    rw [show cellS0.vm = .unknown from hu] at hiss
    cases hiss
  have hneS : T.aS ≠ a := Nat.ne_of_lt (Nat.lt_of_lt_of_le (Array.getElem?_eq_some_iff.mp hcS0).1 hnew)
  obtain ⟨iM, hffM⟩ := Y.msg
  obtain ⟨tyC, dC, hdC, hdnC⟩ := Cond.laysAt hfound hk Y.cause (a' (.lays cls Bundle.tN "cause" "Ljava/lang/Throwable;") (by simp [Bundle.ownAtomsX]))
  obtain ⟨tyS, dS, hdS, hdnS⟩ := Cond.laysAt hfound hk Y.stack (a' (.lays cls Bundle.tN "stackTrace" Bundle.steD) (by simp [Bundle.ownAtomsX]))
  obtain ⟨tyP, dP, hdP, hdnP⟩ := Cond.laysAt hfound hk Y.supp (a' (.lays cls Bundle.tN "suppressedExceptions" Bundle.listD) (by simp [Bundle.ownAtomsX]))
  obtain ⟨tyM, dM, hdM, hdnM⟩ := Cond.laysAt hfound hk hffM (a' (.lays cls Bundle.tN "detailMessage" "Ljava/lang/String;") (by simp [Bundle.ownAtomsX]))
  obtain ⟨tyB, dB, hdB, hdnB⟩ := Cond.laysAt hfound hk hffB (a' (.lays cls Bundle.tN "backtrace" "Ljava/lang/Object;") (by simp [Bundle.ownAtomsX]))
  have bC := Cond.laysApart hdB hdC hdnB hdnC (by rw [hnB, Y.causeName]; decide)
  have bS := Cond.laysApart hdB hdS hdnB hdnS (by rw [hnB, Y.stackName]; decide)
  have bP := Cond.laysApart hdB hdP hdnB hdnP (by rw [hnB, Y.suppName]; decide)
  have hskip : SkipFacts T e.platform s (fun u => u) u0 ((preparedCellV T.toThrowableT (freshCell P1.m.cls kX) a u0 sen).withEntry W.cur) :=
    ⟨{ ci198 := ci198, i198 := i198, fBack := fB }, ⟨hk198, hg198, ha198, hsB⟩, by
      have := fresh_default (c := P1.m.cls) tyB
      rw [htB] at this
      simpa [preparedCellV, Cell.setSlot, Cell.withEntry, Array.getElem?_setIfInBounds, bC, bS, bP, bC.symm, bS.symm, bP.symm, defaultValue] using this, fun _ _ => rfl⟩
                                     
  obtain ⟨tm, methC, cdC, kC, vm₁, hnC, -, -, -, -, -, -, -, hW₁, st1⟩ := Steps.initColdS (tb := p.tables) (e := e) (below := below) (s := s) (U := W) X.here hexec X.warmed hpl hown (t := Bundle.initS cls) rfl rfl (Bundle.fit_spec hcls).2
    (a' (.methodLink own ic (Bundle.initS cls)) (by simp [Bundle.ownAtomsX])) (h (.instanceMethod (Bundle.initS cls)) (by cases names <;> simp [Bundle.ownAtomsX, Bundle.chainSAtomsX, Bundle.passSAtoms])) (bytes := rx) (maxL := 2) (h (.code (Bundle.initS cls) rx 2 none) (by cases names <;> simp [Bundle.ownAtomsX, Bundle.chainSAtomsX, Bundle.passSAtoms]))
    (f := g) hg (a := a) (msg := msg) (rest := .ref a :: rest) hstack hd6
  cases Option.some.inj (hnC.symm.trans hP1m)
  have X₁ := X.noted hW₁
                                 
  obtain ⟨vm₂, X₂, st2⟩ := X₁.ctorMessageOffV hexec (g := { g with stack := .ref a :: rest }) hg hsize T L Z LZ M LM (P1 :: Ps)
    (fun P hP => by rcases List.mem_cons.mp hP with rfl | hP; exact L1; exact hL P hP) ⟨hlink1, hlink⟩ (u0 := u0) (sen := sen) (self := a) hmsg (cell := freshCell P1.m.cls kX) (cellS := cellS)
    hcell (fun _ => by simp) (by simp) rfl rfl hsel0 hselF hcellS hneS hknownS (by rw [hkeep _ (hout' _)]; exact hu0) (by rw [hkeep _ (hout' _)]; exact hsen)
    (Takes.of_laid hk hord tyC (by rw [Y.causeType]; rfl)) (Takes.of_laid hk hord tyS (by rw [Y.stackType]; exact fits_refV_array _ u0)) (Takes.of_laid hk hord tyP (by rw [Y.suppType]; exact fits_refV_object _ sen))
    (Takes.of_laid hk hord tyM (by rw [Y.msgType]; exact fits_refV_object _ ⟨msg, hmsg⟩)) Y.objLocals hskip htr [] hd6
    (by simp only [List.length_cons, hlen]; omega) (by simp only [List.length_cons, hlen]; exact hRlocals)
                                    
  obtain ⟨hwalk, hrun, hended, hWU, hsame⟩ := X₂.athrowLeaves hexec (g := { g with stack := .ref a :: rest, pc := g.pc + 3 }) hg hlocked hentered hout (a := a) (rest := rest) rfl hd9
  have hlt : a < ((W.setVm vm₁).setVm vm₂).heap.size := (Array.getElem?_eq_some_iff.mp hcell).1
  have hU := heapAt_setCell_self (s := (W.setVm vm₁).setVm vm₂) (plainBareV T.toThrowableT (freshCell P1.m.cls kX) a u0 sen msg) hlt
  refine ⟨_, st1 _ (fun acts => ?_), hrun, hended, hWU, hsame.weaken (fun y hy hlt' => ?_) (Nat.le_refl _) (Nat.le_refl _), _, hU, hfound, rfl⟩
  · rw [doInvoke_state]
    exact st2 _ hwalk
  · rcases List.mem_append.mp hy with h1 | h1
    · exact h1
    · exfalso
      have hb : y.base = a := by
        simp only [List.mem_cons, List.not_mem_nil, or_false] at h1
        rcases h1 with rfl | rfl | rfl | rfl | rfl <;> rfl
      rw [hb] at hlt'
      exact Nat.not_lt.mpr hnew hlt'
end CtorX
/-- the words of a throw but the four that speak of the heap -/
def c_atX (own : String) (ic : Nat) (X : String) (jx : Nat) (rx : ByteArray) (names : List String) : List Cond := (Bundle.ownAtomsX own ic X jx rx names).filter vx_no
section EndsC
variable {p : Program} {l : Launch} {e : Env} {R : Room} {s : State} {m : MethodId} {args : Array Value} {below : List Frame} {meth : Method} {c : Code} {H : Heap} {locs : List Loc} {cells slots : Nat} {Q : State → Prop}
variable {mc ms : Nat} {free : Addr → Prop} {A0 A1 : Nat → Prop} {H0 : Heap} {a : Array Value} {ls : Array Slot} {st0 rest : List Value}
variable {Qc : Array Value → State → Outcome → State → Prop} {XC : String → State → State → Prop}
/-- 'throw new E("text")': new; dup; ldc; invokespecial; athrow -/
theorem c_throwS {cc : ByteArray} {pc : Nat} (hexec : p.tables.exec = Jvm.exec) (hb : c.code = cc) (hl : l.stackTraces = false) {jx : Nat} {rx : ByteArray} (x0 : decode rx 0 = .ok (.aload_n 0, 1)) (x1 : decode rx 1 = .ok (.aload_n 1, 1)) (x2 : decode rx 2 = .ok (.invokespecial jx, 3)) (x5 : decode rx 5 = .ok (.return_, 1)) {own cls text : String} {names : List String} {ik is ic mc ms sa : Nat} {A : Nat → Prop}
    (hown : s.vm.findClass own = some m.cls) (hcls : Bundle.fit cls = true) (hnames : ∀ n ∈ names, Bundle.fit n = true)
    (hk : (Cond.classLink own ik cls).before args s = true) (hini : (Cond.initialized cls).before args s = true) (hstr : vk_R own is text sa s) (hat : ∀ w ∈ c_atX own ic cls jx rx names, w.before args s = true)
    (hgood : ∀ w ∈ Cond.classLink own ik cls :: Cond.initialized cls :: c_atX own ic cls jx rx names, vx_ot w = true)
    (hU : vx_Zq Bundle.tN "UNASSIGNED_STACK" Bundle.steD A s s.heap) (hN : vx_Zq Bundle.tN "SUPPRESSED_SENTINEL" Bundle.listD A s s.heap) (hS : va_S A s.heap H locs) (hsize : ls.size = c.maxLocals)
    (d0 : decode cc pc = .ok (.new ik, 3)) (d3 : decode cc (pc + 3) = .ok (.dup, 1)) (d4 : decode cc (pc + 4) = .ok (.ldc is, 2)) (d6 : decode cc (pc + 6) = .ok (.invokespecial ic, 3)) (d9 : decode cc (pc + 9) = .ok (.athrow, 1))
    (hout : ∀ x ∈ c.exceptionTable.toList, covers x (pc + 9) = false)
    (hRframes : names.length + 3 < R.frames) (hRlocals : (rest.map fun v => v.category).sum + (13 * (names.length + 1) + 43) ≤ R.locals) (hRcells : cells + 1 ≤ R.cells) (hRslots : slots + 6 ≤ R.slots) (hlocks : meth.locks = false)
    (hx : ∀ t : State, s.vm.Alike t.vm → t.heap.size = H.size + 1 → (∀ q : Nat, q < H.size → t.heap[q]? = H[q]?) → XC cls s t)
    (hf : ∀ z ∈ locs, free z.base) (hc : cells + 1 ≤ mc) (hs : slots + 6 ≤ ms) :
    W p l e R s m args below meth c H locs cells slots (vx_MQ below Qc XC args s mc ms free) (F0 m pc ls rest) := by
  intro T hT X
  have htr : e.platform.stackTraces = false := (show e.platform.stackTraces = l.stackTraces by rw [X.admits.platform]).trans hl
  have Y := vx_rebase X (R' := { frames := R.frames, locals := R.locals, cells := 1, slots := 6 }) (Nat.le_refl _) (Nat.le_refl _) hRcells hRslots
  obtain ⟨s', hA⟩ : ∃ z, z = (T.setVm s.vm).setFrames (.invoking m args :: below) := ⟨_, rfl⟩
  rw [← hA] at Y
  have hvm : s'.vm = s.vm := by rw [hA]; rfl
  have hhp : s'.heap = H := by rw [hA]; exact hT
  have hW0 : s.WarmedH s'.vm := by rw [hvm]; exact State.WarmedH.refl s
  have hat' : ∀ w ∈ c_atX own ic cls jx rx names, w.before args s' = true := fun w hw => vx_ot_at hW0 hvm.symm (hgood w (List.mem_cons_of_mem _ (List.mem_cons_of_mem _ hw))) (hat w hw)
  have hk' : (Cond.classLink own ik cls).before args s' = true := vx_ot_at hW0 hvm.symm (hgood _ List.mem_cons_self) hk
  have hini' : (Cond.initialized cls).before args s' = true := vx_ot_at hW0 hvm.symm (hgood _ (List.mem_cons_of_mem _ List.mem_cons_self)) hini
  have hU' : vx_Zq Bundle.tN "UNASSIGNED_STACK" Bundle.steD A s' s'.heap := by rw [hhp]; exact vx_Zq.moved hW0.alike (hU.kept hS.2.1)
  have hN' : vx_Zq Bundle.tN "SUPPRESSED_SENTINEL" Bundle.listD A s' s'.heap := by rw [hhp]; exact vx_Zq.moved hW0.alike (hN.kept hS.2.1)
  have h : ∀ w ∈ Bundle.ownAtomsX own ic cls jx rx names, w.before args s' = true := vx_own hat' (vx_isRefq hU'.1) (vx_isRefq hN'.1) hU'.2.word hN'.2.word
  have hown' : s'.vm.findClass own = some m.cls := by rw [hvm]; exact hown
  have hins : (Cond.instantiable cls 6).before args s' = true := h _ (by simp [Bundle.ownAtomsX])
  obtain ⟨vm₁, cX, kX, hfX, hkX, -, -, X₁, st1⟩ := Y.newCold hexec (own := own) (C := cls) (index := ik) (n := 6) hown' hk' hins hini'
    (g := F0 m pc ls rest) rfl (by rw [hb]; exact d0) (Nat.le_refl _) (Nat.le_refl _)
  generalize hT1 : (T.setVm vm₁).pushCell { cls := cX, slots := kX.instanceTypes.map defaultValue, vm := .none } = T1 at X₁ st1
  have hcat : (Value.ref T.heap.size).category = 1 := rfl
  have hcellA : T1.heap[T.heap.size]? = some (freshCell cX kX) := by rw [← hT1]; exact State.heap_pushCell_size _ _
  have d3' : decode c.code (pc + 3) = .ok (.dup, 1) := by rw [hb]; exact d3
  have d4' : decode c.code (pc + 4) = .ok (.ldc is, 2) := by rw [hb]; exact d4
  have hstr' : vk_R own is text sa s' := vk_R.warm hW0 hstr
  obtain ⟨U, hsteps, hrun, hend, hW, hsame, ce, hce, hO, hO2⟩ := c_ctorThrow X₁ hexec htr x0 x1 x2 x5 (own := own) (cls := cls) (names := names) (ic := ic) hown' hcls hnames h (fun x hx => nomatch hx) hfX hkX hcellA (by rw [hhp, hT]; exact Nat.le_refl _) (msg := .ref sa) rfl
    (g := { method := m, pc := pc + 6, locals := ls, stack := .ref sa :: .ref T.heap.size :: .ref T.heap.size :: rest, locked := none }) rfl hsize rfl rfl (rest := rest) rfl
    (by rw [hb]; exact d6) (by rw [hb]; exact d9) hout hRframes (by simp only [List.map_cons, List.sum_cons, hcat]; omega) hlocks
  obtain ⟨f1, f2⟩ := vx_frame hsame
  have f3 : U.heap.size ≤ s'.heap.size + 1 := hsame.2.2.1
  have f4 : T.heap.size < U.heap.size := (Array.getElem?_eq_some_iff.mp hce).1
  rw [hT] at f4
  rw [hhp] at f1 f2 f3
  have hWs : s.WarmedH U.vm := State.WarmedH.trans hW0 hW
  have hcl : s.vm.findClass cls = some ce.cls := by
    have h9 := hO
    rw [hvm] at h9
    exact h9
  have hall : s.sameButNew ({ U with vm := s.vm } : State) locs mc ms := by
    subst hA
    obtain ⟨e1, e2⟩ := hsame
    rw [State.setFrames_setFrames] at e1
    have h2 : (T.setVm s.vm).sameButNew ({ U with vm := s.vm } : State) [] (0 + 1) (0 + 6) := ⟨e1, e2⟩
    have h3 := X.same.trans h2
    rw [List.append_nil] at h3
    exact h3.mono hc hs
  refine ⟨U, ?_, .threw T.heap.size, hrun, hend, Or.inr ⟨T.heap.size, rfl, cls, ce, locs, hx U hWs.alike (by omega) (fun q hq => f2 q hq (fun z hz => nomatch hz)), hce, hO2, hcl, hWs, hall, hf⟩⟩
  refine st1 _ ?_
  show Steps p.tables e below (T1.setTop { method := m, pc := pc + 3, locals := ls, stack := .ref T.heap.size :: rest, locked := none }) _
  jvm_step X₁.here [X₁.here.top, hexec, d3', Value.category]
  exact X₁.ldcString hexec (own := own) (text := text) (index := is) (a := sa) hown' hstr'.1 hstr'.2
    (g := { method := m, pc := pc + 4, locals := ls, stack := .ref T.heap.size :: .ref T.heap.size :: rest, locked := none }) rfl d4' _ hsteps
/-- 'throw new E("text")', the text by a wide index -/
theorem c_throwSW {cc : ByteArray} {pc : Nat} (hexec : p.tables.exec = Jvm.exec) (hb : c.code = cc) (hl : l.stackTraces = false) {jx : Nat} {rx : ByteArray} (x0 : decode rx 0 = .ok (.aload_n 0, 1)) (x1 : decode rx 1 = .ok (.aload_n 1, 1)) (x2 : decode rx 2 = .ok (.invokespecial jx, 3)) (x5 : decode rx 5 = .ok (.return_, 1)) {own cls text : String} {names : List String} {ik is ic mc ms sa : Nat} {A : Nat → Prop}
    (hown : s.vm.findClass own = some m.cls) (hcls : Bundle.fit cls = true) (hnames : ∀ n ∈ names, Bundle.fit n = true)
    (hk : (Cond.classLink own ik cls).before args s = true) (hini : (Cond.initialized cls).before args s = true) (hstr : vk_R own is text sa s) (hat : ∀ w ∈ c_atX own ic cls jx rx names, w.before args s = true)
    (hgood : ∀ w ∈ Cond.classLink own ik cls :: Cond.initialized cls :: c_atX own ic cls jx rx names, vx_ot w = true)
    (hU : vx_Zq Bundle.tN "UNASSIGNED_STACK" Bundle.steD A s s.heap) (hN : vx_Zq Bundle.tN "SUPPRESSED_SENTINEL" Bundle.listD A s s.heap) (hS : va_S A s.heap H locs) (hsize : ls.size = c.maxLocals)
    (d0 : decode cc pc = .ok (.new ik, 3)) (d3 : decode cc (pc + 3) = .ok (.dup, 1)) (d4 : decode cc (pc + 4) = .ok (.ldc_w is, 3)) (d7 : decode cc (pc + 7) = .ok (.invokespecial ic, 3)) (d10 : decode cc (pc + 10) = .ok (.athrow, 1))
    (hout : ∀ x ∈ c.exceptionTable.toList, covers x (pc + 10) = false)
    (hRframes : names.length + 3 < R.frames) (hRlocals : (rest.map fun v => v.category).sum + (13 * (names.length + 1) + 43) ≤ R.locals) (hRcells : cells + 1 ≤ R.cells) (hRslots : slots + 6 ≤ R.slots) (hlocks : meth.locks = false)
    (hx : ∀ t : State, s.vm.Alike t.vm → t.heap.size = H.size + 1 → (∀ q : Nat, q < H.size → t.heap[q]? = H[q]?) → XC cls s t)
    (hf : ∀ z ∈ locs, free z.base) (hc : cells + 1 ≤ mc) (hs : slots + 6 ≤ ms) :
    W p l e R s m args below meth c H locs cells slots (vx_MQ below Qc XC args s mc ms free) (F0 m pc ls rest) := by
  intro T hT X
  have htr : e.platform.stackTraces = false := (show e.platform.stackTraces = l.stackTraces by rw [X.admits.platform]).trans hl
  have Y := vx_rebase X (R' := { frames := R.frames, locals := R.locals, cells := 1, slots := 6 }) (Nat.le_refl _) (Nat.le_refl _) hRcells hRslots
  obtain ⟨s', hA⟩ : ∃ z, z = (T.setVm s.vm).setFrames (.invoking m args :: below) := ⟨_, rfl⟩
  rw [← hA] at Y
  have hvm : s'.vm = s.vm := by rw [hA]; rfl
  have hhp : s'.heap = H := by rw [hA]; exact hT
  have hW0 : s.WarmedH s'.vm := by rw [hvm]; exact State.WarmedH.refl s
  have hat' : ∀ w ∈ c_atX own ic cls jx rx names, w.before args s' = true := fun w hw => vx_ot_at hW0 hvm.symm (hgood w (List.mem_cons_of_mem _ (List.mem_cons_of_mem _ hw))) (hat w hw)
  have hk' : (Cond.classLink own ik cls).before args s' = true := vx_ot_at hW0 hvm.symm (hgood _ List.mem_cons_self) hk
  have hini' : (Cond.initialized cls).before args s' = true := vx_ot_at hW0 hvm.symm (hgood _ (List.mem_cons_of_mem _ List.mem_cons_self)) hini
  have hU' : vx_Zq Bundle.tN "UNASSIGNED_STACK" Bundle.steD A s' s'.heap := by rw [hhp]; exact vx_Zq.moved hW0.alike (hU.kept hS.2.1)
  have hN' : vx_Zq Bundle.tN "SUPPRESSED_SENTINEL" Bundle.listD A s' s'.heap := by rw [hhp]; exact vx_Zq.moved hW0.alike (hN.kept hS.2.1)
  have h : ∀ w ∈ Bundle.ownAtomsX own ic cls jx rx names, w.before args s' = true := vx_own hat' (vx_isRefq hU'.1) (vx_isRefq hN'.1) hU'.2.word hN'.2.word
  have hown' : s'.vm.findClass own = some m.cls := by rw [hvm]; exact hown
  have hins : (Cond.instantiable cls 6).before args s' = true := h _ (by simp [Bundle.ownAtomsX])
  obtain ⟨vm₁, cX, kX, hfX, hkX, -, -, X₁, st1⟩ := Y.newCold hexec (own := own) (C := cls) (index := ik) (n := 6) hown' hk' hins hini'
    (g := F0 m pc ls rest) rfl (by rw [hb]; exact d0) (Nat.le_refl _) (Nat.le_refl _)
  generalize hT1 : (T.setVm vm₁).pushCell { cls := cX, slots := kX.instanceTypes.map defaultValue, vm := .none } = T1 at X₁ st1
  have hcat : (Value.ref T.heap.size).category = 1 := rfl
  have hcellA : T1.heap[T.heap.size]? = some (freshCell cX kX) := by rw [← hT1]; exact State.heap_pushCell_size _ _
  have d3' : decode c.code (pc + 3) = .ok (.dup, 1) := by rw [hb]; exact d3
  have d4' : decode c.code (pc + 4) = .ok (.ldc_w is, 3) := by rw [hb]; exact d4
  have hstr' : vk_R own is text sa s' := vk_R.warm hW0 hstr
  obtain ⟨U, hsteps, hrun, hend, hW, hsame, ce, hce, hO, hO2⟩ := c_ctorThrow X₁ hexec htr x0 x1 x2 x5 (own := own) (cls := cls) (names := names) (ic := ic) hown' hcls hnames h (fun x hx => nomatch hx) hfX hkX hcellA (by rw [hhp, hT]; exact Nat.le_refl _) (msg := .ref sa) rfl
    (g := { method := m, pc := pc + 7, locals := ls, stack := .ref sa :: .ref T.heap.size :: .ref T.heap.size :: rest, locked := none }) rfl hsize rfl rfl (rest := rest) rfl
    (by rw [hb]; exact d7) (by rw [hb]; exact d10) hout hRframes (by simp only [List.map_cons, List.sum_cons, hcat]; omega) hlocks
  obtain ⟨f1, f2⟩ := vx_frame hsame
  have f3 : U.heap.size ≤ s'.heap.size + 1 := hsame.2.2.1
  have f4 : T.heap.size < U.heap.size := (Array.getElem?_eq_some_iff.mp hce).1
  rw [hT] at f4
  rw [hhp] at f1 f2 f3
  have hWs : s.WarmedH U.vm := State.WarmedH.trans hW0 hW
  have hcl : s.vm.findClass cls = some ce.cls := by
    have h9 := hO
    rw [hvm] at h9
    exact h9
  have hall : s.sameButNew ({ U with vm := s.vm } : State) locs mc ms := by
    subst hA
    obtain ⟨e1, e2⟩ := hsame
    rw [State.setFrames_setFrames] at e1
    have h2 : (T.setVm s.vm).sameButNew ({ U with vm := s.vm } : State) [] (0 + 1) (0 + 6) := ⟨e1, e2⟩
    have h3 := X.same.trans h2
    rw [List.append_nil] at h3
    exact h3.mono hc hs
  refine ⟨U, ?_, .threw T.heap.size, hrun, hend, Or.inr ⟨T.heap.size, rfl, cls, ce, locs, hx U hWs.alike (by omega) (fun q hq => f2 q hq (fun z hz => nomatch hz)), hce, hO2, hcl, hWs, hall, hf⟩⟩
  refine st1 _ ?_
  show Steps p.tables e below (T1.setTop { method := m, pc := pc + 3, locals := ls, stack := .ref T.heap.size :: rest, locked := none }) _
  jvm_step X₁.here [X₁.here.top, hexec, d3', Value.category]
  exact X₁.ldcStringW hexec (own := own) (text := text) (index := is) (a := sa) hown' hstr'.1 hstr'.2
    (g := { method := m, pc := pc + 4, locals := ls, stack := .ref T.heap.size :: .ref T.heap.size :: rest, locked := none }) rfl d4' _ hsteps
end EndsC
end
section
def c_exn : Nat → String × List String
  | 0 => ("java/lang/IllegalArgumentException", ["java/lang/RuntimeException", "java/lang/Exception"])
  | 1 => ("java/lang/IndexOutOfBoundsException", ["java/lang/RuntimeException", "java/lang/Exception"])
  | 2 => ("java/lang/UnsupportedOperationException", ["java/lang/RuntimeException", "java/lang/Exception"])
  | 3 => ("java/util/NoSuchElementException", ["java/lang/RuntimeException", "java/lang/Exception"])
  | 4 => ("java/lang/IllegalStateException", ["java/lang/RuntimeException", "java/lang/Exception"])
  | _ => ("java/lang/ArithmeticException", ["java/lang/RuntimeException", "java/lang/Exception"])
/-- a constructor with a text that hands on to its superclass's -/
def c_exx (jx : Nat) : ByteArray := ⟨#[0x2a, 0x2b, 0xb7, 0, jx.toUInt8, 0xb1]⟩
/-- the index by which it does so -/
def c_exj : Nat → Nat
  | 3 => 13
  | _ => 7
def c_at9 (own : String) (ic k : Nat) : List Cond := c_atX own ic (c_exn k).1 (c_exj k) (c_exx (c_exj k)) (c_exn k).2
def c_ats : List Cond → List Nat → Bool
  | [], _ => true
  | w :: r, i :: j => (c_w i w || c_n i w) && vx_ot w && c_ats r j
  | _ :: _, [] => false
theorem c_ats_ok : ∀ {ws : List Cond} {j : List Nat}, c_ats ws j = true → ∀ w ∈ ws, (w ∈ lw_tbl ∧ (goodWord w = true ∨ c_ng w = true)) ∧ vx_ot w = true
  | w :: r, i :: j, h, x, hx => by
    unfold c_ats at h
    simp only [Bool.and_eq_true, Bool.or_eq_true] at h
    rcases List.mem_cons.mp hx with e | e
    · subst e
      exact ⟨h.1.1.elim (fun z => ⟨(c_w_ok z).1, Or.inl (c_w_ok z).2⟩) (fun z => ⟨(c_n_ok z).1, Or.inr (c_n_ok z).2⟩), h.1.2⟩
    · exact c_ats_ok h.2 x e
  | _ :: _, [], h, _, _ => by cases h
  | [], _, _, _, hx => by cases hx
/-- a throw at pc: new, dup, ldc, invokespecial, athrow -/
def c_okT (own : String) (cc : ByteArray) (F R : Nat) (pc : Nat) (q : c_I) (ix : List Nat) : Bool :=
  match q.1, lw_tbl[ix.getD 2 0]? with
  | .new ik, some (.stringRef own2 is _) =>
    decide (own2 = own) && decide (decode cc pc = .ok (.new ik, 3)) && decide (decode cc (pc + 3) = .ok (.dup, 1)) && c_w (ix.getD 0 0) (.classLink own ik (c_exn q.2.1).1) && c_w (ix.getD 1 0) (.initialized (c_exn q.2.1).1) &&
    Bundle.fit (c_exn q.2.1).1 && (c_exn q.2.1).2.all Bundle.fit && c_ats (c_at9 own (ix.getD 3 0) q.2.1) (ix.drop 5) &&
    (Cond.classLink own ik (c_exn q.2.1).1 :: Cond.initialized (c_exn q.2.1).1 :: []).all vx_ot &&
    (if ix.getD 4 0 = 0 then decide (decode cc (pc + 4) = .ok (.ldc is, 2)) && decide (decode cc (pc + 6) = .ok (.invokespecial (ix.getD 3 0), 3)) && decide (decode cc (pc + 9) = .ok (.athrow, 1))
      else decide (decode cc (pc + 4) = .ok (.ldc_w is, 3)) && decide (decode cc (pc + 7) = .ok (.invokespecial (ix.getD 3 0), 3)) && decide (decode cc (pc + 10) = .ok (.athrow, 1))) &&
    decide ((c_exn q.2.1).2.length + 3 < F) && decide (8 + (13 * ((c_exn q.2.1).2.length + 1) + 43) ≤ R) &&
    (decide (decode (c_exx (c_exj q.2.1)) 0 = .ok (.aload_n 0, 1)) && decide (decode (c_exx (c_exj q.2.1)) 1 = .ok (.aload_n 1, 1)) && decide (decode (c_exx (c_exj q.2.1)) 2 = .ok (.invokespecial (c_exj q.2.1), 3)) && decide (decode (c_exx (c_exj q.2.1)) 5 = .ok (.return_, 1)))
  | _, _ => false
def c_cw (md : c_M) : Cond := if (c_mh md).isEmpty then .code (c_my md) (c_mc md) (c_mL md) (c_mr md) else .codeWith (c_my md) (c_mc md) (c_mL md) (c_mr md) (c_mh md)
def c_ws (md : c_M) : List Cond := c_cw md :: lw_tbl.filter goodWord
/-- a call of mz, from a method of the class own with F frames and the room R -/
def c_okC (own : String) (cc : ByteArray) (F R : Nat) (mz : c_M) (pc : Nat) (q : c_I) (ix : List Nat) : Bool :=
  decide (c_mF mz + 1 ≤ F) && decide (8 + (c_mL mz + 11) + c_mR mz ≤ R) && decide ((c_my mz).cls ≠ "java/lang/invoke/MethodHandle") && decide ((c_my mz).cls ≠ "java/lang/invoke/VarHandle") &&
  decide ((parseMethodDescriptor (c_my mz).desc).map (fun d => d.parameters.length) = some q.2.2.1) && c_w (ix.getD 0 0) (.initialized (c_my mz).cls) && c_w (ix.getD 4 0) (c_cw mz) &&
  (match q.1 with
  | .invokestatic i => decide (decode cc pc = .ok (.invokestatic i, 3)) && c_w (ix.getD 2 0) (.static (c_my mz)) && (if q.2.2.2 = 0 then c_w (ix.getD 1 0) (.methodLink own i (c_my mz)) else c_n (ix.getD 1 0) (.methodLinkNest own i (c_my mz) c_host) && (c_mh mz).isEmpty)
  | .invokevirtual i => decide (decode cc pc = .ok (.invokevirtual i, 3)) && (c_mh mz).isEmpty && decide ((c_cl[c_mk mz]?).map (fun r => r.1) = some (c_my mz).cls) && c_w (ix.getD 2 0) (.instanceMethod (c_my mz)) && c_w (ix.getD 3 0) (.selects (c_my mz).cls (c_my mz) (c_my mz)) && (if q.2.2.2 = 2 then c_w (ix.getD 1 0) (.methodLink own i (c_my mz)) else c_n (ix.getD 1 0) (.methodLinkNest own i (c_my mz) c_host))
  | .invokespecial i => decide (decode cc pc = .ok (.invokespecial i, 3)) && (c_mh mz).isEmpty && decide (c_mr mz = none) && decide ((c_my mz).name = "<init>") && c_w (ix.getD 2 0) (.instanceMethod (c_my mz)) && (if q.2.2.2 = 4 then c_w (ix.getD 1 0) (.methodLink own i (c_my mz)) else c_n (ix.getD 1 0) (.methodLinkNest own i (c_my mz) c_host))
  | _ => false)
/-- a catch -/
def c_okH (md : c_M) (w : Nat × Nat × Nat × Nat × Nat) : Bool :=
  match (tableOf (c_mh md))[w.2.2.1]? with
  | none => false
  | some x => ((tableOf (c_mh md)).take w.2.2.1).all (fun z => !covers z w.1 || (decide (z.catchType ≠ 0) && c_NC.any (fun v => decide (v.1 = (c_exn w.2.1).1) && decide (Cond.classLink (c_my md).cls z.catchType v.2 ∈ lw_tbl) && goodWord (Cond.classLink (c_my md).cls z.catchType v.2)))) &&
    covers x w.1 && decide (x.catchType ≠ 0) && decide (Cond.classLink (c_my md).cls x.catchType (c_exn w.2.1).1 ∈ lw_tbl) && goodWord (Cond.classLink (c_my md).cls x.catchType (c_exn w.2.1).1) && decide (Cond.castable (c_exn w.2.1).1 (c_exn w.2.1).1 ∈ lw_tbl) &&
    decide (x.handlerPc = ((c_mh md).getD w.2.2.1 (0, 0, 0, 0)).2.2.1) && decide (w.2.2.2.1 < c_mL md) &&
    (if w.2.2.2.2 = 1 then (match decode (c_mc md) x.handlerPc with
      | .ok (.astore_n n, 1) => decide (n.val = w.2.2.2.1)
      | _ => false) else decide (w.2.2.2.2 = 2) && decide (decode (c_mc md) x.handlerPc = .ok (.astore w.2.2.2.1, 2)))
def c_okQ (P : List c_M) (md : c_M) (pc : Nat) (q : c_I) (ix : List Nat) : Bool := match c_kd q with
  | 0 => c_okI (c_my md).cls (c_mc md) (decide ((c_my md).name = "<init>")) (c_mF md) (c_mR md) pc q ix
  | 1 => decide (decode (c_mc md) pc = .ok (.ireturn, 1))
  | 2 => decide (decode (c_mc md) pc = .ok (.return_, 1))
  | 4 => match P[q.2.1]? with
    | some mz => c_okC (c_my md).cls (c_mc md) (c_mF md) (c_mR md) mz pc q ix
    | none => false
  | 5 => c_okT (c_my md).cls (c_mc md) (c_mF md) (c_mR md) pc q ix
  | _ => false
def c_okL (P : List c_M) (md : c_M) : List (Nat × c_I) → List (List Nat) → Bool
  | [], _ => true
  | q :: r, i => c_okQ P md q.1 q.2 (i.headD []) && c_okL P md r i.tail
def c_okM (P : List c_M) (md : c_M) (ixs : List (List Nat)) : Bool :=
  plainFor (c_my md) && (c_mx md).all (c_okH md) && c_okL P md (c_mi md) ixs
theorem c_okL_at {P : List c_M} {md : c_M} {pc : Nat} {q : c_I} : ∀ (l : List (Nat × c_I)) (i : List (List Nat)), c_okL P md l i = true → c_at pc l = some q → ∃ ix, c_okQ P md pc q ix = true
  | [], _, _, h => by cases h
  | z :: r, i, ok, h => by
    unfold c_okL at ok
    rw [Bool.and_eq_true] at ok
    unfold c_at at h
    split at h
    · rename_i e
      cases h
      have e2 : z.1 = pc := Nat.eq_of_beq_eq_true e
      subst e2
      exact ⟨_, ok.1⟩
    · exact c_okL_at r _ ok.2 h
theorem c_cat_mem {pc E : Nat} {w : Nat × Nat × Nat} : ∀ l : List (Nat × Nat × Nat × Nat × Nat), c_cat pc E l = some w → (pc, E, w) ∈ l
  | [], h => by cases h
  | z :: r, h => by
    unfold c_cat at h
    split at h
    · rename_i e
      rw [Bool.and_eq_true] at e
      cases h
      have e2 := Nat.eq_of_beq_eq_true e.1
      have e3 := Nat.eq_of_beq_eq_true e.2
      subst e2 e3
      exact List.mem_cons_self
    · exact List.mem_cons_of_mem _ (c_cat_mem r h)
section Ent
variable {base b : Nat}
theorem c_ent_args : ∀ (as : List Value) (o i : Nat) (v : Value), (as.flatMap (fun v => if v.category = 2 then [some v, none] else [some v]))[i]? = some (some v) → (o + i, c_v base b v) ∈ lv_args o (as.map (c_v base b))
  | [], o, i, v, h => by simp at h
  | a :: t, o, i, v, h => by
    simp only [List.flatMap_cons] at h
    simp only [List.map_cons, lv_args]
    rw [c_v_cat]
    by_cases e : a.category = 2
    · simp only [e, if_true] at h ⊢
      match i, h with
      | 0, h =>
        simp at h
        subst h
        exact List.mem_cons_self
      | 1, h => simp at h
      | j + 2, h =>
        have h2 : (t.flatMap (fun v => if v.category = 2 then [some v, none] else [some v]))[j]? = some (some v) := by simpa using h
        have := c_ent_args t (o + 2) j v h2
        rw [show o + (j + 2) = o + 2 + j by omega]
        exact List.mem_cons_of_mem _ this
    · simp only [e, if_false] at h ⊢
      match i, h with
      | 0, h =>
        simp at h
        subst h
        exact List.mem_cons_self
      | j + 1, h =>
        have h2 : (t.flatMap (fun v => if v.category = 2 then [some v, none] else [some v]))[j]? = some (some v) := by simpa using h
        have := c_ent_args t (o + 1) j v h2
        rw [show o + (j + 1) = o + 1 + j by omega]
        exact List.mem_cons_of_mem _ this
theorem c_ent_len (as : List Value) : (as.flatMap (fun v => if v.category = 2 then [some v, none] else [some v])).length = (lg_sl (as.map (c_v base b))).length := by
  induction as with
  | nil => rfl
  | cons a t ih =>
    simp only [List.flatMap_cons, List.length_append, List.map_cons, lg_sl, ih, c_v_cat]
    by_cases e : a.category = 2 <;> simp [e]
theorem c_ent_LR {as : List Value} {n : Nat} (h : (c_ent as n).length = n) : c_LR base b ((lg_sl (as.map (c_v base b)) ++ List.replicate (n - (lg_sl (as.map (c_v base b))).length) Slot.unset).toArray) n (c_ent as n) := by
  have hl : (as.flatMap (fun v => if v.category = 2 then [some v, none] else [some v])).length ≤ n := by
    unfold c_ent at h
    simp only [List.length_append, List.length_replicate] at h
    omega
  have hv := lv_entry (as.map (c_v base b)) (n := n) (by rw [← c_ent_len]; exact hl)
  refine ⟨h, hv.1, hv.2.1, fun i v hi => ?_⟩
  unfold c_ent at hi
  simp only at hi
  by_cases e : i < (as.flatMap (fun v => if v.category = 2 then [some v, none] else [some v])).length
  · rw [List.getElem?_append_left e] at hi
    have := c_ent_args (base := base) (b := b) as 0 i v hi
    rw [Nat.zero_add] at this
    exact hv.2.2 _ this
  · rw [List.getElem?_append_right (by omega), List.getElem?_replicate] at hi
    split at hi <;> cases hi
theorem c_LR.lost {ls ls' : Array Slot} {nL : Nat} {L : c_Ls} (h : c_LR base b ls nL L) {i : Nat} {v : Value} (hc : v.category = 1) (h' : lv_has ls' nL ((i, v) :: (c_al base b L).filter (fun q => !(q.1 == i) && !(q.1 + 1 == i && q.2.category == 2)))) : c_LR base b ls' nL ((c_clr L i).set i none) := by
  refine ⟨by rw [List.length_set, c_clr_len]; exact h.1, h'.1, h'.2.1, fun j w hw => ?_⟩
  by_cases e : j = i
  · subst e
    rw [List.getElem?_set] at hw
    simp only [if_true] at hw
    split at hw <;> cases hw
  · rw [List.getElem?_set_ne (fun z => e z.symm)] at hw
    obtain ⟨h1, h2⟩ := c_clr_get e hw
    refine h'.2.2 (j, c_v base b w) (List.mem_cons_of_mem _ (List.mem_filter.mpr ⟨c_al_mem h1, ?_⟩))
    have e3 : (c_v base b w).category = w.category := c_v_cat base b w
    simp only [e3]
    by_cases e4 : j + 1 = i
    · have e5 : ¬ w.category = 2 := fun z => h2 ⟨e4, z⟩
      simp [e, e5]
    · simp [e, e4]
end Ent
end
section
section Snd
variable {l : Launch} {D : va_G} {A : Nat → ClassId} {H0 : Heap} {base b : Nat} {X : List Int32}
/-- what is so of any state while the law runs -/
def c_G (D : va_G) (A : Nat → ClassId) (H0 : Heap) (base b : Nat) (X : List Int32) (U : State) : Prop :=
  c_Fac D A U ∧ (va_X b X.length (fun j => X.getD j 0) U H0 ∧ b < base) ∧ vx_Zq Bundle.tN "UNASSIGNED_STACK" Bundle.steD (fun q => base ≤ q) U H0 ∧ vx_Zq Bundle.tN "SUPPRESSED_SENTINEL" Bundle.listD (fun q => base ≤ q) U H0
theorem c_G.moved {s U : State} (h : c_G D A H0 base b X s) (hW : s.WarmedH U.vm) : c_G D A H0 base b X U :=
  ⟨h.1.moved hW, ⟨va_X.moved hW.alike h.2.1.1, h.2.1.2⟩, vx_Zq.moved hW.alike h.2.2.1, vx_Zq.moved hW.alike h.2.2.2⟩
theorem c_G.same {s U : State} (h : c_G D A H0 base b X s) (e : U.vm = s.vm) : c_G D A H0 base b X U := h.moved (by rw [e]; exact State.WarmedH.refl s)
def c_Pc (D : va_G) (A : Nat → ClassId) (H0 : Heap) (base b : Nat) (X : List Int32) (as : List Value) (h : c_Hp) : Array Value → State → Prop := fun v U => v = (as.map (c_v base b)).toArray ∧ c_HR D A H0 base b h U.heap ∧ c_G D A H0 base b X U
def c_Qc (D : va_G) (A : Nat → ClassId) (H0 : Heap) (base b : Nat) (r : c_O × c_Hp) : Array Value → State → Outcome → State → Prop := fun _ _ o t => ∃ v, r.1 = .inl v ∧ o = .returned (v.map (c_v base b)) ∧ c_HR D A H0 base b r.2 t.heap
def c_XC (D : va_G) (A : Nat → ClassId) (H0 : Heap) (base b : Nat) (r : c_O × c_Hp) : String → State → State → Prop := fun E _ t => ∃ k, r.1 = .inr k ∧ E = (c_exn k).1 ∧ c_HR D A H0 base b r.2 t.heap
def c_rm (md : c_M) (h : c_Hp) (r : c_O × c_Hp) : Room := { frames := c_mF md, cells := r.2.length - h.length, slots := c_msz r.2 - c_msz h, locals := c_mR md }
def c_Met (l : Launch) (D : va_G) (A : Nat → ClassId) (H0 : Heap) (base b : Nat) (X : List Int32) (md : c_M) (as : List Value) (h : c_Hp) (r : c_O × c_Hp) : Prop :=
  vx_Met l (c_my md) (c_ws md) (c_rm md h r) (c_Pc D A H0 base b X as h) (c_Qc D A H0 base b r) (c_XC D A H0 base b r) (r.2.length - h.length) (c_msz r.2 - c_msz h) (fun q => base ≤ q)
theorem c_Pc_blind {as : List Value} {h : c_Hp} : FrameBlind (c_Pc D A H0 base b X as h) := fun _ _ _ _ q => ⟨q.1, q.2.1, q.2.2.same rfl⟩
section Frame
variable {p : Program} {e : Env} {R : Room} {s : State} {m : MethodId} {args : Array Value} {below : List Frame} {meth : Method} {c : Code} {Q : State → Prop} {nL n0 z0 F Rl : Nat} {y : MethodName} {cc : ByteArray}
theorem c_ctx.G (C : c_ctx p l R s m args meth c D A H0 base b X y cc nL F Rl) : c_G D A H0 base b X s := by
  obtain ⟨-, -, -, -, -, h6, -, -, -, -, -, h12, h13, h14⟩ := C
  exact ⟨h6, h12, h13, h14⟩
theorem c_ctx.pays (C : c_ctx p l R s m args meth c D A H0 base b X y cc nL F Rl) {md : c_M} {iw : Nat} (h : c_w iw (c_cw md) = true) : ∀ w ∈ c_ws md, ∀ (a' : Array Value) (U : State), s.WarmedH U.vm → w.before a' U = true := by
  obtain ⟨-, -, -, -, hts, -⟩ := C
  obtain ⟨w1, w2⟩ := c_w_ok h
  intro w hw a' U hW
  unfold c_ws at hw
  rcases List.mem_cons.mp hw with e1 | e1
  · rw [e1]
    exact word_at hW (good_of_word w2) (hts _ w1 w2)
  · obtain ⟨g1, g2⟩ := List.mem_filter.mp e1
    exact word_at hW (good_of_word g2) (hts _ g1 g2)
theorem c_ctx.fix (C : c_ctx p l R s m args meth c D A H0 base b X y cc nL F Rl) : CallFix p m c cc nL s args (lw_tbl.filter goodWord) y.cls := by
  obtain ⟨hx, hb, hml, hown, hts, -⟩ := C
  exact ⟨hx, hb, hml, hown, fun w hw => hts w (List.mem_filter.mp hw).1 (List.mem_filter.mp hw).2⟩
theorem c_cw_in (md : c_M) : c_cw md ∈ c_ws md := List.mem_cons_self
/-- a call, as it runs -/
theorem c_run {h : c_Hp} {st : List Value} {H : Heap} {locs : List Loc} {cells slots pc : Nat} {ls : Array Slot} {q : c_I} {ix : List Nat} {mz : c_M} {ar : List Value × List Value} {r2 : c_O × c_Hp}
    (C : c_ctx p l R s m args meth c D A H0 base b X y cc nL F Rl) (ok : c_okC y.cls cc F Rl mz pc q ix = true) (hp : c_prt mz q st h = some ar) (hM : c_Met l D A H0 base b X mz ar.1 h r2)
    (hH : c_HR D A H0 base b h H) (hL : ls.size = nL) (hc : cells + (r2.2.length - h.length) ≤ R.cells) (hs : slots + (c_msz r2.2 - c_msz h) ≤ R.slots) :
    vx_Run p l e R s m args below meth c H locs cells slots (r2.2.length - h.length) (c_msz r2.2 - c_msz h) (F0 m pc ls (st.map (c_v base b))) (ar.2.map (c_v base b)) (c_Qc D A H0 base b r2 (ar.1.map (c_v base b)).toArray) (c_XC D A H0 base b r2) (fun q => base ≤ q) := by
  have hfix := C.fix
  have hG := C.G
  have C2 := C
  obtain ⟨hx, hb, hml, hown, hts, ⟨hK, hA, hng, -⟩, -, -, hF, hR, -⟩ := C2
  unfold c_okC at ok
  simp only [Bool.and_eq_true, decide_eq_true_eq] at ok
  obtain ⟨⟨⟨⟨⟨⟨⟨o1, o2⟩, o3⟩, o4⟩, o5⟩, o6⟩, hiw⟩, ok⟩ := ok
  have hpay := C.pays hiw
  obtain ⟨wz1, wz2⟩ := c_w_ok hiw
  obtain ⟨i1, i2⟩ := c_w_ok o6
  have hini := hts _ i1 i2
  unfold c_prt at hp
  simp only at hp
  split at hp
  · cases hp
  · rename_i hlen
    split at hp
    · rename_i hsum
      split at hp
      · rename_i hrcv
        split at hp
        · cases hp
          have hst : st = (st.take (c_cn q)).reverse.reverse ++ st.drop (c_cn q) := by rw [List.reverse_reverse, List.take_append_drop]
          generalize hn : c_cn q = n at hst hsum hrcv hM hlen ⊢
          unfold c_cn at hn
          generalize has : (st.take n).reverse = as at hst hrcv hM ⊢
          have haslen : as.length = n := by rw [← has, List.length_reverse, List.length_take]; omega
          generalize hrest : st.drop n = rest at hst hsum ⊢
          have hsum2 : ((rest.map (c_v base b)).map fun v => v.category).sum ≤ 8 := by rw [c_v_cats]; exact hsum
          have hstm : st.map (c_v base b) = (as.map (c_v base b)).reverse ++ rest.map (c_v base b) := by rw [hst, List.map_append, List.map_reverse]
          have hpre : ∀ U : State, U.heap = H → s.WarmedH U.vm → c_Pc D A H0 base b X as h (as.map (c_v base b)).toArray U := fun U hU hW => ⟨rfl, by rw [hU]; exact hH, hG.moved hW⟩
          have hCB : ∀ ret : Option FieldType, ∀ i : Nat, (c_mh mz).isEmpty = true → ret = c_mr mz → (Cond.methodLink y.cls i (c_my mz)).before args s = true → CallB R s args y.cls i (c_my mz) (c_mc mz) (c_mL mz) ret (c_ws mz) (c_rm mz h r2) (r2.2.length - h.length) (c_msz r2.2 - c_msz h) q.2.2.1 := by
            intro ret i he hr hlk
            subst hr
            have hcw : c_cw mz = .code (c_my mz) (c_mc mz) (c_mL mz) (c_mr mz) := by unfold c_cw; rw [if_pos he]
            refine ⟨rfl, rfl, by show c_mF mz + 1 ≤ _; omega, by show _ + c_mR mz ≤ _; omega, hpay, by rw [← hcw]; exact c_cw_in mz, by rw [← hcw]; exact hts _ wz1 wz2, hini, ⟨o3, o4⟩, fun sig hsig => ?_, hlk⟩
            rw [hsig] at o5
            exact (Option.some.inj o5).symm
          have hCN : ∀ ret : Option FieldType, ∀ i : Nat, (c_mh mz).isEmpty = true → ret = c_mr mz → (Cond.methodLinkNest y.cls i (c_my mz) c_host).before args s = true → va_CN R s args y.cls i (c_my mz) c_host (c_mc mz) (c_mL mz) ret (c_ws mz) (c_rm mz h r2) (r2.2.length - h.length) (c_msz r2.2 - c_msz h) q.2.2.1 := by
            intro ret i he hr hlk
            subst hr
            have hcw : c_cw mz = .code (c_my mz) (c_mc mz) (c_mL mz) (c_mr mz) := by unfold c_cw; rw [if_pos he]
            refine ⟨⟨rfl, rfl, by show c_mF mz + 1 ≤ _; omega, by show _ + c_mR mz ≤ _; omega, hpay, by rw [← hcw]; exact c_cw_in mz⟩, by rw [← hcw]; exact hts _ wz1 wz2, hini, ⟨o3, o4⟩, fun sig hsig => ?_, hlk⟩
            rw [hsig] at o5
            exact (Option.some.inj o5).symm
          have hlsm : (F0 m pc ls (st.map (c_v base b))).locals.size = nL := hL
          cases hq : q.1
          case invokestatic i =>
            simp only [hq, Bool.and_eq_true, decide_eq_true_eq] at ok
            obtain ⟨⟨hd, k2⟩, k3⟩ := ok
            obtain ⟨u1, u2⟩ := c_w_ok k2
            have hS : c_isS q = true := by unfold c_isS; rw [hq]
            rw [if_pos hS] at hn
            have hal : (as.map (c_v base b)).length = q.2.2.1 := by rw [List.length_map, haslen, hn]
            split at k3
            · obtain ⟨v1, v2⟩ := c_w_ok k3
              by_cases he : (c_mh mz).isEmpty = true
              · exact vx_runS (ret := c_mr mz) hfix hM ⟨hCB _ i he rfl (hts _ v1 v2), hts _ u1 u2⟩ ⟨c_Pc_blind, hpre⟩ rfl hal hlsm hstm (by show 2 * 0 + ((rest.map (c_v base b)).map fun v => v.category).sum ≤ 8; omega) hd ⟨hc, hs⟩
              · have hcw : c_cw mz = .codeWith (c_my mz) (c_mc mz) (c_mL mz) (c_mr mz) (c_mh mz) := by unfold c_cw; rw [if_neg he]
                refine vx_runSX (bytes := c_mc mz) (maxL := c_mL mz) (ret := c_mr mz) (hh := c_mh mz) (rm := c_rm mz h r2) hfix hM ⟨⟨rfl, rfl, by show c_mF mz + 1 ≤ _; omega, by show _ + c_mR mz ≤ _; omega, hpay, by rw [← hcw]; exact c_cw_in mz⟩, by rw [← hcw]; exact hts _ wz1 wz2, hini, ⟨o3, o4⟩, fun sig hsig => ?_, hts _ v1 v2, hts _ u1 u2⟩ ⟨c_Pc_blind, hpre⟩ rfl hal hlsm hstm (by show 2 * 0 + ((rest.map (c_v base b)).map fun v => v.category).sum ≤ 8; omega) hd ⟨hc, hs⟩
                rw [hsig] at o5
                exact (Option.some.inj o5).symm
            · rw [Bool.and_eq_true] at k3
              obtain ⟨v1, v2⟩ := c_n_ok k3.1
              exact vx_runSN (ret := c_mr mz) hfix hM ⟨hCN _ i k3.2 rfl (va_Nw.use rfl (hng _ v1 v2)), hts _ u1 u2, trivial⟩ ⟨c_Pc_blind, hpre⟩ rfl hal hlsm hstm (by show 2 * 0 + ((rest.map (c_v base b)).map fun v => v.category).sum ≤ 8; omega) hd ⟨hc, hs⟩
          case invokevirtual i =>
            simp only [hq, Bool.and_eq_true, decide_eq_true_eq] at ok
            obtain ⟨⟨⟨⟨⟨hd, he⟩, k1⟩, k2⟩, k4⟩, k3⟩ := ok
            obtain ⟨u1, u2⟩ := c_w_ok k2
            obtain ⟨x1, x2⟩ := c_w_ok k4
            have hS : c_isS q = false := by unfold c_isS; rw [hq]
            rw [hS] at hn hrcv
            have hn2 : q.2.2.1 + 1 = n := hn
            unfold c_rcv at hrcv
            rw [if_neg (show ¬ false = true by decide)] at hrcv
            split at hrcv
            · rename_i a As
              obtain ⟨fs, hfs⟩ := Option.isSome_iff_exists.mp hrcv
              have hal : (As.map (c_v base b)).length = q.2.2.1 := by rw [List.length_map]; simp only [List.length_cons] at haslen; omega
              obtain ⟨rr, g1, -, cell, q1, q2, q3, -⟩ := hH.2.2.2 a _ (c_fs_ok hfs)
              simp only at g1 q1 q2
              rw [g1] at k1
              have hC : rr.1 = (c_my mz).cls := by simpa using k1
              have hrecv : ∃ cellB : Cell, H[base + a]? = some cellB ∧ cellB.vm.isStatics = false ∧ s.vm.findClass (c_my mz).cls = some cellB.cls := ⟨cell, q1, by rw [q3]; rfl, by rw [q2, ← hC]; exact (hK.1 _ _ g1).2.1⟩
              have hstm2 : st.map (c_v base b) = (As.map (c_v base b)).reverse ++ .ref (base + a) :: rest.map (c_v base b) := by rw [hstm]; simp [c_v]
              split at k3
              · obtain ⟨v1, v2⟩ := c_w_ok k3
                exact vx_runV (ret := c_mr mz) hfix hM ⟨hCB _ i he rfl (hts _ v1 v2), hts _ u1 u2, hts _ x1 x2⟩ ⟨c_Pc_blind, hrecv, hpre⟩ rfl hal hlsm hstm2 (by show 2 * 0 + ((rest.map (c_v base b)).map fun v => v.category).sum ≤ 8; omega) hd ⟨hc, hs⟩
              · obtain ⟨v1, v2⟩ := c_n_ok k3
                exact vx_runVN (ret := c_mr mz) hfix hM ⟨hCN _ i he rfl (va_Nw.use rfl (hng _ v1 v2)), hts _ u1 u2, hts _ x1 x2⟩ ⟨c_Pc_blind, hrecv, hpre⟩ rfl hal hlsm hstm2 (by show 2 * 0 + ((rest.map (c_v base b)).map fun v => v.category).sum ≤ 8; omega) hd ⟨hc, hs⟩
            · simp at hrcv
          case invokespecial i =>
            simp only [hq, Bool.and_eq_true, decide_eq_true_eq] at ok
            obtain ⟨⟨⟨⟨⟨hd, he⟩, k1⟩, k5⟩, k2⟩, k3⟩ := ok
            obtain ⟨u1, u2⟩ := c_w_ok k2
            have hS : c_isS q = false := by unfold c_isS; rw [hq]
            rw [hS] at hn hrcv
            have hn2 : q.2.2.1 + 1 = n := hn
            unfold c_rcv at hrcv
            rw [if_neg (show ¬ false = true by decide)] at hrcv
            split at hrcv
            · rename_i a As
              have hal : (As.map (c_v base b)).length = q.2.2.1 := by rw [List.length_map]; simp only [List.length_cons] at haslen; omega
              have hstm2 : st.map (c_v base b) = (As.map (c_v base b)).reverse ++ .ref (base + a) :: rest.map (c_v base b) := by rw [hstm]; simp [c_v]
              split at k3
              · obtain ⟨v1, v2⟩ := c_w_ok k3
                exact vx_runI hfix hM ⟨hCB none i he k1.symm (hts _ v1 v2), k5, hts _ u1 u2⟩ ⟨c_Pc_blind, hpre⟩ rfl hal hlsm hstm2 (by show 2 * 0 + ((rest.map (c_v base b)).map fun v => v.category).sum ≤ 8; omega) hd ⟨hc, hs⟩
              · obtain ⟨v1, v2⟩ := c_n_ok k3
                exact vx_runIN hfix hM ⟨hCN none i he k1.symm (va_Nw.use rfl (hng _ v1 v2)), k5, hts _ u1 u2⟩ ⟨c_Pc_blind, hpre⟩ rfl hal hlsm hstm2 (by show 2 * 0 + ((rest.map (c_v base b)).map fun v => v.category).sum ≤ 8; omega) hd ⟨hc, hs⟩
            · simp at hrcv
          all_goals (simp only [hq] at ok; cases ok)
        · cases hp
      · cases hp
    · cases hp
end Frame
end Snd
end
section
theorem c_ofW {l : Launch} {y : MethodName} {ws ws' : List Cond} {rm : Room} {Pc : Array Value → State → Prop} {Qc : Array Value → State → Outcome → State → Prop} {XC : String → State → State → Prop} {mc ms : Nat} {free : Addr → Prop} {cc : ByteArray} {maxL : Nat} {ret : Option FieldType}
    (hy : plainFor y = true) (hw : ws = Cond.code y cc maxL ret :: ws')
    (body : ∀ p e s m args below meth c s₁, BodyLoose p l y (headSpec ws rm) cc maxL ret e s m args below meth c s₁ → c.maxLocals = maxL → (∀ x ∈ c.exceptionTable.toList, False) → Pc args s →
      W p l e (headSpec ws rm).room s m args below meth c s.heap [] 0 0 (vx_MQ below Qc XC args s mc ms free) (entryFrame m args maxL)) : vx_Met l y ws rm Pc Qc XC mc ms free := by
  refine MetFree.of_bodyRF (code := cc) (maxLocals := maxL) (ret := ret) hy ?_ ?_
  · intro args s m h hn
    obtain ⟨meth, c, h1, h2, h3, h4, h5, h6, -, -⟩ := Cond.code_spec hn (atoms_spec (ws := ws) h _ (by rw [hw]; exact List.mem_cons_self))
    exact ⟨meth, c, h1, h2, h3, h4, h5, h6⟩
  · intro p e s m args below meth c s₁ B hml hP _ hst9
    have hh0 : s₁.heap = s.heap := by rw [B.state]; rfl
    have ht : ∀ x ∈ c.exceptionTable.toList, False := by
      obtain ⟨meth9, c9, h1, h2, -, -, -, -, h7, -⟩ := Cond.code_spec B.named (atoms_spec (ws := ws) B.pre _ (by rw [hw]; exact List.mem_cons_self))
      cases Option.some.inj (h1.symm.trans B.method)
      cases Option.some.inj (h2.symm.trans (Stand.of_body B).code)
      intro x hx
      rw [Array.isEmpty_iff.mp h7] at hx
      cases hx
    obtain ⟨t, a1, o, b1, b2, b3⟩ := body p e s m args below meth c s₁ B hml ht hP s₁ hh0 (Stand.of_body B)
    exact ⟨t, o, hst9.trans a1, b1, b2, b3⟩
theorem c_ofWH {l : Launch} {y : MethodName} {ws ws' : List Cond} {rm : Room} {Pc : Array Value → State → Prop} {Qc : Array Value → State → Outcome → State → Prop} {XC : String → State → State → Prop} {mc ms : Nat} {free : Addr → Prop} {cc : ByteArray} {maxL : Nat} {ret : Option FieldType} {hh : List (Nat × Nat × Nat × Nat)}
    (hy : plainFor y = true) (hw : ws = Cond.codeWith y cc maxL ret hh :: ws')
    (body : ∀ p e s m args below meth c s₁, BodyLoose p l y (headSpec ws rm) cc maxL ret e s m args below meth c s₁ → c.maxLocals = maxL → Pc args s →
      W p l e (headSpec ws rm).room s m args below meth c s.heap [] 0 0 (vx_MQ below Qc XC args s mc ms free) (entryFrame m args maxL)) : vx_Met l y ws rm Pc Qc XC mc ms free := by
  refine MetFree.of_bodyRF (code := cc) (maxLocals := maxL) (ret := ret) hy ?_ ?_
  · intro args s m h hn
    obtain ⟨m9, meth, c, hn9, h1, h2, h3, h4, -, h5, h6, -⟩ := Cond.codeWith_spec (atoms_spec (ws := ws) h _ (by rw [hw]; exact List.mem_cons_self))
    cases hn.symm.trans hn9
    exact ⟨meth, c, h1, h2, h3, h4, h5, h6⟩
  · intro p e s m args below meth c s₁ B hml hP _ hst9
    have hh0 : s₁.heap = s.heap := by rw [B.state]; rfl
    obtain ⟨t, a1, o, b1, b2, b3⟩ := body p e s m args below meth c s₁ B hml hP s₁ hh0 (Stand.of_body B)
    exact ⟨t, o, hst9.trans a1, b1, b2, b3⟩
section Frm
variable {l : Launch} {D : va_G} {A : Nat → ClassId} {H0 : Heap} {base b : Nat} {X : List Int32}
/-- the tables of a program hold: I has the places of the words -/
def c_okP (P : List c_M) (I : List (List (List Nat))) : Prop := ∀ k md, P[k]? = some md → c_okM P md (I.getD k []) = true
def c_okT2 (md : c_M) (pc : Nat) (E : Nat) : Prop := ∃ q ix, q.2.1 = E ∧ c_okT (c_my md).cls (c_mc md) (c_mF md) (c_mR md) pc q ix = true
section One
variable {p : Program} {e : Env} {R : Room} {s : State} {m : MethodId} {args : Array Value} {below : List Frame} {meth : Method} {c : Code} {Q : State → Prop} {n0 z0 : Nat}
/-- what becomes of it at its end: a return -/
def c_Ret (p : Program) (l : Launch) (e : Env) (R : Room) (s : State) (m : MethodId) (args : Array Value) (below : List Frame) (meth : Method) (c : Code) (Q : State → Prop) (D : va_G) (A : Nat → ClassId) (H0 : Heap) (base b n0 z0 : Nat) (md : c_M) (r : c_O × c_Hp) : Prop :=
  ∀ v, r.1 = .inl v → ∀ (pc : Nat) (H : Heap) (locs : List Loc) (cells slots : Nat) (ls : Array Slot), ((∃ x t, v = some (.int x) ∧ decode (c_mc md) pc = .ok (.ireturn, 1) ∧ c_mr md = some t ∧ narrow t (.int x) = .int x) ∨ (v = none ∧ decode (c_mc md) pc = .ok (.return_, 1) ∧ c_mr md = none)) →
    c_HR D A H0 base b r.2 H → (∀ z ∈ locs, base ≤ z.base) → cells + n0 = r.2.length → slots + z0 = c_msz r.2 → W p l e R s m args below meth c H locs cells slots Q (F0 m pc ls (v.toList.map (c_v base b)))
/-- .. a throw here -/
def c_Thr (p : Program) (l : Launch) (e : Env) (R : Room) (s : State) (m : MethodId) (args : Array Value) (below : List Frame) (meth : Method) (c : Code) (Q : State → Prop) (D : va_G) (A : Nat → ClassId) (H0 : Heap) (base b nL n0 z0 : Nat) (md : c_M) (r : c_O × c_Hp) : Prop :=
  ∀ E h, r = (.inr E, h ++ [none]) → (c_mh md).isEmpty = true → ∀ (pc : Nat) (H : Heap) (locs : List Loc) (cells slots : Nat) (ls : Array Slot) (rest : List Value), c_okT2 md pc E → c_HR D A H0 base b h H → (∀ z ∈ locs, base ≤ z.base) → cells + n0 = h.length → slots + z0 = c_msz h → ls.size = nL → (rest.map fun v => v.category).sum ≤ 8 → W p l e R s m args below meth c H locs cells slots Q (F0 m pc ls rest)
/-- .. a throw that comes by -/
def c_Prp (p : Program) (l : Launch) (e : Env) (R : Room) (s : State) (m : MethodId) (args : Array Value) (below : List Frame) (meth : Method) (c : Code) (Q : State → Prop) (D : va_G) (A : Nat → ClassId) (H0 : Heap) (base b n0 z0 : Nat) (md : c_M) (r : c_O × c_Hp) : Prop :=
  ∀ E, r.1 = .inr E → (c_mh md).isEmpty = true → ∀ (pc : Nat) (H : Heap) (locs : List Loc) (cells slots : Nat) (ls : Array Slot) (rest : List Value) (q : Addr) (ce : Cell), c_HR D A H0 base b r.2 H → (∀ z ∈ locs, base ≤ z.base) → cells + n0 = r.2.length → slots + z0 = c_msz r.2 → H[q]? = some ce → ce.vm = .none → s.vm.findClass (c_exn E).1 = some ce.cls → vx_W p l e R s m args below meth c H locs cells slots Q (F0 m pc ls rest) q
end One
/-- frames of all methods, for runs of n steps -/
def c_Sim (l : Launch) (D : va_G) (A : Nat → ClassId) (H0 : Heap) (base b : Nat) (X : List Int32) (P : List c_M) (n : Nat) : Prop :=
  ∀ (k : Nat) (md : c_M) (pc : Nat) (L : c_Ls) (st : List Value) (h : c_Hp) (r : c_O × c_Hp), P[k]? = some md → c_go P c_ty c_nf X n k pc L st h = some r →
  ∀ (p : Program) (e : Env) (R : Room) (s : State) (m : MethodId) (args : Array Value) (below : List Frame) (meth : Method) (c : Code) (Q : State → Prop) (n0 z0 : Nat),
    c_ctx p l R s m args meth c D A H0 base b X (c_my md) (c_mc md) (c_mL md) (c_mF md) (c_mR md) → (c_mx md = [] ∨ c.exceptionTable.toList = tableOf (c_mh md)) →
    c_Ret p l e R s m args below meth c Q D A H0 base b n0 z0 md r → c_Thr p l e R s m args below meth c Q D A H0 base b (c_mL md) n0 z0 md r → c_Prp p l e R s m args below meth c Q D A H0 base b n0 z0 md r →
    r.2.length ≤ n0 + R.cells → c_msz r.2 ≤ z0 + R.slots → c_K p l e R s m args below meth c Q D A H0 base b (c_mL md) n0 z0 pc L st h
set_option maxHeartbeats 1000000 in
theorem c_met_of {P : List c_M} {I : List (List (List Nat))} {n : Nat} (hl : l.stackTraces = false) (hP : c_okP P I) (hS : c_Sim l D A H0 base b X P n) {k : Nat} {md : c_M} (hk : P[k]? = some md) {as : List Value} {h : c_Hp} {r : c_O × c_Hp} (hent : (c_ent as (c_mL md)).length = c_mL md)
    (hgo : c_go P c_ty c_nf X n k 0 (c_ent as (c_mL md)) [] h = some r) : c_Met l D A H0 base b X md as h r := by
  have ok := hP k md hk
  unfold c_okM at ok
  simp only [Bool.and_eq_true] at ok
  obtain ⟨⟨o1, o3⟩, o4⟩ := ok
  obtain ⟨hle1, hle2⟩ := c_go_le _ _ _ _ _ _ _ hgo
  unfold c_Met
  have body : ∀ (p : Program) (e : Env) (s : State) (m : MethodId) (args : Array Value) (below : List Frame) (meth : Method) (c : Code) (s₁ : State), BodyLoose p l (c_my md) (headSpec (c_ws md) (c_rm md h r)) (c_mc md) (c_mL md) (c_mr md) e s m args below meth c s₁ → c.maxLocals = c_mL md → c.exceptionTable.toList = tableOf (c_mh md) → c_Pc D A H0 base b X as h args s →
      W p l e (headSpec (c_ws md) (c_rm md h r)).room s m args below meth c s.heap [] 0 0 (vx_MQ below (c_Qc D A H0 base b r) (c_XC D A H0 base b r) args s (r.2.length - h.length) (c_msz r.2 - c_msz h) (fun q => base ≤ q)) (entryFrame m args (c_mL md)) := by
    intro p e s m args below meth c s₁ B hml htab hv
    obtain ⟨rfl, hH, hG⟩ := hv
    have hts0 := atoms_spec (ws := c_ws md) B.pre
    have C : c_ctx p l (headSpec (c_ws md) (c_rm md h r)).room s m ((as.map (c_v base b)).toArray) meth c D A H0 base b X (c_my md) (c_mc md) (c_mL md) (c_mF md) (c_mR md) :=
      ⟨B.exec, B.bytes, hml, findClass_of_methodNamed B.named, fun w h1 h2 => hts0 w (List.mem_cons_of_mem _ (List.mem_filter.mpr ⟨h1, h2⟩)), hG.1, B.notSynchronized, fun z => by rw [← z]; exact (name_of_methodNamed B.named B.method).1, Nat.le_refl _, Nat.le_refl _, hl, hG.2.1, hG.2.2.1, hG.2.2.2⟩
    have hlocks := B.notSynchronized
    have K := hS k md 0 (c_ent as (c_mL md)) [] h r hk hgo p e (headSpec (c_ws md) (c_rm md h r)).room s m _ below meth c (vx_MQ below (c_Qc D A H0 base b r) (c_XC D A H0 base b r) ((as.map (c_v base b)).toArray) s (r.2.length - h.length) (c_msz r.2 - c_msz h) (fun q => base ≤ q)) h.length (c_msz h) C (Or.inr htab)
      (by
        intro v hv pc H locs cells slots ls hdec hHr hlo hc hs
        have hc2 : cells = r.2.length - h.length := by omega
        have hs2 : slots = c_msz r.2 - c_msz h := by omega
        subst hc2 hs2
        rcases hdec with ⟨x, t, rfl, hd, hr, hn⟩ | ⟨rfl, hd, hr⟩
        · exact vx_ret (W.zret B.exec B.bytes (by rw [B.returns]; exact hr) hn (fun t ht hW => ⟨some (.int x), hv, rfl, by rw [ht]; exact hHr⟩) hlo hd)
        · exact vx_ret (W.vret B.exec B.bytes (by rw [B.returns]; exact hr) (fun t ht hW => ⟨none, hv, rfl, by rw [ht]; exact hHr⟩) hlo hd))
      (by
        intro E h9 hr he pc H locs cells slots ls rest ⟨q, ix, hqE, hok⟩ hHr hlo hc hs hls hsum
        have e1 : r.2.length = h9.length + 1 := by rw [hr]; simp
        have e2 : c_msz r.2 = c_msz h9 + 6 := by rw [hr]; exact c_msz_app _ _
        have hno : ∀ (pc9 : Nat), ∀ x ∈ c.exceptionTable.toList, covers x pc9 = false := by
          intro pc9 x hx
          rw [htab, List.isEmpty_iff.mp he] at hx
          cases hx
        unfold c_okT at hok
        split at hok
        · rename_i ik own2 is tx hq1 hq2
          subst hqE
          simp only [Bool.and_eq_true, decide_eq_true_eq] at hok
          obtain ⟨⟨⟨⟨⟨⟨⟨⟨⟨⟨⟨⟨k1, k2⟩, k3⟩, k4⟩, k5⟩, k6⟩, k7⟩, k8⟩, k9⟩, k10⟩, k11⟩, k12⟩, ⟨⟨x0, x1⟩, x2⟩, x5⟩ := hok
          subst k1
          obtain ⟨u1, u2⟩ := c_w_ok k4
          obtain ⟨v1, v2⟩ := c_w_ok k5
          obtain ⟨hx, hb, hml2, hown, hts, ⟨hK, hA, hng, hSR, -⟩, -⟩ := C
          obtain ⟨sa, hsa⟩ := hSR _ _ _ (List.mem_of_getElem? hq2)
          have hat : ∀ w ∈ c_at9 (c_my md).cls (ix.getD 3 0) q.2.1, w.before ((as.map (c_v base b)).toArray) s = true := by
            intro w hw
            have h1 := (c_ats_ok k8 w hw).1
            rcases h1.2 with h2 | h2
            · exact hts w h1.1 h2
            · exact va_Nw.use (c_ng_on h2) (hng w h1.1 h2)
          have hgood : ∀ w ∈ Cond.classLink (c_my md).cls ik (c_exn q.2.1).1 :: Cond.initialized (c_exn q.2.1).1 :: c_at9 (c_my md).cls (ix.getD 3 0) q.2.1, vx_ot w = true := by
            intro w hw
            rcases List.mem_cons.mp hw with e | hw
            · exact List.all_eq_true.mp k9 w (by rw [e]; exact List.mem_cons_self)
            rcases List.mem_cons.mp hw with e | hw
            · exact List.all_eq_true.mp k9 w (by rw [e]; exact List.mem_cons_of_mem _ List.mem_cons_self)
            · exact (c_ats_ok k8 w hw).2
          have hSA : va_S (fun q => base ≤ q) s.heap H locs := ⟨by rw [hH.2.1, hHr.2.1]; omega, fun z h1 h2 => by rw [hHr.2.2.1 z (Nat.not_le.mp h2), hH.2.2.1 z (Nat.not_le.mp h2)], hlo⟩
          have hkeep : ∀ a : Nat, a < H0.size → ¬ base ≤ a → s.heap[a]? = H0[a]? := fun a _ h2 => hH.2.2.1 a (Nat.not_le.mp h2)
          have hU := hG.2.2.1.kept hkeep
          have hN := hG.2.2.2.kept hkeep
          have hXC : ∀ t : State, s.vm.Alike t.vm → t.heap.size = H.size + 1 → (∀ z : Nat, z < H.size → t.heap[z]? = H[z]?) → c_XC D A H0 base b r (c_exn q.2.1).1 s t := fun t _ h1 h2 => ⟨q.2.1, by rw [hr], rfl, by rw [hr]; exact hHr.push h1 h2 (fun y hy => by cases hy)⟩
          have hR2 : (headSpec (c_ws md) (c_rm md h r)).room = c_rm md h r := rfl
          split at k10
          · simp only [Bool.and_eq_true, decide_eq_true_eq] at k10
            exact c_throwS hx hb hl x0 x1 x2 x5 hown k6 (fun n hn => List.all_eq_true.mp k7 n hn) (hts _ u1 u2) (hts _ v1 v2) hsa hat hgood hU hN hSA (by rw [hls, hml2]) k2 k3 k10.1.1 k10.1.2 k10.2 (hno _) k11 (by rw [hR2]; show _ ≤ c_mR md; omega) (by rw [hR2]; show cells + 1 ≤ r.2.length - h.length; omega) (by rw [hR2]; show slots + 6 ≤ c_msz r.2 - c_msz h; omega) hlocks hXC hlo (by omega) (by omega)
          · simp only [Bool.and_eq_true, decide_eq_true_eq] at k10
            exact c_throwSW hx hb hl x0 x1 x2 x5 hown k6 (fun n hn => List.all_eq_true.mp k7 n hn) (hts _ u1 u2) (hts _ v1 v2) hsa hat hgood hU hN hSA (by rw [hls, hml2]) k2 k3 k10.1.1 k10.1.2 k10.2 (hno _) k11 (by rw [hR2]; show _ ≤ c_mR md; omega) (by rw [hR2]; show cells + 1 ≤ r.2.length - h.length; omega) (by rw [hR2]; show slots + 6 ≤ c_msz r.2 - c_msz h; omega) hlocks hXC hlo (by omega) (by omega)
        · cases hok)
      (by
        intro E hE he pc H locs cells slots ls rest q ce hHr hlo hc hs hce hcv hcl
        have hno : ∀ x ∈ c.exceptionTable.toList, covers x pc = false := by
          intro x hx
          rw [htab, List.isEmpty_iff.mp he] at hx
          cases hx
        exact vx_out hno hlocks hce hcv hcl (fun t ht _ => ⟨E, hE, rfl, by rw [ht]; exact hHr⟩) hlo (by omega) (by omega))
      (by show _ ≤ h.length + (r.2.length - h.length); omega) (by show _ ≤ c_msz h + (c_msz r.2 - c_msz h); omega)
    rw [lg_entry_eq]
    exact K s.heap [] 0 0 _ hH (c_ent_LR hent) (fun z hz => by cases hz) (Nat.zero_add _) (Nat.zero_add _)
  by_cases he : (c_mh md).isEmpty = true
  · have hcw : c_cw md = .code (c_my md) (c_mc md) (c_mL md) (c_mr md) := by unfold c_cw; rw [if_pos he]
    refine c_ofW (cc := c_mc md) (maxL := c_mL md) (ret := c_mr md) (ws' := lw_tbl.filter goodWord) o1 (by unfold c_ws; rw [hcw]) (fun p e s m args below meth c s₁ B hml ht hv => body p e s m args below meth c s₁ B hml ?_ hv)
    rw [List.isEmpty_iff.mp he]
    exact List.eq_nil_iff_forall_not_mem.mpr ht
  · have hcw : c_cw md = .codeWith (c_my md) (c_mc md) (c_mL md) (c_mr md) (c_mh md) := by unfold c_cw; rw [if_neg he]
    refine c_ofWH (cc := c_mc md) (maxL := c_mL md) (ret := c_mr md) (hh := c_mh md) (ws' := lw_tbl.filter goodWord) o1 (by unfold c_ws; rw [hcw]) (fun p e s m args below meth c s₁ B hml hv => body p e s m args below meth c s₁ B hml ?_ hv)
    exact vx_table (x := c_my md) B (atoms_spec (ws := c_ws md) B.pre _ (by rw [← hcw]; exact c_cw_in md))
end Frm
end
section
section SimAll
variable {l : Launch} {D : va_G} {A : Nat → ClassId} {H0 : Heap} {base b : Nat} {X : List Int32}
theorem c_catch_row {md : c_M} {pc E : Nat} {w : Nat × Nat × Nat} (h : c_okH md (pc, E, w) = true) :
    ∃ x : ExceptionTableEntry, (tableOf (c_mh md))[w.1]? = some x ∧ (∀ z ∈ (tableOf (c_mh md)).take w.1, covers z pc = false ∨ (z.catchType ≠ 0 ∧ ∃ v ∈ c_NC, v.1 = (c_exn E).1 ∧ Cond.classLink (c_my md).cls z.catchType v.2 ∈ lw_tbl ∧ goodWord (Cond.classLink (c_my md).cls z.catchType v.2) = true)) ∧
      covers x pc = true ∧ x.catchType ≠ 0 ∧ (Cond.classLink (c_my md).cls x.catchType (c_exn E).1 ∈ lw_tbl ∧ goodWord (Cond.classLink (c_my md).cls x.catchType (c_exn E).1) = true) ∧ Cond.castable (c_exn E).1 (c_exn E).1 ∈ lw_tbl ∧ x.handlerPc = ((c_mh md).getD w.1 (0, 0, 0, 0)).2.2.1 ∧ w.2.1 < c_mL md ∧
      ((w.2.2 = 1 ∧ ∃ n : Fin 4, decode (c_mc md) x.handlerPc = .ok (.astore_n n, 1) ∧ n.val = w.2.1) ∨ (w.2.2 = 2 ∧ decode (c_mc md) x.handlerPc = .ok (.astore w.2.1, 2))) := by
  unfold c_okH at h
  simp only at h
  split at h
  · cases h
  · rename_i x hx
    simp only [Bool.and_eq_true, decide_eq_true_eq] at h
    obtain ⟨⟨⟨⟨⟨⟨⟨⟨k1, k2⟩, k3⟩, k4⟩, k5⟩, k6⟩, k7⟩, k8⟩, k9⟩ := h
    refine ⟨x, hx, fun z hz => ?_, by simpa [covers] using k2, k3, ⟨k4, k5⟩, k6, k7, k8, ?_⟩
    · have h1 := List.all_eq_true.mp k1 z hz
      simp only [Bool.or_eq_true, Bool.and_eq_true, decide_eq_true_eq, Bool.not_eq_true'] at h1
      rcases h1 with h1 | ⟨h1, h2⟩
      · exact Or.inl h1
      · obtain ⟨v, hv, h3⟩ := List.any_eq_true.mp h2
        simp only [Bool.and_eq_true, decide_eq_true_eq] at h3
        exact Or.inr ⟨h1, v, hv, h3.1.1, h3.1.2, h3.2⟩
    · split at k9
      · rename_i h1
        split at k9
        · rename_i n hn
          exact Or.inl ⟨h1, n, hn, of_decide_eq_true k9⟩
        · cases k9
      · simp only [Bool.and_eq_true, decide_eq_true_eq] at k9
        exact Or.inr k9
set_option maxHeartbeats 2000000 in
theorem c_sim {P : List c_M} {I : List (List (List Nat))} (hl : l.stackTraces = false) (hP : c_okP P I) : ∀ n, c_Sim l D A H0 base b X P n
  | 0 => by
    intro k md pc L st h r hk hgo
    simp [c_go] at hgo
  | n + 1 => by
    have ih := c_sim hl hP n
    intro k md pc L st h r hk hgo p e R s m args below meth c Q n0 z0 C htab hRet hThr hPrp hb1 hb2
    have ok := hP k md hk
    unfold c_okM at ok
    simp only [Bool.and_eq_true] at ok
    obtain ⟨⟨o1, o3⟩, o4⟩ := ok
    simp only [c_go, hk] at hgo
    split at hgo
    · cases hgo
    · rename_i q hq
      obtain ⟨ix, hok⟩ := c_okL_at _ _ o4 hq
      unfold c_okQ at hok
      split at hgo
      · -- a step
        rename_i hkd
        rw [hkd] at hok
        simp only at hok
        split at hgo
        · rename_i r1 hr1
          have hle := c_go_le _ _ _ _ _ _ _ hgo
          exact c_sim1 C (fun z => of_decide_eq_true z) hok hkd hr1 (Nat.le_trans hle.1 hb1) (Nat.le_trans hle.2 hb2) (ih k md _ _ _ _ r hk hgo p e R s m args below meth c Q n0 z0 C htab hRet hThr hPrp hb1 hb2)
        · cases hgo
      · -- a number returned
        rename_i hkd
        rw [hkd] at hok
        simp only [decide_eq_true_eq] at hok
        split at hgo
        · rename_i x t hr
          split at hgo
          · rename_i hn
            cases hgo
            intro H locs cells slots ls hH hL hlo hc hs
            exact hRet _ rfl pc H locs cells slots ls (Or.inl ⟨x, t, rfl, hok, hr, hn⟩) hH hlo hc hs
          · cases hgo
        · cases hgo
      · -- nothing returned
        rename_i hkd
        rw [hkd] at hok
        simp only [decide_eq_true_eq] at hok
        split at hgo
        · rename_i hr
          cases hgo
          intro H locs cells slots ls hH hL hlo hc hs
          exact hRet _ rfl pc H locs cells slots ls (Or.inr ⟨rfl, hok, hr⟩) hH hlo hc hs
        · cases hgo
      · -- a call
        rename_i hkd
        rw [hkd] at hok
        simp only at hok
        split at hgo
        · cases hgo
        · rename_i mz hmz
          rw [hmz] at hok
          simp only at hok
          split at hgo
          · cases hgo
          · rename_i ar har
            have hent : (c_ent ar.1 (c_mL mz)).length = c_mL mz := by
              unfold c_prt at har
              simp only at har
              split at har
              · cases har
              · split at har
                · split at har
                  · split at har
                    · rename_i hz
                      cases har
                      exact hz
                    · cases har
                  · cases har
                · cases har
            -- what a call's own run gives
            have run : ∀ (r2 : c_O × c_Hp), c_go P c_ty c_nf X n q.2.1 0 (c_ent ar.1 (c_mL mz)) [] h = some r2 → r2.2.length ≤ n0 + R.cells → c_msz r2.2 ≤ z0 + R.slots → ∀ (H : Heap) (locs : List Loc) (cells slots : Nat) (ls : Array Slot), c_HR D A H0 base b h H → c_LR base b ls (c_mL md) L → cells + n0 = h.length → slots + z0 = c_msz h →
                vx_Run p l e R s m args below meth c H locs cells slots (r2.2.length - h.length) (c_msz r2.2 - c_msz h) (F0 m pc ls (st.map (c_v base b))) (ar.2.map (c_v base b)) (c_Qc D A H0 base b r2 (ar.1.map (c_v base b)).toArray) (c_XC D A H0 base b r2) (fun q => base ≤ q) := by
              intro r2 hgo2 hq1 hq2 H locs cells slots ls hH hL hc hs
              obtain ⟨hle1, hle2⟩ := c_go_le _ _ _ _ _ _ _ hgo2
              exact c_run C hok har (c_met_of hl hP ih hmz hent hgo2) hH hL.2.1 (by omega) (by omega)
            split at hgo
            · -- it returns
              rename_i v h1 hgo2
              have hle2 : c_le h h1 := c_go_le _ _ _ _ _ _ _ hgo2
              have hle := c_go_le _ _ _ _ _ _ _ hgo
              have kk := ih k md (pc + 3) L (v.toList ++ ar.2) h1 r hk hgo p e R s m args below meth c Q n0 z0 C htab hRet hThr hPrp hb1 hb2
              intro H locs cells slots ls hH hL hlo hc hs T hT X9
              rcases run _ hgo2 (Nat.le_trans hle.1 hb1) (Nat.le_trans hle.2 hb2) H locs cells slots ls hH hL hc hs T hT X9 with ⟨v9, st₀, t, T', L9, -, X', hL9, e1, -, ⟨v8, hv8, hv9, hHr⟩, stp⟩ | ⟨q9, st₀, t, T', L9, E, ce, -, X', hL9, e1, -, ⟨k9, hk9, -⟩, -⟩
              · cases hv8
                cases hv9
                have hlo2 : ∀ z ∈ locs ++ L9, base ≤ z.base := fun z hz => (List.mem_append.mp hz).elim (hlo z) (hL9 z)
                have e8 : ((v.toList ++ ar.2).map (c_v base b)) = (v.map (c_v base b)).toList ++ ar.2.map (c_v base b) := by cases v <;> simp
                have kk2 := kk T'.heap (locs ++ L9) (cells + (h1.length - h.length)) (slots + (c_msz h1 - c_msz h)) ls (by rw [e1]; exact hHr) hL hlo2 (by have := hle2.1; omega) (by have := hle2.2; omega)
                rw [e8] at kk2
                obtain ⟨t2, a1, b1⟩ := kk2 T' rfl X'
                exact ⟨t2, stp t2 a1, b1⟩
              · cases hk9
            · -- it throws
              rename_i E h1 hgo2
              have hle2 : c_le h h1 := c_go_le _ _ _ _ _ _ _ hgo2
              split at hgo
              · -- caught
                rename_i w hw
                have hle := c_go_le _ _ _ _ _ _ _ hgo
                have hmem := c_cat_mem _ hw
                have htab2 : c.exceptionTable.toList = tableOf (c_mh md) := by
                  rcases htab with h9 | h9
                  · rw [h9] at hmem; cases hmem
                  · exact h9
                obtain ⟨x, x1, x2, x3, x4, x5, x6, x7, x8, x9⟩ := c_catch_row (List.all_eq_true.mp o3 _ hmem)
                have kk := ih k md _ _ [] h1 r hk hgo p e R s m args below meth c Q n0 z0 C htab hRet hThr hPrp hb1 hb2
                intro H locs cells slots ls hH hL hlo hc hs T hT X9
                rcases run _ hgo2 (Nat.le_trans hle.1 hb1) (Nat.le_trans hle.2 hb2) H locs cells slots ls hH hL hc hs T hT X9 with ⟨v9, st₀, t, T', L9, -, X', hL9, e1, -, ⟨v8, hv8, -⟩, -⟩ | ⟨q9, st₀, t, T', L9, E9, ce, -, X', hL9, e1, -, ⟨k9, hk9, hE9, hHr⟩, hce, hcv, hcl, stp⟩
                · cases hv8
                · cases hk9
                  subst hE9
                  have hlo2 : ∀ z ∈ locs ++ L9, base ≤ z.base := fun z hz => (List.mem_append.mp hz).elim (hlo z) (hL9 z)
                  obtain ⟨hx, hb, hml, hown, hts, ⟨hK, hA, hng, -, hNC, -⟩, -⟩ := C
                  have hsplit : c.exceptionTable.toList = (tableOf (c_mh md)).take w.1 ++ x :: (tableOf (c_mh md)).drop (w.1 + 1) := by
                    rw [htab2]
                    have h9 := (List.getElem?_eq_some_iff.mp x1)
                    rw [← h9.2, List.getElem_cons_drop, List.take_append_drop]
                  have cw9 : vx_W p l e R s m args below meth c T'.heap (locs ++ L9) (cells + (h1.length - h.length)) (slots + (c_msz h1 - c_msz h)) Q (F0 m pc ls (ar.2.map (c_v base b))) q9 := by
                    refine vx_catch hown _ x _ hsplit (fun z hz => ?_) x3 x4 (hts _ x5.1 x5.2) (va_Nw.use rfl (hng _ x6 rfl)) (by rw [e1]; exact hce) hcv hcl ?_
                    · rcases x2 z hz with h9 | ⟨h9, v, hv, hv1, hv2, hv3⟩
                      · exact Or.inl h9
                      · have h8 := hNC v hv
                        rw [hv1] at h8
                        exact Or.inr ⟨h9, v.2, hts _ hv2 hv3, h8⟩
                    · have fin : ∀ (ls1 : Array Slot), lv_has ls1 (c_mL md) ((w.2.1, Value.ref q9) :: (c_al base b L).filter (fun q => !(q.1 == w.2.1) && !(q.1 + 1 == w.2.1 && q.2.category == 2))) → W p l e R s m args below meth c T'.heap (locs ++ L9) (cells + (h1.length - h.length)) (slots + (c_msz h1 - c_msz h)) Q (F0 m (x.handlerPc + w.2.2) ls1 []) := by
                        intro ls1 h9
                        have k8 := kk T'.heap (locs ++ L9) (cells + (h1.length - h.length)) (slots + (c_msz h1 - c_msz h)) ls1 (by rw [e1]; exact hHr) (hL.lost rfl h9) hlo2 (by have := hle2.1; omega) (by have := hle2.2; omega)
                        rw [← x7] at k8
                        exact k8
                      rcases x9 with ⟨y1, nn, y2, y3⟩ | ⟨y1, y2⟩
                      · refine lv_astore_n hx hb y2 y3 hL.has x8 rfl fun ls1 h9 => ?_
                        have := fin ls1 h9
                        rw [y1] at this
                        exact this
                      · refine lv_astore hx hb y2 hL.has x8 rfl fun ls1 h9 => ?_
                        have := fin ls1 h9
                        rw [y1] at this
                        exact this
                  obtain ⟨t2, a1, b1⟩ := cw9 T' rfl X'
                  exact ⟨t2, stp.trans a1, b1⟩
              · -- it goes by
                split at hgo
                · rename_i he
                  cases hgo
                  intro H locs cells slots ls hH hL hlo hc hs T hT X9
                  rcases run _ hgo2 hb1 hb2 H locs cells slots ls hH hL hc hs T hT X9 with ⟨v9, st₀, t, T', L9, -, X', hL9, e1, -, ⟨v8, hv8, -⟩, -⟩ | ⟨q9, st₀, t, T', L9, E9, ce, -, X', hL9, e1, -, ⟨k9, hk9, hE9, hHr⟩, hce, hcv, hcl, stp⟩
                  · cases hv8
                  · cases hk9
                    subst hE9
                    have hlo2 : ∀ z ∈ locs ++ L9, base ≤ z.base := fun z hz => (List.mem_append.mp hz).elim (hlo z) (hL9 z)
                    obtain ⟨t2, a1, b1⟩ := hPrp _ rfl he pc T'.heap (locs ++ L9) (cells + (h1.length - h.length)) (slots + (c_msz h1 - c_msz h)) ls (ar.2.map (c_v base b)) q9 ce (by rw [e1]; exact hHr) hlo2 (by show _ = h1.length; have := hle2.1; omega) (by show _ = c_msz h1; have := hle2.2; omega) (by rw [e1]; exact hce) hcv hcl T' rfl X'
                    exact ⟨t2, stp.trans a1, b1⟩
                · cases hgo
            · cases hgo
      · -- a throw
        rename_i hkd
        rw [hkd] at hok
        simp only at hok
        split at hgo
        · rename_i he
          rw [Bool.and_eq_true, decide_eq_true_eq] at he
          cases hgo
          intro H locs cells slots ls hH hL hlo hc hs
          exact hThr _ h rfl he.1 pc H locs cells slots ls _ ⟨q, ix, rfl, hok⟩ hH hlo hc hs hL.2.1 (by rw [c_v_cats]; exact he.2)
        · cases hgo
      · cases hgo
end SimAll
end
section
/-! The listing's methods, as rows: p44 -/
/-- BoxballHall.<init>()V -/
def c_i0 : List (Nat × c_I) := [(0, .aload_n 0, 0, 0, 0), (1, .invokespecial 1, 0, 0, 6), (4, .aload_n 0, 0, 0, 0), (5, .new 7, 6, 0, 0), (8, .dup, 0, 0, 0), (9, .invokespecial 9, 49, 0, 5), (12, .putfield 10, 10, 0, 0), (15, .aload_n 0, 0, 0, 0), (16, .new 16, 4, 0, 0), (19, .dup, 0, 0, 0), (20, .invokespecial 18, 38, 0, 5), (23, .putfield 19, 10, 1, 0), (26, .aload_n 0, 0, 0, 0), (27, .new 23, 0, 0, 0), (30, .dup, 0, 0, 0), (31, .invokespecial 25, 24, 0, 5), (34, .putfield 26, 10, 2, 0), (37, .aload_n 0, 0, 0, 0), (38, .new 30, 3, 0, 0), (41, .dup, 0, 0, 0), (42, .invokespecial 32, 30, 0, 5), (45, .putfield 33, 10, 3, 0), (48, .aload_n 0, 0, 0, 0), (49, .new 37, 7, 0, 0), (52, .dup, 0, 0, 0), (53, .invokespecial 39, 58, 0, 5), (56, .putfield 40, 10, 4, 0), (59, .aload_n 0, 0, 0, 0), (60, .new 44, 8, 0, 0), (63, .dup, 0, 0, 0), (64, .invokespecial 46, 66, 0, 5), (67, .putfield 47, 10, 5, 0), (70, .aload_n 0, 0, 0, 0), (71, .new 51, 1, 0, 0), (74, .dup, 0, 0, 0), (75, .invokespecial 53, 28, 0, 5), (78, .putfield 54, 10, 6, 0), (81, .aload_n 0, 0, 0, 0), (82, .new 58, 9, 0, 0), (85, .dup, 0, 0, 0), (86, .invokespecial 60, 67, 0, 5), (89, .putfield 61, 10, 7, 0), (92, .aload_n 0, 0, 0, 0), (93, .new 65, 2, 0, 0), (96, .dup, 0, 0, 0), (97, .invokespecial 67, 29, 0, 5), (100, .putfield 68, 10, 8, 0), (103, .aload_n 0, 0, 0, 0), (104, .new 72, 5, 0, 0), (107, .dup, 0, 0, 0), (108, .invokespecial 74, 45, 0, 5), (111, .putfield 75, 10, 9, 0), (114, .aload_n 0, 0, 0, 0), (115, .new 7, 6, 0, 0), (118, .dup, 0, 0, 0), (119, .invokespecial 9, 49, 0, 5), (122, .putfield 79, 10, 10, 0), (125, .aload_n 0, 0, 0, 0), (126, .new 7, 6, 0, 0), (129, .dup, 0, 0, 0), (130, .invokespecial 9, 49, 0, 5), (133, .putfield 82, 10, 11, 0), (136, .aload_n 0, 0, 0, 0), (137, .getfield 10, 10, 0, 0), (140, .bipush (10), 0, 0, 0), (142, .iconst 1, 0, 0, 0), (143, .iconst 0, 0, 0, 0), (144, .invokevirtual 85, 50, 3, 3), (147, .return_, 0, 0, 0)]
def c_m0 : c_M := (⟨"BoxballHall", "<init>", "()V"⟩, prog_1_method_1_code, 1, (Option.none : Option Jvm.ClassFile.FieldType), [], 2, 53, 10, [], c_i0)
def c_x0 : List (List Nat) := [[], [72, 73, 74], [], [75, 76, 44], [], [44, 77, 78, 0, 79], [260], [], [110, 111, 45], [], [45, 112, 113, 0, 114], [261], [], [132, 133, 46], [], [46, 134, 135, 0, 136], [262], [], [147, 148, 47], [], [47, 149, 150, 0, 151], [263], [], [163, 164, 48], [], [48, 165, 166, 0, 167], [264], [], [182, 183, 49], [], [49, 184, 185, 0, 186], [265], [], [195, 196, 50], [], [50, 197, 198, 0, 199], [266], [], [210, 211, 51], [], [51, 212, 213, 0, 214], [267], [], [222, 223, 52], [], [52, 224, 225, 0, 226], [268], [], [233, 234, 53], [], [53, 235, 236, 0, 237], [269], [], [75, 76, 44], [], [44, 77, 78, 0, 79], [270], [], [75, 76, 44], [], [44, 77, 78, 0, 79], [271], [], [260], [], [], [], [44, 247, 249, 0, 250], []]
/-- BoxballHall.setRow(IIZ)I -/
def c_i1 : List (Nat × c_I) := [(0, .iload_n 1, 0, 0, 0), (1, .iconst 1, 0, 0, 0), (2, .bipush (60), 0, 0, 0), (4, .invokestatic 89, 14, 3, 0), (7, .iload_n 2, 0, 0, 0), (8, .iconst 1, 0, 0, 0), (9, .iconst 4, 0, 0, 0), (10, .invokestatic 89, 14, 3, 0), (13, .aload_n 0, 0, 0, 0), (14, .getfield 10, 10, 0, 0), (17, .getfield 93, 6, 2, 1), (20, .istore 4, 0, 0, 0), (22, .aload_n 0, 0, 0, 0), (23, .getfield 10, 10, 0, 0), (26, .iload_n 1, 0, 0, 0), (27, .iload_n 2, 0, 0, 0), (28, .iload_n 3, 0, 0, 0), (29, .invokevirtual 85, 50, 3, 3), (32, .aload_n 0, 0, 0, 0), (33, .getfield 19, 10, 1, 0), (36, .invokevirtual 97, 39, 0, 3), (39, .iload 4, 0, 0, 0), (41, .ireturn, 0, 0, 0)]
def c_m1 : c_M := (⟨"BoxballHall", "setRow", "(IIZ)I"⟩, prog_1_method_2_code, 5, (Option.some Jvm.ClassFile.FieldType.int), [], 7, 112, 10, [], c_i1)
def c_x1 : List (List Nat) := [[], [], [], [43, 464, 465, 0, 466], [], [], [], [43, 464, 465, 0, 466], [], [260], [93], [], [], [260], [], [], [], [44, 247, 249, 0, 250], [], [261], [45, 537, 539, 33, 540], [], []]
/-- BoxballHall.setCapacity(II)I -/
def c_i2 : List (Nat × c_I) := [(0, .aload_n 0, 0, 0, 0), (1, .iload_n 1, 0, 0, 0), (2, .invokevirtual 100, 15, 1, 2), (5, .iload_n 2, 0, 0, 0), (6, .iconst 1, 0, 0, 0), (7, .iconst 4, 0, 0, 0), (8, .invokestatic 89, 14, 3, 0), (11, .aload_n 0, 0, 0, 0), (12, .getfield 10, 10, 0, 0), (15, .getfield 104, 6, 0, 1), (18, .iload_n 1, 0, 0, 0), (19, .iaload, 0, 0, 0), (20, .istore_n 3, 0, 0, 0), (21, .aload_n 0, 0, 0, 0), (22, .getfield 10, 10, 0, 0), (25, .getfield 104, 6, 0, 1), (28, .iload_n 1, 0, 0, 0), (29, .iload_n 2, 0, 0, 0), (30, .iastore, 0, 0, 0), (31, .aload_n 0, 0, 0, 0), (32, .getfield 10, 10, 0, 0), (35, .getfield 108, 6, 1, 1), (38, .iload_n 1, 0, 0, 0), (39, .aload_n 0, 0, 0, 0), (40, .getfield 10, 10, 0, 0), (43, .getfield 108, 6, 1, 1), (46, .iload_n 1, 0, 0, 0), (47, .iaload, 0, 0, 0), (48, .iload_n 2, 0, 0, 0), (49, .invokestatic 111, 0, 0, 8), (52, .iastore, 0, 0, 0), (53, .iload_n 3, 0, 0, 0), (54, .ireturn, 0, 0, 0)]
def c_m2 : c_M := (⟨"BoxballHall", "setCapacity", "(II)I"⟩, prog_1_method_3_code, 4, (Option.some Jvm.ClassFile.FieldType.int), [], 7, 112, 10, [], c_i2)
def c_x2 : List (List Nat) := [[], [], [43, 573, 575, 34, 576], [], [], [], [43, 464, 465, 0, 466], [], [260], [82], [], [], [], [], [260], [82], [], [], [], [], [260], [88], [], [], [260], [88], [], [], [], [340, 252, 54, 253], [], [], []]
/-- BoxballHall.setBalls(II)I -/
def c_i3 : List (Nat × c_I) := [(0, .aload_n 0, 0, 0, 0), (1, .iload_n 1, 0, 0, 0), (2, .invokevirtual 100, 15, 1, 2), (5, .iload_n 2, 0, 0, 0), (6, .iconst 0, 0, 0, 0), (7, .aload_n 0, 0, 0, 0), (8, .getfield 10, 10, 0, 0), (11, .getfield 104, 6, 0, 1), (14, .iload_n 1, 0, 0, 0), (15, .iaload, 0, 0, 0), (16, .invokestatic 89, 14, 3, 0), (19, .aload_n 0, 0, 0, 0), (20, .getfield 10, 10, 0, 0), (23, .getfield 108, 6, 1, 1), (26, .iload_n 1, 0, 0, 0), (27, .iaload, 0, 0, 0), (28, .istore_n 3, 0, 0, 0), (29, .aload_n 0, 0, 0, 0), (30, .getfield 10, 10, 0, 0), (33, .getfield 108, 6, 1, 1), (36, .iload_n 1, 0, 0, 0), (37, .iload_n 2, 0, 0, 0), (38, .iastore, 0, 0, 0), (39, .iload_n 3, 0, 0, 0), (40, .ireturn, 0, 0, 0)]
def c_m3 : c_M := (⟨"BoxballHall", "setBalls", "(II)I"⟩, prog_1_method_4_code, 4, (Option.some Jvm.ClassFile.FieldType.int), [], 7, 112, 10, [], c_i3)
def c_x3 : List (List Nat) := [[], [], [43, 573, 575, 34, 576], [], [], [], [260], [82], [], [], [43, 464, 465, 0, 466], [], [260], [88], [], [], [], [], [260], [88], [], [], [], [], []]
/-- BoxballHall.getBalls(I)I -/
def c_i4 : List (Nat × c_I) := [(0, .aload_n 0, 0, 0, 0), (1, .iload_n 1, 0, 0, 0), (2, .invokevirtual 100, 15, 1, 2), (5, .aload_n 0, 0, 0, 0), (6, .getfield 10, 10, 0, 0), (9, .getfield 108, 6, 1, 1), (12, .iload_n 1, 0, 0, 0), (13, .iaload, 0, 0, 0), (14, .ireturn, 0, 0, 0)]
def c_m4 : c_M := (⟨"BoxballHall", "getBalls", "(I)I"⟩, prog_1_method_5_code, 2, (Option.some Jvm.ClassFile.FieldType.int), [], 7, 111, 10, [], c_i4)
def c_x4 : List (List Nat) := [[], [], [43, 573, 575, 34, 576], [], [260], [88], [], [], []]
/-- BoxballHall.countBalls()I -/
def c_i5 : List (Nat × c_I) := [(0, .aload_n 0, 0, 0, 0), (1, .getfield 10, 10, 0, 0), (4, .invokevirtual 117, 56, 0, 3), (7, .ireturn, 0, 0, 0)]
def c_m5 : c_M := (⟨"BoxballHall", "countBalls", "()I"⟩, prog_1_method_6_code, 1, (Option.some Jvm.ClassFile.FieldType.int), [], 1, 22, 10, [], c_i5)
def c_x5 : List (List Nat) := [[], [260], [44, 301, 303, 1, 304], []]
/-- BoxballHall.step(I)I -/
def c_i6 : List (Nat × c_I) := [(0, .aload_n 0, 0, 0, 0), (1, .iload_n 1, 0, 0, 0), (2, .iconst 1, 0, 0, 0), (3, .invokevirtual 121, 16, 2, 2), (6, .ireturn, 0, 0, 0)]
def c_m6 : c_M := (⟨"BoxballHall", "step", "(I)I"⟩, prog_1_method_7_code, 2, (Option.some Jvm.ClassFile.FieldType.int), [], 8, 134, 10, [], c_i6)
def c_x6 : List (List Nat) := [[], [], [], [43, 613, 615, 35, 616], []]
/-- BoxballHall.stepBack(I)I -/
def c_i7 : List (Nat × c_I) := [(0, .aload_n 0, 0, 0, 0), (1, .iload_n 1, 0, 0, 0), (2, .iconst 0, 0, 0, 0), (3, .invokevirtual 121, 16, 2, 2), (6, .ireturn, 0, 0, 0)]
def c_m7 : c_M := (⟨"BoxballHall", "stepBack", "(I)I"⟩, prog_1_method_8_code, 2, (Option.some Jvm.ClassFile.FieldType.int), [], 8, 134, 10, [], c_i7)
def c_x7 : List (List Nat) := [[], [], [], [43, 613, 615, 35, 616], []]
/-- BoxballHall.run(II)I -/
def c_i8 : List (Nat × c_I) := [(0, .iload_n 1, 0, 0, 0), (1, .iconst 1, 0, 0, 0), (2, .bipush (99), 0, 0, 0), (4, .invokestatic 89, 14, 3, 0), (7, .iload_n 2, 0, 0, 0), (8, .iconst 1, 0, 0, 0), (9, .bipush (99), 0, 0, 0), (11, .invokestatic 89, 14, 3, 0), (14, .iconst 0, 0, 0, 0), (15, .istore_n 3, 0, 0, 0), (16, .iload_n 3, 0, 0, 0), (17, .iload_n 1, 0, 0, 0), (18, .if_icmp .ge (29), 47, 0, 0), (21, .aload_n 0, 0, 0, 0), (22, .getfield 26, 10, 2, 0), (25, .aload_n 0, 0, 0, 0), (26, .getfield 10, 10, 0, 0), (29, .iload_n 2, 0, 0, 0), (30, .iconst 1, 0, 0, 0), (31, .invokevirtual 125, 25, 3, 3), (34, .ifCond .eq (13), 47, 0, 0), (37, .aload_n 0, 0, 0, 0), (38, .invokevirtual 129, 17, 0, 2), (41, .iinc 3 (1), 0, 0, 0), (44, .goto (-28), 16, 0, 0), (47, .iload_n 3, 0, 0, 0), (48, .ireturn, 0, 0, 0)]
def c_m8 : c_M := (⟨"BoxballHall", "run", "(II)I"⟩, prog_1_method_9_code, 4, (Option.some Jvm.ClassFile.FieldType.int), [], 7, 112, 10, [], c_i8)
def c_x8 : List (List Nat) := [[], [], [], [43, 464, 465, 0, 466], [], [], [], [43, 464, 465, 0, 466], [], [], [], [], [], [], [262], [], [260], [], [], [46, 329, 331, 4, 332], [], [], [43, 633, 635, 36, 636], [], [], [], []]
/-- BoxballHall.countKept()I -/
def c_i9 : List (Nat × c_I) := [(0, .aload_n 0, 0, 0, 0), (1, .getfield 19, 10, 1, 0), (4, .getfield 132, 4, 2, 1), (7, .ireturn, 0, 0, 0)]
def c_m9 : c_M := (⟨"BoxballHall", "countKept", "()I"⟩, prog_1_method_10_code, 1, (Option.some Jvm.ClassFile.FieldType.int), [], 0, 0, 10, [], c_i9)
def c_x9 : List (List Nat) := [[], [261], [121], []]
/-- BoxballHall.getPast(II)I -/
def c_i10 : List (Nat × c_I) := [(0, .aload_n 0, 0, 0, 0), (1, .getfield 19, 10, 1, 0), (4, .iload_n 1, 0, 0, 0), (5, .invokevirtual 135, 40, 1, 3), (8, .ifCond .ne (13), 21, 0, 0), (11, .new 139, 3, 0, 1), (21, .aload_n 0, 0, 0, 0), (22, .iload_n 2, 0, 0, 0), (23, .invokevirtual 100, 15, 1, 2), (26, .aload_n 0, 0, 0, 0), (27, .getfield 19, 10, 1, 0), (30, .iload_n 1, 0, 0, 0), (31, .iload_n 2, 0, 0, 0), (32, .invokevirtual 146, 42, 2, 3), (35, .ireturn, 0, 0, 0)]
def c_m10 : c_M := (⟨"BoxballHall", "getPast", "(II)I"⟩, prog_1_method_11_code, 3, (Option.some Jvm.ClassFile.FieldType.int), [], 7, 111, 10, [], c_i10)
def c_x10 : List (List Nat) := [[], [261], [], [45, 671, 673, 39, 674], [], [675, 63, 684, 143, 0, 56, 489, 498, 504, 507, 509, 490, 491, 73, 74, 492, 497, 505, 525, 479, 526, 481, 527, 483, 493, 495, 485, 521, 522, 524, 485, 686, 687, 688, 515, 471, 515, 516, 517, 518, 473, 518, 519, 520, 521, 475, 685, 676, 677, 678, 503, 679, 680, 681, 682, 488, 487, 683], [], [], [43, 573, 575, 34, 576], [], [261], [], [], [45, 691, 693, 40, 694], []]
/-- BoxballHall.undo()I -/
def c_i11 : List (Nat × c_I) := [(0, .aload_n 0, 0, 0, 0), (1, .getfield 19, 10, 1, 0), (4, .iconst 1, 0, 0, 0), (5, .invokevirtual 135, 40, 1, 3), (8, .ifCond .ne (13), 21, 0, 0), (11, .new 139, 3, 0, 1), (21, .aload_n 0, 0, 0, 0), (22, .getfield 19, 10, 1, 0), (25, .aload_n 0, 0, 0, 0), (26, .getfield 10, 10, 0, 0), (29, .invokevirtual 151, 44, 1, 3), (32, .aload_n 0, 0, 0, 0), (33, .getfield 19, 10, 1, 0), (36, .getfield 132, 4, 2, 1), (39, .ireturn, 0, 0, 0)]
def c_m11 : c_M := (⟨"BoxballHall", "undo", "()I"⟩, prog_1_method_12_code, 1, (Option.some Jvm.ClassFile.FieldType.int), [], 6, 90, 10, [], c_i11)
def c_x11 : List (List Nat) := [[], [261], [], [45, 671, 673, 39, 674], [], [675, 63, 702, 143, 0, 56, 489, 498, 504, 507, 509, 490, 491, 73, 74, 492, 497, 505, 525, 479, 526, 481, 527, 483, 493, 495, 485, 521, 522, 524, 485, 686, 687, 688, 515, 471, 515, 516, 517, 518, 473, 518, 519, 520, 521, 475, 685, 676, 677, 678, 503, 679, 680, 681, 682, 488, 487, 683], [], [261], [], [260], [45, 703, 705, 41, 706], [], [261], [121], []]
/-- BoxballHall.getFilledBits()I -/
def c_i12 : List (Nat × c_I) := [(0, .aload_n 0, 0, 0, 0), (1, .getfield 10, 10, 0, 0), (4, .invokevirtual 316, 57, 0, 3), (7, .i2f, 0, 0, 0), (8, .aload_n 0, 0, 0, 0), (9, .getfield 10, 10, 0, 0), (12, .getfield 93, 6, 2, 1), (15, .i2f, 0, 0, 0), (16, .fdiv, 0, 0, 0), (17, .fstore_n 1, 0, 0, 0), (18, .fload_n 1, 0, 0, 0), (19, .invokestatic 319, 23, 1, 0), (22, .ireturn, 0, 0, 0)]
def c_m12 : c_M := (⟨"BoxballHall", "getFilledBits", "()I"⟩, prog_1_method_39_code, 2, (Option.some Jvm.ClassFile.FieldType.int), [], 1, 22, 10, [], c_i12)
def c_x12 : List (List Nat) := [[], [260], [44, 313, 315, 2, 316], [], [], [260], [93], [], [], [], [], [43, 317, 318, 0, 319], []]
/-- BoxballHall.isSound()Z -/
def c_i13 : List (Nat × c_I) := [(0, .aload_n 0, 0, 0, 0), (1, .invokevirtual 335, 18, 0, 2), (4, .ifCond .eq (24), 28, 0, 0), (7, .aload_n 0, 0, 0, 0), (8, .invokevirtual 338, 19, 0, 2), (11, .ifCond .eq (17), 28, 0, 0), (14, .aload_n 0, 0, 0, 0), (15, .getfield 75, 10, 9, 0), (18, .invokevirtual 341, 47, 0, 3), (21, .ifCond .eq (7), 28, 0, 0), (24, .iconst 1, 0, 0, 0), (25, .goto (4), 29, 0, 0), (28, .iconst 0, 0, 0, 0), (29, .ireturn, 0, 0, 0)]
def c_m13 : c_M := (⟨"BoxballHall", "isSound", "()Z"⟩, prog_1_method_42_code, 1, (Option.some Jvm.ClassFile.FieldType.boolean), [], 6, 145, 10, [], c_i13)
def c_x13 : List (List Nat) := [[], [43, 325, 327, 3, 328], [], [], [43, 360, 362, 10, 363], [], [], [269], [53, 442, 444, 29, 445], [], [], [], [], []]
/-- BoxballHall.demandRange(III)V -/
def c_i14 : List (Nat × c_I) := [(0, .iload_n 0, 0, 0, 0), (1, .iload_n 1, 0, 0, 0), (2, .if_icmp .lt (8), 10, 0, 0), (5, .iload_n 0, 0, 0, 0), (6, .iload_n 2, 0, 0, 0), (7, .if_icmp .le (14), 21, 0, 0), (10, .new 177, 0, 0, 1), (21, .return_, 0, 0, 0)]
def c_m14 : c_M := (⟨"BoxballHall", "demandRange", "(III)V"⟩, prog_1_method_43_code, 3, (Option.none : Option Jvm.ClassFile.FieldType), [], 6, 90, 10, [], c_i14)
def c_x14 : List (List Nat) := [[], [], [], [], [], [], [467, 59, 510, 181, 1, 56, 489, 498, 504, 507, 509, 490, 491, 73, 74, 492, 497, 505, 525, 479, 526, 481, 527, 483, 493, 495, 485, 521, 522, 524, 485, 512, 513, 514, 515, 471, 515, 516, 517, 518, 473, 518, 519, 520, 521, 475, 511, 468, 469, 476, 477, 478, 480, 482, 484, 488, 487, 486], []]
/-- BoxballHall.demandBox(I)V -/
def c_i15 : List (Nat × c_I) := [(0, .iload_n 1, 0, 0, 0), (1, .ifCond .lt (14), 15, 0, 0), (4, .iload_n 1, 0, 0, 0), (5, .aload_n 0, 0, 0, 0), (6, .getfield 10, 10, 0, 0), (9, .getfield 93, 6, 2, 1), (12, .if_icmp .lt (14), 26, 0, 0), (15, .new 346, 1, 0, 1), (26, .return_, 0, 0, 0)]
def c_m15 : c_M := (⟨"BoxballHall", "demandBox", "(I)V"⟩, prog_1_method_46_code, 2, (Option.none : Option Jvm.ClassFile.FieldType), [], 6, 90, 10, [], c_i15)
def c_x15 : List (List Nat) := [[], [], [], [], [260], [93], [], [577, 60, 586, 350, 1, 56, 489, 498, 504, 507, 509, 490, 491, 73, 74, 492, 497, 505, 525, 479, 526, 481, 527, 483, 493, 495, 485, 521, 522, 524, 485, 550, 551, 552, 515, 471, 515, 516, 517, 518, 473, 518, 519, 520, 521, 475, 587, 578, 579, 580, 501, 581, 582, 583, 584, 488, 487, 585], []]
/-- BoxballHall.stepTo(IZ)I -/
def c_i16 : List (Nat × c_I) := [(0, .iload_n 1, 0, 0, 0), (1, .iconst 1, 0, 0, 0), (2, .bipush (99), 0, 0, 0), (4, .invokestatic 89, 14, 3, 0), (7, .aload_n 0, 0, 0, 0), (8, .getfield 26, 10, 2, 0), (11, .aload_n 0, 0, 0, 0), (12, .getfield 10, 10, 0, 0), (15, .iload_n 1, 0, 0, 0), (16, .iload_n 2, 0, 0, 0), (17, .invokevirtual 125, 25, 3, 3), (20, .ifCond .ne (14), 34, 0, 0), (23, .new 170, 2, 0, 1), (34, .aload_n 0, 0, 0, 0), (35, .invokevirtual 129, 17, 0, 2), (38, .aload_n 0, 0, 0, 0), (39, .getfield 26, 10, 2, 0), (42, .getfield 357, 0, 1, 1), (45, .ireturn, 0, 0, 0)]
def c_m16 : c_M := (⟨"BoxballHall", "stepTo", "(IZ)I"⟩, prog_1_method_48_code, 3, (Option.some Jvm.ClassFile.FieldType.int), [], 7, 112, 10, [], c_i16)
def c_x16 : List (List Nat) := [[], [], [], [43, 464, 465, 0, 466], [], [262], [], [260], [], [], [46, 329, 331, 4, 332], [], [617, 64, 626, 174, 1, 56, 489, 498, 504, 507, 509, 490, 491, 73, 74, 492, 497, 505, 525, 479, 526, 481, 527, 483, 493, 495, 485, 521, 522, 524, 485, 628, 629, 630, 515, 471, 515, 516, 517, 518, 473, 518, 519, 520, 521, 475, 627, 618, 619, 620, 502, 621, 622, 623, 624, 488, 487, 625], [], [43, 633, 635, 36, 636], [], [262], [141], []]
/-- BoxballHall.takeStep()V -/
def c_i17 : List (Nat × c_I) := [(0, .aload_n 0, 0, 0, 0), (1, .getfield 19, 10, 1, 0), (4, .aload_n 0, 0, 0, 0), (5, .getfield 10, 10, 0, 0), (8, .invokevirtual 360, 43, 1, 3), (11, .aload_n 0, 0, 0, 0), (12, .getfield 10, 10, 0, 0), (15, .aload_n 0, 0, 0, 0), (16, .getfield 26, 10, 2, 0), (19, .getfield 363, 0, 0, 1), (22, .invokevirtual 366, 53, 1, 3), (25, .return_, 0, 0, 0)]
def c_m17 : c_M := (⟨"BoxballHall", "takeStep", "()V"⟩, prog_1_method_49_code, 1, (Option.none : Option Jvm.ClassFile.FieldType), [], 3, 65, 10, [], c_i17)
def c_x17 : List (List Nat) := [[], [261], [], [260], [45, 637, 639, 37, 640], [], [260], [], [262], [139], [44, 355, 353, 8, 354], []]
/-- BoxballHall.isTurnedBack()Z -/
def c_i18 : List (Nat × c_I) := [(0, .aload_n 0, 0, 0, 0), (1, .getfield 10, 10, 0, 0), (4, .getfield 166, 6, 3, 1), (7, .ifCond .ne (19), 26, 0, 0), (10, .aload_n 0, 0, 0, 0), (11, .getfield 26, 10, 2, 0), (14, .aload_n 0, 0, 0, 0), (15, .getfield 10, 10, 0, 0), (18, .iconst 3, 0, 0, 0), (19, .iconst 1, 0, 0, 0), (20, .invokevirtual 125, 25, 3, 3), (23, .ifCond .ne (5), 28, 0, 0), (26, .iconst 1, 0, 0, 0), (27, .ireturn, 0, 0, 0), (28, .aload_n 0, 0, 0, 0), (29, .getfield 79, 10, 10, 0), (32, .aload_n 0, 0, 0, 0), (33, .getfield 10, 10, 0, 0), (36, .invokevirtual 155, 51, 1, 3), (39, .aload_n 0, 0, 0, 0), (40, .getfield 79, 10, 10, 0), (43, .aload_n 0, 0, 0, 0), (44, .getfield 26, 10, 2, 0), (47, .getfield 363, 0, 0, 1), (50, .invokevirtual 366, 53, 1, 3), (53, .aload_n 0, 0, 0, 0), (54, .getfield 26, 10, 2, 0), (57, .aload_n 0, 0, 0, 0), (58, .getfield 79, 10, 10, 0), (61, .iconst 3, 0, 0, 0), (62, .iconst 0, 0, 0, 0), (63, .invokevirtual 125, 25, 3, 3), (66, .ifCond .ne (5), 71, 0, 0), (69, .iconst 0, 0, 0, 0), (70, .ireturn, 0, 0, 0), (71, .aload_n 0, 0, 0, 0), (72, .getfield 79, 10, 10, 0), (75, .aload_n 0, 0, 0, 0), (76, .getfield 26, 10, 2, 0), (79, .getfield 363, 0, 0, 1), (82, .invokevirtual 366, 53, 1, 3), (85, .aload_n 0, 0, 0, 0), (86, .getfield 79, 10, 10, 0), (89, .aload_n 0, 0, 0, 0), (90, .getfield 10, 10, 0, 0), (93, .invokevirtual 162, 54, 1, 3), (96, .ireturn, 0, 0, 0)]
def c_m18 : c_M := (⟨"BoxballHall", "isTurnedBack", "()Z"⟩, prog_1_method_56_code, 1, (Option.some Jvm.ClassFile.FieldType.boolean), [], 4, 104, 10, [], c_i18)
def c_x18 : List (List Nat) := [[], [260], [99], [], [], [262], [], [260], [], [], [46, 329, 331, 4, 332], [], [], [], [], [270], [], [260], [44, 343, 345, 6, 346], [], [270], [], [262], [139], [44, 355, 353, 8, 354], [], [262], [], [270], [], [], [46, 329, 331, 4, 332], [], [], [], [], [270], [], [262], [139], [44, 355, 353, 8, 354], [], [270], [], [260], [44, 356, 358, 9, 359], []]
/-- BoxballHall.areWavesSound()Z -/
def c_i19 : List (Nat × c_I) := [(0, .aload_n 0, 0, 0, 0), (1, .getfield 10, 10, 0, 0), (4, .getfield 166, 6, 3, 1), (7, .ifCond .ne (13), 20, 0, 0), (10, .aload_n 0, 0, 0, 0), (11, .getfield 10, 10, 0, 0), (14, .invokevirtual 271, 55, 0, 3), (17, .ifCond .ne (5), 22, 0, 0), (20, .iconst 1, 0, 0, 0), (21, .ireturn, 0, 0, 0), (22, .aload_n 0, 0, 0, 0), (23, .getfield 33, 10, 3, 0), (26, .aload_n 0, 0, 0, 0), (27, .getfield 10, 10, 0, 0), (30, .invokevirtual 372, 31, 1, 3), (33, .aload_n 0, 0, 0, 0), (34, .invokevirtual 388, 20, 0, 2), (37, .ifCond .eq (14), 51, 0, 0), (40, .aload_n 0, 0, 0, 0), (41, .invokevirtual 391, 21, 0, 2), (44, .ifCond .eq (7), 51, 0, 0), (47, .iconst 1, 0, 0, 0), (48, .goto (4), 52, 0, 0), (51, .iconst 0, 0, 0, 0), (52, .ireturn, 0, 0, 0)]
def c_m19 : c_M := (⟨"BoxballHall", "areWavesSound", "()Z"⟩, prog_1_method_57_code, 1, (Option.some Jvm.ClassFile.FieldType.boolean), [], 5, 125, 10, [], c_i19)
def c_x19 : List (List Nat) := [[], [260], [99], [], [], [260], [44, 364, 366, 11, 367], [], [], [], [], [263], [], [260], [47, 368, 370, 12, 371], [], [43, 382, 384, 15, 385], [], [], [43, 407, 409, 21, 410], [], [], [], [], []]
/-- BoxballHall.areEnergiesSums()Z -/
def c_i20 : List (Nat × c_I) := [(0, .iconst 1, 0, 0, 0), (1, .istore_n 1, 0, 0, 0), (2, .iload_n 1, 0, 0, 0), (3, .bipush (99), 0, 0, 0), (5, .if_icmp .gt (34), 39, 0, 0), (8, .aload_n 0, 0, 0, 0), (9, .getfield 26, 10, 2, 0), (12, .aload_n 0, 0, 0, 0), (13, .getfield 10, 10, 0, 0), (16, .iload_n 1, 0, 0, 0), (17, .invokevirtual 200, 27, 2, 3), (20, .aload_n 0, 0, 0, 0), (21, .getfield 33, 10, 3, 0), (24, .iload_n 1, 0, 0, 0), (25, .invokevirtual 328, 37, 1, 3), (28, .if_icmp .eq (5), 33, 0, 0), (31, .iconst 0, 0, 0, 0), (32, .ireturn, 0, 0, 0), (33, .iinc 1 (1), 0, 0, 0), (36, .goto (-34), 2, 0, 0), (39, .iconst 1, 0, 0, 0), (40, .ireturn, 0, 0, 0)]
def c_m20 : c_M := (⟨"BoxballHall", "areEnergiesSums", "()Z"⟩, prog_1_method_58_code, 2, (Option.some Jvm.ClassFile.FieldType.boolean), [], 4, 104, 10, [], c_i20)
def c_x20 : List (List Nat) := [[], [], [], [], [], [], [262], [], [260], [], [46, 386, 388, 16, 389], [], [263], [], [47, 390, 392, 17, 393], [], [], [], [], [], [], []]
/-- BoxballHall.areRunsWaves()Z -/
def c_i21 : List (Nat × c_I) := [(0, .aload_n 0, 0, 0, 0), (1, .getfield 40, 10, 4, 0), (4, .aload_n 0, 0, 0, 0), (5, .getfield 10, 10, 0, 0), (8, .bipush (90), 0, 0, 0), (10, .invokevirtual 375, 59, 2, 3), (13, .aload_n 0, 0, 0, 0), (14, .getfield 33, 10, 3, 0), (17, .invokevirtual 189, 35, 0, 3), (20, .istore_n 1, 0, 0, 0), (21, .aload_n 0, 0, 0, 0), (22, .getfield 40, 10, 4, 0), (25, .invokevirtual 207, 63, 0, 3), (28, .iload_n 1, 0, 0, 0), (29, .if_icmp .eq (5), 34, 0, 0), (32, .iconst 0, 0, 0, 0), (33, .ireturn, 0, 0, 0), (34, .iconst 0, 0, 0, 0), (35, .istore_n 2, 0, 0, 0), (36, .iload_n 2, 0, 0, 0), (37, .iload_n 1, 0, 0, 0), (38, .if_icmp .ge (41), 79, 0, 0), (41, .aload_n 0, 0, 0, 0), (42, .getfield 40, 10, 4, 0), (45, .aload_n 0, 0, 0, 0), (46, .getfield 40, 10, 4, 0), (49, .iload_n 2, 0, 0, 0), (50, .invokevirtual 378, 64, 1, 3), (53, .invokevirtual 211, 65, 1, 3), (56, .aload_n 0, 0, 0, 0), (57, .getfield 33, 10, 3, 0), (60, .iload_n 1, 0, 0, 0), (61, .iconst 1, 0, 0, 0), (62, .isub, 0, 0, 0), (63, .iload_n 2, 0, 0, 0), (64, .isub, 0, 0, 0), (65, .invokevirtual 194, 36, 1, 3), (68, .if_icmp .eq (5), 73, 0, 0), (71, .iconst 0, 0, 0, 0), (72, .ireturn, 0, 0, 0), (73, .iinc 2 (1), 0, 0, 0), (76, .goto (-40), 36, 0, 0), (79, .iconst 1, 0, 0, 0), (80, .ireturn, 0, 0, 0)]
def c_m21 : c_M := (⟨"BoxballHall", "areRunsWaves", "()Z"⟩, prog_1_method_59_code, 3, (Option.some Jvm.ClassFile.FieldType.boolean), [], 3, 77, 10, [], c_i21)
def c_x21 : List (List Nat) := [[], [264], [], [260], [], [48, 411, 413, 22, 414], [], [263], [47, 424, 396, 18, 397], [], [], [264], [48, 425, 427, 25, 428], [], [], [], [], [], [], [], [], [], [], [264], [], [264], [], [48, 433, 435, 27, 436], [48, 437, 439, 28, 440], [], [263], [], [], [], [], [], [47, 441, 404, 20, 405], [], [], [], [], [], [], []]
/-- BoxballHall.ballsLeftBehind(IIII)I -/
def c_i22 : List (Nat × c_I) := [(0, .iload_n 1, 0, 0, 0), (1, .iload_n 2, 0, 0, 0), (2, .iload_n 3, 0, 0, 0), (3, .isub, 0, 0, 0), (4, .invokestatic 111, 0, 0, 8), (7, .iconst 0, 0, 0, 0), (8, .iload_n 1, 0, 0, 0), (9, .iload_n 3, 0, 0, 0), (10, .iadd, 0, 0, 0), (11, .iload_n 0, 0, 0, 0), (12, .isub, 0, 0, 0), (13, .invokestatic 394, 0, 0, 7), (16, .iadd, 0, 0, 0), (17, .ireturn, 0, 0, 0)]
def c_m22 : c_M := (⟨"BoxballHall", "ballsLeftBehind", "(IIII)I"⟩, prog_1_method_60_code, 4, (Option.some Jvm.ClassFile.FieldType.int), [], 1, 30, 10, [], c_i22)
def c_x22 : List (List Nat) := [[], [], [], [], [340, 252, 54, 253], [], [], [], [], [], [], [341, 255, 54, 256], [], []]
/-- BoxballHall.bitsOfShare(F)I -/
def c_i23 : List (Nat × c_I) := [(0, .fload_n 0, 0, 0, 0), (1, .fconst 0, 0, 0, 0), (2, .fcmp .g, 0, 0, 0), (3, .ifCond .gt (5), 8, 0, 0), (6, .iconst 0, 0, 0, 0), (7, .ireturn, 0, 0, 0), (8, .bipush (127), 0, 0, 0), (10, .istore_n 1, 0, 0, 0), (11, .fload_n 0, 0, 0, 0), (12, .fstore_n 2, 0, 0, 0), (13, .fload_n 2, 0, 0, 0), (14, .fconst 1, 0, 0, 0), (15, .fcmp .g, 0, 0, 0), (16, .ifCond .ge (18), 34, 0, 0), (19, .iload_n 1, 0, 0, 0), (20, .iconst 1, 0, 0, 0), (21, .if_icmp .le (13), 34, 0, 0), (24, .fload_n 2, 0, 0, 0), (25, .fconst 2, 0, 0, 0), (26, .fmul, 0, 0, 0), (27, .fstore_n 2, 0, 0, 0), (28, .iinc 1 (-1), 0, 0, 0), (31, .goto (-18), 13, 0, 0), (34, .iload_n 1, 0, 0, 0), (35, .bipush (23), 0, 0, 0), (37, .ishl, 0, 0, 0), (38, .fload_n 2, 0, 0, 0), (39, .fconst 1, 0, 0, 0), (40, .fsub, 0, 0, 0), (41, .ldc_w 397, 1258291200, 0, 1), (44, .fmul, 0, 0, 0), (45, .f2i, 0, 0, 0), (46, .ior, 0, 0, 0), (47, .ireturn, 0, 0, 0)]
def c_m23 : c_M := (⟨"BoxballHall", "bitsOfShare", "(F)I"⟩, prog_1_method_63_code, 3, (Option.some Jvm.ClassFile.FieldType.int), [], 0, 0, 10, [], c_i23)
def c_x23 : List (List Nat) := [[], [], [], [], [], [], [], [], [], [], [], [], [], [], [], [], [], [], [], [], [], [], [], [], [], [], [], [], [], [320], [], [], [], []]
/-- BoxballHall$Carrier.<init>()V -/
def c_i24 : List (Nat × c_I) := [(0, .aload_n 0, 0, 0, 0), (1, .invokespecial 3, 0, 0, 6), (4, .aload_n 0, 0, 0, 0), (5, .bipush (60), 0, 0, 0), (7, .newarray .int, 0, 0, 0), (9, .putfield 9, 0, 0, 0), (12, .return_, 0, 0, 0)]
def c_m24 : c_M := (⟨"BoxballHall$Carrier", "<init>", "()V"⟩, prog_2_method_1_code, 1, (Option.none : Option Jvm.ClassFile.FieldType), [], 1, 30, 0, [], c_i24)
def c_x24 : List (List Nat) := [[], [137, 73, 74], [], [], [109], [138], []]
/-- BoxballHall$Carrier.canPass(LBoxballHall$Row;IZ)Z -/
def c_i25 : List (Nat × c_I) := [(0, .aload_n 1, 0, 0, 0), (1, .getfield 15, 6, 3, 1), (4, .ifCond .eq (14), 18, 0, 0), (7, .aload_n 0, 0, 0, 0), (8, .aload_n 1, 0, 0, 0), (9, .iload_n 2, 0, 0, 0), (10, .iconst 0, 0, 0, 0), (11, .iload_n 3, 0, 0, 0), (12, .invokevirtual 21, 26, 4, 2), (15, .goto (4), 19, 0, 0), (18, .iconst 0, 0, 0, 0), (19, .istore 4, 0, 0, 0), (21, .aload_n 0, 0, 0, 0), (22, .aload_n 1, 0, 0, 0), (23, .iload_n 2, 0, 0, 0), (24, .iload 4, 0, 0, 0), (26, .iload_n 3, 0, 0, 0), (27, .invokevirtual 21, 26, 4, 2), (30, .iload 4, 0, 0, 0), (32, .if_icmp .ne (7), 39, 0, 0), (35, .iconst 1, 0, 0, 0), (36, .goto (4), 40, 0, 0), (39, .iconst 0, 0, 0, 0), (40, .ireturn, 0, 0, 0)]
def c_m25 : c_M := (⟨"BoxballHall$Carrier", "canPass", "(LBoxballHall$Row;IZ)Z"⟩, prog_2_method_2_code, 5, (Option.some Jvm.ClassFile.FieldType.boolean), [], 3, 80, 0, [], c_i25)
def c_x25 : List (List Nat) := [[], [97], [], [], [], [], [], [], [46, 333, 335, 5, 336], [], [], [], [], [], [], [], [], [46, 333, 335, 5, 336], [], [], [], [], [], []]
/-- BoxballHall$Carrier.goOver(LBoxballHall$Row;IIZ)I -/
def c_i26 : List (Nat × c_I) := [(0, .iload_n 3, 0, 0, 0), (1, .istore 5, 0, 0, 0), (3, .aload_n 0, 0, 0, 0), (4, .iload_n 3, 0, 0, 0), (5, .putfield 25, 0, 1, 0), (8, .iconst 0, 0, 0, 0), (9, .istore 6, 0, 0, 0), (11, .iload 6, 0, 0, 0), (13, .aload_n 1, 0, 0, 0), (14, .getfield 29, 6, 2, 1), (17, .if_icmp .ge (90), 107, 0, 0), (20, .iload 4, 0, 0, 0), (22, .ifCond .eq (8), 30, 0, 0), (25, .iload 6, 0, 0, 0), (27, .goto (12), 39, 0, 0), (30, .aload_n 1, 0, 0, 0), (31, .getfield 29, 6, 2, 1), (34, .iconst 1, 0, 0, 0), (35, .isub, 0, 0, 0), (36, .iload 6, 0, 0, 0), (38, .isub, 0, 0, 0), (39, .istore 7, 0, 0, 0), (41, .aload_n 0, 0, 0, 0), (42, .getfield 9, 0, 0, 0), (45, .iload 7, 0, 0, 0), (47, .iload_n 2, 0, 0, 0), (48, .iload 5, 0, 0, 0), (50, .aload_n 1, 0, 0, 0), (51, .getfield 32, 6, 0, 1), (54, .iload 7, 0, 0, 0), (56, .iaload, 0, 0, 0), (57, .aload_n 1, 0, 0, 0), (58, .getfield 35, 6, 1, 1), (61, .iload 7, 0, 0, 0), (63, .iaload, 0, 0, 0), (64, .invokestatic 38, 22, 4, 1), (67, .iastore, 0, 0, 0), (68, .iload 5, 0, 0, 0), (70, .aload_n 1, 0, 0, 0), (71, .getfield 35, 6, 1, 1), (74, .iload 7, 0, 0, 0), (76, .iaload, 0, 0, 0), (77, .aload_n 0, 0, 0, 0), (78, .getfield 9, 0, 0, 0), (81, .iload 7, 0, 0, 0), (83, .iaload, 0, 0, 0), (84, .isub, 0, 0, 0), (85, .iadd, 0, 0, 0), (86, .istore 5, 0, 0, 0), (88, .aload_n 0, 0, 0, 0), (89, .aload_n 0, 0, 0, 0), (90, .getfield 25, 0, 1, 0), (93, .iload 5, 0, 0, 0), (95, .invokestatic 42, 0, 0, 7), (98, .putfield 25, 0, 1, 0), (101, .iinc 6 (1), 0, 0, 0), (104, .goto (-93), 11, 0, 0), (107, .iload 5, 0, 0, 0), (109, .ireturn, 0, 0, 0)]
def c_m26 : c_M := (⟨"BoxballHall$Carrier", "goOver", "(LBoxballHall$Row;IIZ)I"⟩, prog_2_method_3_code, 8, (Option.some Jvm.ClassFile.FieldType.int), [], 2, 53, 0, [], c_i26)
def c_x26 : List (List Nat) := [[], [], [], [], [140], [], [], [], [], [95], [], [], [], [], [], [], [95], [], [], [], [], [], [], [138], [], [], [], [], [83], [], [], [], [89], [], [], [43, 337, 338, 0, 339], [], [], [], [89], [], [], [], [138], [], [], [], [], [], [], [], [140], [], [342, 255, 54, 256], [140], [], [], [], []]
/-- BoxballHall$Carrier.countPickups(LBoxballHall$Row;I)I -/
def c_i27 : List (Nat × c_I) := [(0, .aload_n 0, 0, 0, 0), (1, .aload_n 1, 0, 0, 0), (2, .iload_n 2, 0, 0, 0), (3, .iconst 0, 0, 0, 0), (4, .iconst 1, 0, 0, 0), (5, .invokevirtual 21, 26, 4, 2), (8, .pop, 0, 0, 0), (9, .iconst 0, 0, 0, 0), (10, .istore_n 3, 0, 0, 0), (11, .iconst 0, 0, 0, 0), (12, .istore 4, 0, 0, 0), (14, .iload 4, 0, 0, 0), (16, .aload_n 1, 0, 0, 0), (17, .getfield 29, 6, 2, 1), (20, .if_icmp .ge (32), 52, 0, 0), (23, .aload_n 1, 0, 0, 0), (24, .getfield 35, 6, 1, 1), (27, .iload 4, 0, 0, 0), (29, .iaload, 0, 0, 0), (30, .ifCond .le (16), 46, 0, 0), (33, .aload_n 0, 0, 0, 0), (34, .getfield 9, 0, 0, 0), (37, .iload 4, 0, 0, 0), (39, .iaload, 0, 0, 0), (40, .ifCond .ne (6), 46, 0, 0), (43, .iinc 3 (1), 0, 0, 0), (46, .iinc 4 (1), 0, 0, 0), (49, .goto (-35), 14, 0, 0), (52, .iload_n 3, 0, 0, 0), (53, .ireturn, 0, 0, 0)]
def c_m27 : c_M := (⟨"BoxballHall$Carrier", "countPickups", "(LBoxballHall$Row;I)I"⟩, prog_2_method_4_code, 5, (Option.some Jvm.ClassFile.FieldType.int), [], 3, 80, 0, [], c_i27)
def c_x27 : List (List Nat) := [[], [], [], [], [], [46, 333, 335, 5, 336], [], [], [], [], [], [], [], [95], [], [], [89], [], [], [], [], [138], [], [], [], [], [], [], [], []]
/-- BoxballHall$ChosenWaves.<init>()V -/
def c_i28 : List (Nat × c_I) := [(0, .aload_n 0, 0, 0, 0), (1, .invokespecial 3, 0, 0, 6), (4, .aload_n 0, 0, 0, 0), (5, .iconst 5, 0, 0, 0), (6, .newarray .int, 0, 0, 0), (8, .putfield 9, 1, 0, 0), (11, .aload_n 0, 0, 0, 0), (12, .iconst 5, 0, 0, 0), (13, .newarray .int, 0, 0, 0), (15, .putfield 15, 1, 1, 0), (18, .return_, 0, 0, 0)]
def c_m28 : c_M := (⟨"BoxballHall$ChosenWaves", "<init>", "()V"⟩, prog_3_method_1_code, 1, (Option.none : Option Jvm.ClassFile.FieldType), [], 1, 30, 1, [], c_i28)
def c_x28 : List (List Nat) := [[], [200, 73, 74], [], [], [109], [201], [], [], [109], [202], []]
/-- BoxballHall$NumberSet.<init>()V -/
def c_i29 : List (Nat × c_I) := [(0, .aload_n 0, 0, 0, 0), (1, .invokespecial 3, 0, 0, 6), (4, .aload_n 0, 0, 0, 0), (5, .bipush (64), 0, 0, 0), (7, .newarray .long, 1, 0, 0), (9, .putfield 9, 2, 0, 0), (12, .return_, 0, 0, 0)]
def c_m29 : c_M := (⟨"BoxballHall$NumberSet", "<init>", "()V"⟩, prog_4_method_1_code, 1, (Option.none : Option Jvm.ClassFile.FieldType), [], 1, 30, 2, [], c_i29)
def c_x29 : List (List Nat) := [[], [227, 73, 74], [], [], [232], [228], []]
/-- BoxballHall$Pairs.<init>()V -/
def c_i30 : List (Nat × c_I) := [(0, .aload_n 0, 0, 0, 0), (1, .invokespecial 3, 0, 0, 6), (4, .aload_n 0, 0, 0, 0), (5, .bipush (120), 0, 0, 0), (7, .newarray .int, 0, 0, 0), (9, .putfield 9, 3, 0, 0), (12, .aload_n 0, 0, 0, 0), (13, .bipush (60), 0, 0, 0), (15, .newarray .int, 0, 0, 0), (17, .putfield 15, 3, 1, 0), (20, .return_, 0, 0, 0)]
def c_m30 : c_M := (⟨"BoxballHall$Pairs", "<init>", "()V"⟩, prog_5_method_1_code, 1, (Option.none : Option Jvm.ClassFile.FieldType), [], 1, 30, 3, [], c_i30)
def c_x30 : List (List Nat) := [[], [152, 73, 74], [], [], [109], [153], [], [], [109], [154], []]
/-- BoxballHall$Pairs.removeAll(LBoxballHall$Row;)V -/
def c_i31 : List (Nat × c_I) := [(0, .aload_n 0, 0, 0, 0), (1, .aload_n 1, 0, 0, 0), (2, .invokevirtual 18, 32, 1, 2), (5, .istore_n 2, 0, 0, 0), (6, .aload_n 0, 0, 0, 0), (7, .iconst 0, 0, 0, 0), (8, .putfield 22, 3, 2, 0), (11, .aload_n 0, 0, 0, 0), (12, .getfield 22, 3, 2, 0), (15, .bipush (60), 0, 0, 0), (17, .if_icmp .ge (43), 60, 0, 0), (20, .aload_n 0, 0, 0, 0), (21, .iload_n 2, 0, 0, 0), (22, .invokevirtual 26, 33, 1, 2), (25, .istore_n 3, 0, 0, 0), (26, .iload_n 3, 0, 0, 0), (27, .ifCond .ne (4), 31, 0, 0), (30, .return_, 0, 0, 0), (31, .aload_n 0, 0, 0, 0), (32, .getfield 15, 3, 1, 0), (35, .aload_n 0, 0, 0, 0), (36, .getfield 22, 3, 2, 0), (39, .iload_n 3, 0, 0, 0), (40, .iastore, 0, 0, 0), (41, .aload_n 0, 0, 0, 0), (42, .dup, 0, 0, 0), (43, .getfield 22, 3, 2, 0), (46, .iconst 1, 0, 0, 0), (47, .iadd, 0, 0, 0), (48, .putfield 22, 3, 2, 0), (51, .iload_n 2, 0, 0, 0), (52, .iconst 2, 0, 0, 0), (53, .iload_n 3, 0, 0, 0), (54, .imul, 0, 0, 0), (55, .isub, 0, 0, 0), (56, .istore_n 2, 0, 0, 0), (57, .goto (-46), 11, 0, 0), (60, .return_, 0, 0, 0)]
def c_m31 : c_M := (⟨"BoxballHall$Pairs", "removeAll", "(LBoxballHall$Row;)V"⟩, prog_5_method_2_code, 4, (Option.none : Option Jvm.ClassFile.FieldType), [], 2, 45, 3, [], c_i31)
def c_x31 : List (List Nat) := [[], [], [47, 372, 374, 13, 375], [], [], [], [155], [], [155], [], [], [], [], [47, 378, 380, 14, 381], [], [], [], [], [], [154], [], [155], [], [], [], [], [155], [], [], [155], [], [], [], [], [], [], [], []]
/-- BoxballHall$Pairs.standUp(LBoxballHall$Row;)I -/
def c_i32 : List (Nat × c_I) := [(0, .aload_n 0, 0, 0, 0), (1, .getfield 9, 3, 0, 0), (4, .iconst 0, 0, 0, 0), (5, .invokestatic 30, 82, 2, 0), (8, .iconst 0, 0, 0, 0), (9, .istore_n 2, 0, 0, 0), (10, .iload_n 2, 0, 0, 0), (11, .aload_n 1, 0, 0, 0), (12, .getfield 36, 6, 2, 1), (15, .if_icmp .ge (21), 36, 0, 0), (18, .aload_n 0, 0, 0, 0), (19, .getfield 9, 3, 0, 0), (22, .iload_n 2, 0, 0, 0), (23, .aload_n 1, 0, 0, 0), (24, .getfield 41, 6, 1, 1), (27, .iload_n 2, 0, 0, 0), (28, .iaload, 0, 0, 0), (29, .iastore, 0, 0, 0), (30, .iinc 2 (1), 0, 0, 0), (33, .goto (-23), 10, 0, 0), (36, .aload_n 1, 0, 0, 0), (37, .getfield 36, 6, 2, 1), (40, .aload_n 1, 0, 0, 0), (41, .invokevirtual 44, 56, 0, 3), (44, .iadd, 0, 0, 0), (45, .ireturn, 0, 0, 0)]
def c_m32 : c_M := (⟨"BoxballHall$Pairs", "standUp", "(LBoxballHall$Row;)I"⟩, prog_5_method_3_code, 3, (Option.some Jvm.ClassFile.FieldType.int), [], 1, 23, 3, [], c_i32)
def c_x32 : List (List Nat) := [[], [153], [], [55, 376, 258, 0, 259], [], [], [], [], [94], [], [], [153], [], [], [87], [], [], [], [], [], [], [94], [], [44, 377, 303, 1, 304], [], []]
/-- BoxballHall$Pairs.removeRound(I)I -/
def c_i33 : List (Nat × c_I) := [(0, .iconst 0, 0, 0, 0), (1, .istore_n 2, 0, 0, 0), (2, .iconst 0, 0, 0, 0), (3, .istore_n 3, 0, 0, 0), (4, .iconst 0, 0, 0, 0), (5, .istore 4, 0, 0, 0), (7, .iload 4, 0, 0, 0), (9, .iload_n 1, 0, 0, 0), (10, .if_icmp .ge (99), 109, 0, 0), (13, .iload 4, 0, 0, 0), (15, .aload_n 0, 0, 0, 0), (16, .getfield 9, 3, 0, 0), (19, .arraylength, 0, 0, 0), (20, .if_icmp .ge (89), 109, 0, 0), (23, .iload 4, 0, 0, 0), (25, .iconst 1, 0, 0, 0), (26, .iadd, 0, 0, 0), (27, .iload_n 1, 0, 0, 0), (28, .if_icmp .ge (19), 47, 0, 0), (31, .iload 4, 0, 0, 0), (33, .iconst 1, 0, 0, 0), (34, .iadd, 0, 0, 0), (35, .aload_n 0, 0, 0, 0), (36, .getfield 9, 3, 0, 0), (39, .arraylength, 0, 0, 0), (40, .if_icmp .ge (7), 47, 0, 0), (43, .iconst 1, 0, 0, 0), (44, .goto (4), 48, 0, 0), (47, .iconst 0, 0, 0, 0), (48, .istore 5, 0, 0, 0), (50, .iload 5, 0, 0, 0), (52, .ifCond .eq (35), 87, 0, 0), (55, .aload_n 0, 0, 0, 0), (56, .getfield 9, 3, 0, 0), (59, .iload 4, 0, 0, 0), (61, .iaload, 0, 0, 0), (62, .iconst 1, 0, 0, 0), (63, .if_icmp .ne (24), 87, 0, 0), (66, .aload_n 0, 0, 0, 0), (67, .getfield 9, 3, 0, 0), (70, .iload 4, 0, 0, 0), (72, .iconst 1, 0, 0, 0), (73, .iadd, 0, 0, 0), (74, .iaload, 0, 0, 0), (75, .ifCond .ne (12), 87, 0, 0), (78, .iinc 2 (1), 0, 0, 0), (81, .iinc 4 (2), 0, 0, 0), (84, .goto (22), 106, 0, 0), (87, .aload_n 0, 0, 0, 0), (88, .getfield 9, 3, 0, 0), (91, .iload_n 3, 0, 0, 0), (92, .aload_n 0, 0, 0, 0), (93, .getfield 9, 3, 0, 0), (96, .iload 4, 0, 0, 0), (98, .iaload, 0, 0, 0), (99, .iastore, 0, 0, 0), (100, .iinc 3 (1), 0, 0, 0), (103, .iinc 4 (1), 0, 0, 0), (106, .goto (-99), 7, 0, 0), (109, .iload_n 2, 0, 0, 0), (110, .ireturn, 0, 0, 0)]
def c_m33 : c_M := (⟨"BoxballHall$Pairs", "removeRound", "(I)I"⟩, prog_5_method_4_code, 6, (Option.some Jvm.ClassFile.FieldType.int), [], 0, 0, 3, [], c_i33)
def c_x33 : List (List Nat) := [[], [], [], [], [], [], [], [], [], [], [], [153], [], [], [], [], [], [], [], [], [], [], [], [153], [], [], [], [], [], [], [], [], [], [153], [], [], [], [], [], [153], [], [], [], [], [], [], [], [], [], [153], [], [], [153], [], [], [], [], [], [], [], []]
/-- BoxballHall$Pairs.inRound(I)I -/
def c_i34 : List (Nat × c_I) := [(0, .iload_n 1, 0, 0, 0), (1, .iconst 1, 0, 0, 0), (2, .if_icmp .lt (22), 24, 0, 0), (5, .iload_n 1, 0, 0, 0), (6, .aload_n 0, 0, 0, 0), (7, .getfield 22, 3, 2, 0), (10, .if_icmp .gt (14), 24, 0, 0), (13, .aload_n 0, 0, 0, 0), (14, .getfield 15, 3, 1, 0), (17, .iload_n 1, 0, 0, 0), (18, .iconst 1, 0, 0, 0), (19, .isub, 0, 0, 0), (20, .iaload, 0, 0, 0), (21, .goto (4), 25, 0, 0), (24, .iconst 0, 0, 0, 0), (25, .ireturn, 0, 0, 0)]
def c_m34 : c_M := (⟨"BoxballHall$Pairs", "inRound", "(I)I"⟩, prog_5_method_5_code, 2, (Option.some Jvm.ClassFile.FieldType.int), [], 0, 0, 3, [], c_i34)
def c_x34 : List (List Nat) := [[], [], [], [], [], [155], [], [], [154], [], [], [], [], [], [], []]
/-- BoxballHall$Pairs.countAll()I -/
def c_i35 : List (Nat × c_I) := [(0, .aload_n 0, 0, 0, 0), (1, .iconst 1, 0, 0, 0), (2, .invokevirtual 48, 34, 1, 2), (5, .ireturn, 0, 0, 0)]
def c_m35 : c_M := (⟨"BoxballHall$Pairs", "countAll", "()I"⟩, prog_5_method_6_code, 1, (Option.some Jvm.ClassFile.FieldType.int), [], 1, 21, 3, [], c_i35)
def c_x35 : List (List Nat) := [[], [], [47, 398, 400, 19, 401], []]
/-- BoxballHall$Pairs.sizeOf(I)I -/
def c_i36 : List (Nat × c_I) := [(0, .iconst 0, 0, 0, 0), (1, .istore_n 2, 0, 0, 0), (2, .iconst 0, 0, 0, 0), (3, .istore_n 3, 0, 0, 0), (4, .iload_n 3, 0, 0, 0), (5, .aload_n 0, 0, 0, 0), (6, .getfield 22, 3, 2, 0), (9, .if_icmp .ge (22), 31, 0, 0), (12, .aload_n 0, 0, 0, 0), (13, .getfield 15, 3, 1, 0), (16, .iload_n 3, 0, 0, 0), (17, .iaload, 0, 0, 0), (18, .iload_n 1, 0, 0, 0), (19, .if_icmp .le (6), 25, 0, 0), (22, .iinc 2 (1), 0, 0, 0), (25, .iinc 3 (1), 0, 0, 0), (28, .goto (-24), 4, 0, 0), (31, .iload_n 2, 0, 0, 0), (32, .ireturn, 0, 0, 0)]
def c_m36 : c_M := (⟨"BoxballHall$Pairs", "sizeOf", "(I)I"⟩, prog_5_method_7_code, 4, (Option.some Jvm.ClassFile.FieldType.int), [], 0, 0, 3, [], c_i36)
def c_x36 : List (List Nat) := [[], [], [], [], [], [], [155], [], [], [154], [], [], [], [], [], [], [], [], []]
/-- BoxballHall$Pairs.sumOfSizes(I)I -/
def c_i37 : List (Nat × c_I) := [(0, .iconst 0, 0, 0, 0), (1, .istore_n 2, 0, 0, 0), (2, .iconst 0, 0, 0, 0), (3, .istore_n 3, 0, 0, 0), (4, .iload_n 3, 0, 0, 0), (5, .aload_n 0, 0, 0, 0), (6, .invokevirtual 51, 35, 0, 2), (9, .if_icmp .ge (21), 30, 0, 0), (12, .iload_n 2, 0, 0, 0), (13, .aload_n 0, 0, 0, 0), (14, .iload_n 3, 0, 0, 0), (15, .invokevirtual 54, 36, 1, 2), (18, .iload_n 1, 0, 0, 0), (19, .invokestatic 57, 0, 0, 8), (22, .iadd, 0, 0, 0), (23, .istore_n 2, 0, 0, 0), (24, .iinc 3 (1), 0, 0, 0), (27, .goto (-23), 4, 0, 0), (30, .iload_n 2, 0, 0, 0), (31, .ireturn, 0, 0, 0)]
def c_m37 : c_M := (⟨"BoxballHall$Pairs", "sumOfSizes", "(I)I"⟩, prog_5_method_8_code, 4, (Option.some Jvm.ClassFile.FieldType.int), [], 2, 41, 3, [], c_i37)
def c_x37 : List (List Nat) := [[], [], [], [], [], [], [47, 394, 396, 18, 397], [], [], [], [], [47, 402, 404, 20, 405], [], [406, 252, 54, 253], [], [], [], [], [], []]
/-- BoxballHall$Past.<init>()V -/
def c_i38 : List (Nat × c_I) := [(0, .aload_n 0, 0, 0, 0), (1, .invokespecial 3, 0, 0, 6), (4, .aload_n 0, 0, 0, 0), (5, .bipush (8), 0, 0, 0), (7, .bipush (60), 0, 0, 0), (9, .multianewarray 9 2, 0, 0, 0), (13, .putfield 11, 4, 0, 0), (16, .aload_n 0, 0, 0, 0), (17, .bipush (8), 0, 0, 0), (19, .bipush (60), 0, 0, 0), (21, .multianewarray 9 2, 0, 0, 0), (25, .putfield 16, 4, 1, 0), (28, .return_, 0, 0, 0)]
def c_m38 : c_M := (⟨"BoxballHall$Past", "<init>", "()V"⟩, prog_6_method_1_code, 1, (Option.none : Option Jvm.ClassFile.FieldType), [], 1, 30, 4, [], c_i38)
def c_x38 : List (List Nat) := [[], [115, 73, 74], [], [], [], [116, 109], [118], [], [], [], [116, 109], [119], []]
/-- BoxballHall$Past.forget()V -/
def c_i39 : List (Nat × c_I) := [(0, .aload_n 0, 0, 0, 0), (1, .iconst 0, 0, 0, 0), (2, .putfield 19, 4, 2, 0), (5, .return_, 0, 0, 0)]
def c_m39 : c_M := (⟨"BoxballHall$Past", "forget", "()V"⟩, prog_6_method_2_code, 1, (Option.none : Option Jvm.ClassFile.FieldType), [], 0, 0, 4, [], c_i39)
def c_x39 : List (List Nat) := [[], [], [120], []]
/-- BoxballHall$Past.hasRow(I)Z -/
def c_i40 : List (Nat × c_I) := [(0, .iload_n 1, 0, 0, 0), (1, .iconst 1, 0, 0, 0), (2, .if_icmp .lt (15), 17, 0, 0), (5, .iload_n 1, 0, 0, 0), (6, .aload_n 0, 0, 0, 0), (7, .getfield 19, 4, 2, 0), (10, .if_icmp .gt (7), 17, 0, 0), (13, .iconst 1, 0, 0, 0), (14, .goto (4), 18, 0, 0), (17, .iconst 0, 0, 0, 0), (18, .ireturn, 0, 0, 0)]
def c_m40 : c_M := (⟨"BoxballHall$Past", "hasRow", "(I)Z"⟩, prog_6_method_3_code, 2, (Option.some Jvm.ClassFile.FieldType.boolean), [], 0, 0, 4, [], c_i40)
def c_x40 : List (List Nat) := [[], [], [], [], [], [120], [], [], [], [], []]
/-- BoxballHall$Past.slotOf(I)I -/
def c_i41 : List (Nat × c_I) := [(0, .aload_n 0, 0, 0, 0), (1, .getfield 23, 4, 3, 0), (4, .iload_n 1, 0, 0, 0), (5, .isub, 0, 0, 0), (6, .bipush (8), 0, 0, 0), (8, .invokestatic 26, 81, 2, 0), (11, .ireturn, 0, 0, 0)]
def c_m41 : c_M := (⟨"BoxballHall$Past", "slotOf", "(I)I"⟩, prog_6_method_4_code, 2, (Option.some Jvm.ClassFile.FieldType.int), [], 1, 22, 4, [], c_i41)
def c_x41 : List (List Nat) := [[], [122], [], [], [], [54, 645, 646, 0, 647], []]
/-- BoxballHall$Past.ballsOf(II)I -/
def c_i42 : List (Nat × c_I) := [(0, .aload_n 0, 0, 0, 0), (1, .getfield 16, 4, 1, 0), (4, .aload_n 0, 0, 0, 0), (5, .iload_n 1, 0, 0, 0), (6, .invokevirtual 32, 41, 1, 2), (9, .aaload, 0, 0, 0), (10, .iload_n 2, 0, 0, 0), (11, .iaload, 0, 0, 0), (12, .ireturn, 0, 0, 0)]
def c_m42 : c_M := (⟨"BoxballHall$Past", "ballsOf", "(II)I"⟩, prog_6_method_5_code, 3, (Option.some Jvm.ClassFile.FieldType.int), [], 2, 43, 4, [], c_i42)
def c_x42 : List (List Nat) := [[], [119], [], [], [45, 641, 643, 38, 644], [], [], [], []]
/-- BoxballHall$Past.keep(LBoxballHall$Row;)V -/
def c_i43 : List (Nat × c_I) := [(0, .iconst 0, 0, 0, 0), (1, .istore_n 2, 0, 0, 0), (2, .iload_n 2, 0, 0, 0), (3, .aload_n 1, 0, 0, 0), (4, .getfield 36, 6, 2, 1), (7, .if_icmp .ge (43), 50, 0, 0), (10, .aload_n 0, 0, 0, 0), (11, .getfield 11, 4, 0, 0), (14, .aload_n 0, 0, 0, 0), (15, .getfield 23, 4, 3, 0), (18, .aaload, 0, 0, 0), (19, .iload_n 2, 0, 0, 0), (20, .aload_n 1, 0, 0, 0), (21, .getfield 41, 6, 0, 1), (24, .iload_n 2, 0, 0, 0), (25, .iaload, 0, 0, 0), (26, .iastore, 0, 0, 0), (27, .aload_n 0, 0, 0, 0), (28, .getfield 16, 4, 1, 0), (31, .aload_n 0, 0, 0, 0), (32, .getfield 23, 4, 3, 0), (35, .aaload, 0, 0, 0), (36, .iload_n 2, 0, 0, 0), (37, .aload_n 1, 0, 0, 0), (38, .getfield 44, 6, 1, 1), (41, .iload_n 2, 0, 0, 0), (42, .iaload, 0, 0, 0), (43, .iastore, 0, 0, 0), (44, .iinc 2 (1), 0, 0, 0), (47, .goto (-45), 2, 0, 0), (50, .aload_n 0, 0, 0, 0), (51, .aload_n 0, 0, 0, 0), (52, .iconst (-1), 0, 0, 0), (53, .invokevirtual 32, 41, 1, 2), (56, .putfield 23, 4, 3, 0), (59, .aload_n 0, 0, 0, 0), (60, .aload_n 0, 0, 0, 0), (61, .getfield 19, 4, 2, 0), (64, .iconst 1, 0, 0, 0), (65, .iadd, 0, 0, 0), (66, .bipush (8), 0, 0, 0), (68, .invokestatic 46, 0, 0, 8), (71, .putfield 19, 4, 2, 0), (74, .return_, 0, 0, 0)]
def c_m43 : c_M := (⟨"BoxballHall$Past", "keep", "(LBoxballHall$Row;)V"⟩, prog_6_method_6_code, 3, (Option.none : Option Jvm.ClassFile.FieldType), [], 2, 43, 4, [], c_i43)
def c_x43 : List (List Nat) := [[], [], [], [], [96], [], [], [118], [], [122], [], [], [], [84], [], [], [], [], [119], [], [122], [], [], [], [90], [], [], [], [], [], [], [], [], [45, 641, 643, 38, 644], [122], [], [], [120], [], [], [], [648, 252, 54, 253], [120], []]
/-- BoxballHall$Past.giveBack(LBoxballHall$Row;)V -/
def c_i44 : List (Nat × c_I) := [(0, .aload_n 0, 0, 0, 0), (1, .aload_n 0, 0, 0, 0), (2, .iconst 1, 0, 0, 0), (3, .invokevirtual 32, 41, 1, 2), (6, .putfield 23, 4, 3, 0), (9, .aload_n 0, 0, 0, 0), (10, .aload_n 0, 0, 0, 0), (11, .getfield 19, 4, 2, 0), (14, .iconst 1, 0, 0, 0), (15, .isub, 0, 0, 0), (16, .iconst 0, 0, 0, 0), (17, .invokestatic 49, 0, 0, 7), (20, .putfield 19, 4, 2, 0), (23, .aload_n 1, 0, 0, 0), (24, .aload_n 0, 0, 0, 0), (25, .getfield 11, 4, 0, 0), (28, .aload_n 0, 0, 0, 0), (29, .getfield 23, 4, 3, 0), (32, .aaload, 0, 0, 0), (33, .invokevirtual 52, 52, 1, 3), (36, .aload_n 1, 0, 0, 0), (37, .aload_n 0, 0, 0, 0), (38, .getfield 16, 4, 1, 0), (41, .aload_n 0, 0, 0, 0), (42, .getfield 23, 4, 3, 0), (45, .aaload, 0, 0, 0), (46, .invokevirtual 56, 53, 1, 3), (49, .return_, 0, 0, 0)]
def c_m44 : c_M := (⟨"BoxballHall$Past", "giveBack", "(LBoxballHall$Row;)V"⟩, prog_6_method_7_code, 2, (Option.none : Option Jvm.ClassFile.FieldType), [], 2, 43, 4, [], c_i44)
def c_x44 : List (List Nat) := [[], [], [], [45, 641, 643, 38, 644], [122], [], [], [120], [], [], [], [707, 255, 54, 256], [120], [], [], [118], [], [122], [], [44, 708, 349, 7, 350], [], [], [119], [], [122], [], [44, 709, 353, 8, 354], []]
/-- BoxballHall$Queues.<init>()V -/
def c_i45 : List (Nat × c_I) := [(0, .aload_n 0, 0, 0, 0), (1, .invokespecial 3, 0, 0, 6), (4, .aload_n 0, 0, 0, 0), (5, .bipush (8), 0, 0, 0), (7, .bipush (6), 0, 0, 0), (9, .multianewarray 9 2, 0, 0, 0), (13, .putfield 11, 5, 0, 0), (16, .aload_n 0, 0, 0, 0), (17, .bipush (6), 0, 0, 0), (19, .newarray .int, 0, 0, 0), (21, .putfield 16, 5, 1, 0), (24, .return_, 0, 0, 0)]
def c_m45 : c_M := (⟨"BoxballHall$Queues", "<init>", "()V"⟩, prog_7_method_1_code, 1, (Option.none : Option Jvm.ClassFile.FieldType), [], 1, 30, 5, [], c_i45)
def c_x45 : List (List Nat) := [[], [238, 73, 74], [], [], [], [239, 109], [240], [], [], [109], [241], []]
/-- BoxballHall$Queues.leavingOf(II)I -/
def c_i46 : List (Nat × c_I) := [(0, .aload_n 0, 0, 0, 0), (1, .getfield 16, 5, 1, 0), (4, .iconst 0, 0, 0, 0), (5, .invokestatic 20, 82, 2, 0), (8, .iconst 0, 0, 0, 0), (9, .istore_n 3, 0, 0, 0), (10, .iload_n 3, 0, 0, 0), (11, .iload_n 1, 0, 0, 0), (12, .if_icmp .gt (92), 104, 0, 0), (15, .iload_n 3, 0, 0, 0), (16, .bipush (8), 0, 0, 0), (18, .if_icmp .ge (86), 104, 0, 0), (21, .iconst 0, 0, 0, 0), (22, .istore 4, 0, 0, 0), (24, .iload 4, 0, 0, 0), (26, .iload_n 2, 0, 0, 0), (27, .if_icmp .gt (71), 98, 0, 0), (30, .iload 4, 0, 0, 0), (32, .bipush (6), 0, 0, 0), (34, .if_icmp .ge (64), 98, 0, 0), (37, .iload 4, 0, 0, 0), (39, .ifCond .le (25), 64, 0, 0), (42, .aload_n 0, 0, 0, 0), (43, .getfield 16, 5, 1, 0), (46, .iload 4, 0, 0, 0), (48, .iaload, 0, 0, 0), (49, .aload_n 0, 0, 0, 0), (50, .getfield 16, 5, 1, 0), (53, .iload 4, 0, 0, 0), (55, .iconst 1, 0, 0, 0), (56, .isub, 0, 0, 0), (57, .iaload, 0, 0, 0), (58, .invokestatic 26, 0, 0, 7), (61, .goto (10), 71, 0, 0), (64, .aload_n 0, 0, 0, 0), (65, .getfield 16, 5, 1, 0), (68, .iload 4, 0, 0, 0), (70, .iaload, 0, 0, 0), (71, .istore 5, 0, 0, 0), (73, .aload_n 0, 0, 0, 0), (74, .getfield 16, 5, 1, 0), (77, .iload 4, 0, 0, 0), (79, .iload 5, 0, 0, 0), (81, .aload_n 0, 0, 0, 0), (82, .getfield 11, 5, 0, 0), (85, .iload_n 3, 0, 0, 0), (86, .aaload, 0, 0, 0), (87, .iload 4, 0, 0, 0), (89, .iaload, 0, 0, 0), (90, .iadd, 0, 0, 0), (91, .iastore, 0, 0, 0), (92, .iinc 4 (1), 0, 0, 0), (95, .goto (-71), 24, 0, 0), (98, .iinc 3 (1), 0, 0, 0), (101, .goto (-91), 10, 0, 0), (104, .aload_n 0, 0, 0, 0), (105, .getfield 16, 5, 1, 0), (108, .iload_n 2, 0, 0, 0), (109, .iaload, 0, 0, 0), (110, .ireturn, 0, 0, 0)]
def c_m46 : c_M := (⟨"BoxballHall$Queues", "leavingOf", "(II)I"⟩, prog_7_method_2_code, 6, (Option.some Jvm.ClassFile.FieldType.int), [], 1, 30, 5, [], c_i46)
def c_x46 : List (List Nat) := [[], [241], [], [55, 450, 258, 0, 259], [], [], [], [], [], [], [], [], [], [], [], [], [], [], [], [], [], [], [], [241], [], [], [], [241], [], [], [], [], [451, 255, 54, 256], [], [], [241], [], [], [], [], [241], [], [], [], [240], [], [], [], [], [], [], [], [], [], [], [], [241], [], [], []]
/-- BoxballHall$Queues.areLeavingsLongestWays()Z -/
def c_i47 : List (Nat × c_I) := [(0, .iconst 0, 0, 0, 0), (1, .istore_n 1, 0, 0, 0), (2, .iload_n 1, 0, 0, 0), (3, .bipush (8), 0, 0, 0), (5, .if_icmp .ge (40), 45, 0, 0), (8, .iconst 0, 0, 0, 0), (9, .istore_n 2, 0, 0, 0), (10, .iload_n 2, 0, 0, 0), (11, .bipush (6), 0, 0, 0), (13, .if_icmp .ge (26), 39, 0, 0), (16, .aload_n 0, 0, 0, 0), (17, .iload_n 1, 0, 0, 0), (18, .iload_n 2, 0, 0, 0), (19, .invokevirtual 32, 46, 2, 2), (22, .aload_n 0, 0, 0, 0), (23, .iload_n 1, 0, 0, 0), (24, .iload_n 2, 0, 0, 0), (25, .invokevirtual 35, 48, 2, 2), (28, .if_icmp .eq (5), 33, 0, 0), (31, .iconst 0, 0, 0, 0), (32, .ireturn, 0, 0, 0), (33, .iinc 2 (1), 0, 0, 0), (36, .goto (-26), 10, 0, 0), (39, .iinc 1 (1), 0, 0, 0), (42, .goto (-40), 2, 0, 0), (45, .iconst 1, 0, 0, 0), (46, .ireturn, 0, 0, 0)]
def c_m47 : c_M := (⟨"BoxballHall$Queues", "areLeavingsLongestWays", "()Z"⟩, prog_7_method_3_code, 3, (Option.some Jvm.ClassFile.FieldType.boolean), [], 2, 55, 5, [], c_i47)
def c_x47 : List (List Nat) := [[], [], [], [], [], [], [], [], [], [], [], [], [], [53, 446, 448, 30, 449], [], [], [], [53, 452, 454, 31, 455], [], [], [], [], [], [], [], [], []]
/-- BoxballHall$Queues.longestWayTo(II)I -/
def c_i48 : List (Nat × c_I) := [(0, .aload_n 0, 0, 0, 0), (1, .getfield 16, 5, 1, 0), (4, .iconst 0, 0, 0, 0), (5, .invokestatic 20, 82, 2, 0), (8, .iload_n 1, 0, 0, 0), (9, .istore_n 3, 0, 0, 0), (10, .iload_n 3, 0, 0, 0), (11, .ifCond .lt (79), 90, 0, 0), (14, .iload_n 2, 0, 0, 0), (15, .istore 4, 0, 0, 0), (17, .iload 4, 0, 0, 0), (19, .ifCond .lt (65), 84, 0, 0), (22, .iload 4, 0, 0, 0), (24, .iload_n 2, 0, 0, 0), (25, .if_icmp .ge (25), 50, 0, 0), (28, .aload_n 0, 0, 0, 0), (29, .getfield 16, 5, 1, 0), (32, .iload 4, 0, 0, 0), (34, .iaload, 0, 0, 0), (35, .aload_n 0, 0, 0, 0), (36, .getfield 16, 5, 1, 0), (39, .iload 4, 0, 0, 0), (41, .iconst 1, 0, 0, 0), (42, .iadd, 0, 0, 0), (43, .iaload, 0, 0, 0), (44, .invokestatic 26, 0, 0, 7), (47, .goto (10), 57, 0, 0), (50, .aload_n 0, 0, 0, 0), (51, .getfield 16, 5, 1, 0), (54, .iload 4, 0, 0, 0), (56, .iaload, 0, 0, 0), (57, .istore 5, 0, 0, 0), (59, .aload_n 0, 0, 0, 0), (60, .getfield 16, 5, 1, 0), (63, .iload 4, 0, 0, 0), (65, .iload 5, 0, 0, 0), (67, .aload_n 0, 0, 0, 0), (68, .getfield 11, 5, 0, 0), (71, .iload_n 3, 0, 0, 0), (72, .aaload, 0, 0, 0), (73, .iload 4, 0, 0, 0), (75, .iaload, 0, 0, 0), (76, .iadd, 0, 0, 0), (77, .iastore, 0, 0, 0), (78, .iinc 4 (-1), 0, 0, 0), (81, .goto (-64), 17, 0, 0), (84, .iinc 3 (-1), 0, 0, 0), (87, .goto (-77), 10, 0, 0), (90, .aload_n 0, 0, 0, 0), (91, .getfield 16, 5, 1, 0), (94, .iconst 0, 0, 0, 0), (95, .iaload, 0, 0, 0), (96, .ireturn, 0, 0, 0)]
def c_m48 : c_M := (⟨"BoxballHall$Queues", "longestWayTo", "(II)I"⟩, prog_7_method_4_code, 6, (Option.some Jvm.ClassFile.FieldType.int), [], 1, 30, 5, [], c_i48)
def c_x48 : List (List Nat) := [[], [241], [], [55, 450, 258, 0, 259], [], [], [], [], [], [], [], [], [], [], [], [], [241], [], [], [], [241], [], [], [], [], [451, 255, 54, 256], [], [], [241], [], [], [], [], [241], [], [], [], [240], [], [], [], [], [], [], [], [], [], [], [], [241], [], [], []]
/-- BoxballHall$Row.<init>()V -/
def c_i49 : List (Nat × c_I) := [(0, .aload_n 0, 0, 0, 0), (1, .invokespecial 3, 0, 0, 6), (4, .aload_n 0, 0, 0, 0), (5, .bipush (60), 0, 0, 0), (7, .newarray .int, 0, 0, 0), (9, .putfield 9, 6, 0, 0), (12, .aload_n 0, 0, 0, 0), (13, .bipush (60), 0, 0, 0), (15, .newarray .int, 0, 0, 0), (17, .putfield 15, 6, 1, 0), (20, .aload_n 0, 0, 0, 0), (21, .iconst 1, 0, 0, 0), (22, .putfield 18, 6, 2, 0), (25, .return_, 0, 0, 0)]
def c_m49 : c_M := (⟨"BoxballHall$Row", "<init>", "()V"⟩, prog_8_method_1_code, 1, (Option.none : Option Jvm.ClassFile.FieldType), [], 1, 30, 6, [], c_i49)
def c_x49 : List (List Nat) := [[], [80, 73, 74], [], [], [109], [81], [], [], [109], [85], [], [], [91], []]
/-- BoxballHall$Row.clearTo(IIZ)V -/
def c_i50 : List (Nat × c_I) := [(0, .aload_n 0, 0, 0, 0), (1, .iconst 1, 0, 0, 0), (2, .iload_n 1, 0, 0, 0), (3, .bipush (60), 0, 0, 0), (5, .invokestatic 22, 0, 0, 8), (8, .invokestatic 28, 0, 0, 7), (11, .putfield 18, 6, 2, 0), (14, .aload_n 0, 0, 0, 0), (15, .iload_n 3, 0, 0, 0), (16, .putfield 31, 6, 3, 0), (19, .aload_n 0, 0, 0, 0), (20, .getfield 9, 6, 0, 0), (23, .iload_n 2, 0, 0, 0), (24, .invokestatic 35, 82, 2, 0), (27, .aload_n 0, 0, 0, 0), (28, .getfield 15, 6, 1, 0), (31, .iconst 0, 0, 0, 0), (32, .invokestatic 35, 82, 2, 0), (35, .return_, 0, 0, 0)]
def c_m50 : c_M := (⟨"BoxballHall$Row", "clearTo", "(IIZ)V"⟩, prog_8_method_2_code, 4, (Option.none : Option Jvm.ClassFile.FieldType), [], 1, 30, 6, [], c_i50)
def c_x50 : List (List Nat) := [[], [], [], [], [251, 252, 54, 253], [254, 255, 54, 256], [91], [], [], [98], [], [81], [], [55, 257, 258, 0, 259], [], [85], [], [55, 257, 258, 0, 259], []]
/-- BoxballHall$Row.become(LBoxballHall$Row;)V -/
def c_i51 : List (Nat × c_I) := [(0, .aload_n 0, 0, 0, 0), (1, .aload_n 1, 0, 0, 0), (2, .getfield 18, 6, 2, 0), (5, .putfield 18, 6, 2, 0), (8, .aload_n 0, 0, 0, 0), (9, .aload_n 1, 0, 0, 0), (10, .getfield 31, 6, 3, 0), (13, .putfield 31, 6, 3, 0), (16, .aload_n 0, 0, 0, 0), (17, .aload_n 1, 0, 0, 0), (18, .getfield 9, 6, 0, 0), (21, .invokevirtual 41, 52, 1, 2), (24, .aload_n 0, 0, 0, 0), (25, .aload_n 1, 0, 0, 0), (26, .getfield 15, 6, 1, 0), (29, .invokevirtual 45, 53, 1, 2), (32, .return_, 0, 0, 0)]
def c_m51 : c_M := (⟨"BoxballHall$Row", "become", "(LBoxballHall$Row;)V"⟩, prog_8_method_3_code, 2, (Option.none : Option Jvm.ClassFile.FieldType), [], 1, 22, 6, [], c_i51)
def c_x51 : List (List Nat) := [[], [], [91], [91], [], [], [98], [98], [], [], [81], [44, 347, 349, 7, 350], [], [], [85], [44, 351, 353, 8, 354], []]
/-- BoxballHall$Row.takeCapacities([I)V -/
def c_i52 : List (Nat × c_I) := [(0, .iconst 0, 0, 0, 0), (1, .istore_n 2, 0, 0, 0), (2, .iload_n 2, 0, 0, 0), (3, .aload_n 0, 0, 0, 0), (4, .getfield 18, 6, 2, 0), (7, .if_icmp .ge (24), 31, 0, 0), (10, .iload_n 2, 0, 0, 0), (11, .aload_n 1, 0, 0, 0), (12, .arraylength, 0, 0, 0), (13, .if_icmp .ge (18), 31, 0, 0), (16, .aload_n 0, 0, 0, 0), (17, .getfield 9, 6, 0, 0), (20, .iload_n 2, 0, 0, 0), (21, .aload_n 1, 0, 0, 0), (22, .iload_n 2, 0, 0, 0), (23, .iaload, 0, 0, 0), (24, .iastore, 0, 0, 0), (25, .iinc 2 (1), 0, 0, 0), (28, .goto (-26), 2, 0, 0), (31, .return_, 0, 0, 0)]
def c_m52 : c_M := (⟨"BoxballHall$Row", "takeCapacities", "([I)V"⟩, prog_8_method_6_code, 3, (Option.none : Option Jvm.ClassFile.FieldType), [], 0, 0, 6, [], c_i52)
def c_x52 : List (List Nat) := [[], [], [], [], [91], [], [], [], [], [], [], [81], [], [], [], [], [], [], [], []]
/-- BoxballHall$Row.takeBalls([I)V -/
def c_i53 : List (Nat × c_I) := [(0, .iconst 0, 0, 0, 0), (1, .istore_n 2, 0, 0, 0), (2, .iload_n 2, 0, 0, 0), (3, .aload_n 0, 0, 0, 0), (4, .getfield 18, 6, 2, 0), (7, .if_icmp .ge (24), 31, 0, 0), (10, .iload_n 2, 0, 0, 0), (11, .aload_n 1, 0, 0, 0), (12, .arraylength, 0, 0, 0), (13, .if_icmp .ge (18), 31, 0, 0), (16, .aload_n 0, 0, 0, 0), (17, .getfield 15, 6, 1, 0), (20, .iload_n 2, 0, 0, 0), (21, .aload_n 1, 0, 0, 0), (22, .iload_n 2, 0, 0, 0), (23, .iaload, 0, 0, 0), (24, .iastore, 0, 0, 0), (25, .iinc 2 (1), 0, 0, 0), (28, .goto (-26), 2, 0, 0), (31, .return_, 0, 0, 0)]
def c_m53 : c_M := (⟨"BoxballHall$Row", "takeBalls", "([I)V"⟩, prog_8_method_7_code, 3, (Option.none : Option Jvm.ClassFile.FieldType), [], 0, 0, 6, [], c_i53)
def c_x53 : List (List Nat) := [[], [], [], [], [91], [], [], [], [], [], [], [85], [], [], [], [], [], [], [], []]
/-- BoxballHall$Row.hasBallsOf(LBoxballHall$Row;)Z -/
def c_i54 : List (Nat × c_I) := [(0, .iconst 0, 0, 0, 0), (1, .istore_n 2, 0, 0, 0), (2, .iload_n 2, 0, 0, 0), (3, .aload_n 0, 0, 0, 0), (4, .getfield 18, 6, 2, 0), (7, .if_icmp .ge (26), 33, 0, 0), (10, .aload_n 0, 0, 0, 0), (11, .getfield 15, 6, 1, 0), (14, .iload_n 2, 0, 0, 0), (15, .iaload, 0, 0, 0), (16, .aload_n 1, 0, 0, 0), (17, .getfield 15, 6, 1, 0), (20, .iload_n 2, 0, 0, 0), (21, .iaload, 0, 0, 0), (22, .if_icmp .eq (5), 27, 0, 0), (25, .iconst 0, 0, 0, 0), (26, .ireturn, 0, 0, 0), (27, .iinc 2 (1), 0, 0, 0), (30, .goto (-28), 2, 0, 0), (33, .iconst 1, 0, 0, 0), (34, .ireturn, 0, 0, 0)]
def c_m54 : c_M := (⟨"BoxballHall$Row", "hasBallsOf", "(LBoxballHall$Row;)Z"⟩, prog_8_method_8_code, 3, (Option.some Jvm.ClassFile.FieldType.boolean), [], 0, 0, 6, [], c_i54)
def c_x54 : List (List Nat) := [[], [], [], [], [91], [], [], [85], [], [], [], [85], [], [], [], [], [], [], [], [], []]
/-- BoxballHall$Row.isSimple()Z -/
def c_i55 : List (Nat × c_I) := [(0, .iconst 0, 0, 0, 0), (1, .istore_n 1, 0, 0, 0), (2, .iload_n 1, 0, 0, 0), (3, .aload_n 0, 0, 0, 0), (4, .getfield 18, 6, 2, 0), (7, .if_icmp .ge (21), 28, 0, 0), (10, .aload_n 0, 0, 0, 0), (11, .getfield 9, 6, 0, 0), (14, .iload_n 1, 0, 0, 0), (15, .iaload, 0, 0, 0), (16, .iconst 1, 0, 0, 0), (17, .if_icmp .eq (5), 22, 0, 0), (20, .iconst 0, 0, 0, 0), (21, .ireturn, 0, 0, 0), (22, .iinc 1 (1), 0, 0, 0), (25, .goto (-23), 2, 0, 0), (28, .iconst 1, 0, 0, 0), (29, .ireturn, 0, 0, 0)]
def c_m55 : c_M := (⟨"BoxballHall$Row", "isSimple", "()Z"⟩, prog_8_method_9_code, 2, (Option.some Jvm.ClassFile.FieldType.boolean), [], 0, 0, 6, [], c_i55)
def c_x55 : List (List Nat) := [[], [], [], [], [91], [], [], [81], [], [], [], [], [], [], [], [], [], []]
/-- BoxballHall$Row.sumOfBalls()I -/
def c_i56 : List (Nat × c_I) := [(0, .iconst 0, 0, 0, 0), (1, .istore_n 1, 0, 0, 0), (2, .iconst 0, 0, 0, 0), (3, .istore_n 2, 0, 0, 0), (4, .iload_n 2, 0, 0, 0), (5, .aload_n 0, 0, 0, 0), (6, .getfield 18, 6, 2, 0), (9, .if_icmp .ge (18), 27, 0, 0), (12, .iload_n 1, 0, 0, 0), (13, .aload_n 0, 0, 0, 0), (14, .getfield 15, 6, 1, 0), (17, .iload_n 2, 0, 0, 0), (18, .iaload, 0, 0, 0), (19, .iadd, 0, 0, 0), (20, .istore_n 1, 0, 0, 0), (21, .iinc 2 (1), 0, 0, 0), (24, .goto (-20), 4, 0, 0), (27, .iload_n 1, 0, 0, 0), (28, .ireturn, 0, 0, 0)]
def c_m56 : c_M := (⟨"BoxballHall$Row", "sumOfBalls", "()I"⟩, prog_8_method_10_code, 3, (Option.some Jvm.ClassFile.FieldType.int), [], 0, 0, 6, [], c_i56)
def c_x56 : List (List Nat) := [[], [], [], [], [], [], [91], [], [], [], [85], [], [], [], [], [], [], [], []]
/-- BoxballHall$Row.countFilled()I -/
def c_i57 : List (Nat × c_I) := [(0, .iconst 0, 0, 0, 0), (1, .istore_n 1, 0, 0, 0), (2, .iconst 0, 0, 0, 0), (3, .istore_n 2, 0, 0, 0), (4, .iload_n 2, 0, 0, 0), (5, .aload_n 0, 0, 0, 0), (6, .getfield 18, 6, 2, 0), (9, .if_icmp .ge (21), 30, 0, 0), (12, .aload_n 0, 0, 0, 0), (13, .getfield 15, 6, 1, 0), (16, .iload_n 2, 0, 0, 0), (17, .iaload, 0, 0, 0), (18, .ifCond .le (6), 24, 0, 0), (21, .iinc 1 (1), 0, 0, 0), (24, .iinc 2 (1), 0, 0, 0), (27, .goto (-23), 4, 0, 0), (30, .iload_n 1, 0, 0, 0), (31, .ireturn, 0, 0, 0)]
def c_m57 : c_M := (⟨"BoxballHall$Row", "countFilled", "()I"⟩, prog_8_method_11_code, 3, (Option.some Jvm.ClassFile.FieldType.int), [], 0, 0, 6, [], c_i57)
def c_x57 : List (List Nat) := [[], [], [], [], [], [], [91], [], [], [85], [], [], [], [], [], [], [], []]
/-- BoxballHall$Runs.<init>()V -/
def c_i58 : List (Nat × c_I) := [(0, .aload_n 0, 0, 0, 0), (1, .invokespecial 3, 0, 0, 6), (4, .aload_n 0, 0, 0, 0), (5, .bipush (60), 0, 0, 0), (7, .newarray .int, 0, 0, 0), (9, .putfield 9, 7, 0, 0), (12, .aload_n 0, 0, 0, 0), (13, .bipush (60), 0, 0, 0), (15, .newarray .int, 0, 0, 0), (17, .putfield 15, 7, 1, 0), (20, .return_, 0, 0, 0)]
def c_m58 : c_M := (⟨"BoxballHall$Runs", "<init>", "()V"⟩, prog_9_method_1_code, 1, (Option.none : Option Jvm.ClassFile.FieldType), [], 1, 30, 7, [], c_i58)
def c_x58 : List (List Nat) := [[], [168, 73, 74], [], [], [109], [169], [], [], [109], [170], []]
/-- BoxballHall$Runs.walk(LBoxballHall$Row;I)V -/
def c_i59 : List (Nat × c_I) := [(0, .aload_n 0, 0, 0, 0), (1, .iconst 0, 0, 0, 0), (2, .putfield 18, 7, 2, 0), (5, .iconst 0, 0, 0, 0), (6, .istore_n 3, 0, 0, 0), (7, .iload_n 3, 0, 0, 0), (8, .aload_n 1, 0, 0, 0), (9, .getfield 22, 6, 2, 1), (12, .if_icmp .ge (38), 50, 0, 0), (15, .aload_n 1, 0, 0, 0), (16, .getfield 27, 6, 1, 1), (19, .iload_n 3, 0, 0, 0), (20, .iaload, 0, 0, 0), (21, .ifCond .le (23), 44, 0, 0), (24, .aload_n 0, 0, 0, 0), (25, .getfield 9, 7, 0, 0), (28, .aload_n 0, 0, 0, 0), (29, .getfield 18, 7, 2, 0), (32, .iload_n 3, 0, 0, 0), (33, .iastore, 0, 0, 0), (34, .aload_n 0, 0, 0, 0), (35, .dup, 0, 0, 0), (36, .getfield 18, 7, 2, 0), (39, .iconst 1, 0, 0, 0), (40, .iadd, 0, 0, 0), (41, .putfield 18, 7, 2, 0), (44, .iinc 3 (1), 0, 0, 0), (47, .goto (-40), 7, 0, 0), (50, .iconst 0, 0, 0, 0), (51, .istore_n 3, 0, 0, 0), (52, .iload_n 3, 0, 0, 0), (53, .iload_n 2, 0, 0, 0), (54, .if_icmp .ge (13), 67, 0, 0), (57, .aload_n 0, 0, 0, 0), (58, .invokevirtual 29, 60, 0, 2), (61, .iinc 3 (1), 0, 0, 0), (64, .goto (-12), 52, 0, 0), (67, .return_, 0, 0, 0)]
def c_m59 : c_M := (⟨"BoxballHall$Runs", "walk", "(LBoxballHall$Row;I)V"⟩, prog_9_method_2_code, 4, (Option.none : Option Jvm.ClassFile.FieldType), [], 2, 54, 7, [], c_i59)
def c_x59 : List (List Nat) := [[], [], [171], [], [], [], [], [92], [], [], [86], [], [], [], [], [169], [], [171], [], [], [], [], [171], [], [], [171], [], [], [], [], [], [], [], [], [48, 415, 417, 23, 418], [], [], []]
/-- BoxballHall$Runs.goOn()V -/
def c_i60 : List (Nat × c_I) := [(0, .aload_n 0, 0, 0, 0), (1, .iconst 0, 0, 0, 0), (2, .putfield 32, 7, 3, 0), (5, .iconst 0, 0, 0, 0), (6, .istore_n 1, 0, 0, 0), (7, .iload_n 1, 0, 0, 0), (8, .aload_n 0, 0, 0, 0), (9, .getfield 18, 7, 2, 0), (12, .if_icmp .ge (80), 92, 0, 0), (15, .iload_n 1, 0, 0, 0), (16, .aload_n 0, 0, 0, 0), (17, .getfield 18, 7, 2, 0), (20, .iconst 1, 0, 0, 0), (21, .isub, 0, 0, 0), (22, .if_icmp .ne (7), 29, 0, 0), (25, .iconst 1, 0, 0, 0), (26, .goto (4), 30, 0, 0), (29, .iconst 0, 0, 0, 0), (30, .istore_n 2, 0, 0, 0), (31, .iload_n 2, 0, 0, 0), (32, .ifCond .eq (8), 40, 0, 0), (35, .bipush (60), 0, 0, 0), (37, .goto (20), 57, 0, 0), (40, .aload_n 0, 0, 0, 0), (41, .getfield 9, 7, 0, 0), (44, .iload_n 1, 0, 0, 0), (45, .iconst 1, 0, 0, 0), (46, .iadd, 0, 0, 0), (47, .iaload, 0, 0, 0), (48, .aload_n 0, 0, 0, 0), (49, .getfield 9, 7, 0, 0), (52, .iload_n 1, 0, 0, 0), (53, .iaload, 0, 0, 0), (54, .isub, 0, 0, 0), (55, .iconst 1, 0, 0, 0), (56, .isub, 0, 0, 0), (57, .istore_n 3, 0, 0, 0), (58, .iload_n 1, 0, 0, 0), (59, .iconst 1, 0, 0, 0), (60, .iadd, 0, 0, 0), (61, .aload_n 0, 0, 0, 0), (62, .getfield 32, 7, 3, 0), (65, .isub, 0, 0, 0), (66, .istore 4, 0, 0, 0), (68, .aload_n 0, 0, 0, 0), (69, .aload_n 0, 0, 0, 0), (70, .getfield 9, 7, 0, 0), (73, .iload_n 1, 0, 0, 0), (74, .iaload, 0, 0, 0), (75, .iconst 1, 0, 0, 0), (76, .iadd, 0, 0, 0), (77, .iload 4, 0, 0, 0), (79, .iload_n 3, 0, 0, 0), (80, .invokestatic 35, 0, 0, 8), (83, .invokevirtual 41, 61, 2, 2), (86, .iinc 1 (1), 0, 0, 0), (89, .goto (-82), 7, 0, 0), (92, .iconst 0, 0, 0, 0), (93, .istore_n 1, 0, 0, 0), (94, .iload_n 1, 0, 0, 0), (95, .aload_n 0, 0, 0, 0), (96, .getfield 18, 7, 2, 0), (99, .if_icmp .ge (21), 120, 0, 0), (102, .aload_n 0, 0, 0, 0), (103, .getfield 9, 7, 0, 0), (106, .iload_n 1, 0, 0, 0), (107, .aload_n 0, 0, 0, 0), (108, .getfield 15, 7, 1, 0), (111, .iload_n 1, 0, 0, 0), (112, .iaload, 0, 0, 0), (113, .iastore, 0, 0, 0), (114, .iinc 1 (1), 0, 0, 0), (117, .goto (-23), 94, 0, 0), (120, .return_, 0, 0, 0)]
def c_m60 : c_M := (⟨"BoxballHall$Runs", "goOn", "()V"⟩, prog_9_method_3_code, 5, (Option.none : Option Jvm.ClassFile.FieldType), [], 1, 30, 7, [], c_i60)
def c_x60 : List (List Nat) := [[], [], [172], [], [], [], [], [171], [], [], [], [171], [], [], [], [], [], [], [], [], [], [], [], [], [169], [], [], [], [], [], [169], [], [], [], [], [], [], [], [], [], [], [172], [], [], [], [], [169], [], [], [], [], [], [], [419, 252, 54, 253], [48, 420, 422, 24, 423], [], [], [], [], [], [], [171], [], [], [169], [], [], [170], [], [], [], [], [], []]
/-- BoxballHall$Runs.layDown(II)V -/
def c_i61 : List (Nat × c_I) := [(0, .iconst 0, 0, 0, 0), (1, .istore_n 3, 0, 0, 0), (2, .iload_n 3, 0, 0, 0), (3, .iload_n 2, 0, 0, 0), (4, .if_icmp .ge (40), 44, 0, 0), (7, .aload_n 0, 0, 0, 0), (8, .getfield 32, 7, 3, 0), (11, .bipush (60), 0, 0, 0), (13, .if_icmp .ge (31), 44, 0, 0), (16, .aload_n 0, 0, 0, 0), (17, .getfield 15, 7, 1, 0), (20, .aload_n 0, 0, 0, 0), (21, .getfield 32, 7, 3, 0), (24, .iload_n 1, 0, 0, 0), (25, .iload_n 3, 0, 0, 0), (26, .iadd, 0, 0, 0), (27, .iastore, 0, 0, 0), (28, .aload_n 0, 0, 0, 0), (29, .dup, 0, 0, 0), (30, .getfield 32, 7, 3, 0), (33, .iconst 1, 0, 0, 0), (34, .iadd, 0, 0, 0), (35, .putfield 32, 7, 3, 0), (38, .iinc 3 (1), 0, 0, 0), (41, .goto (-39), 2, 0, 0), (44, .return_, 0, 0, 0)]
def c_m61 : c_M := (⟨"BoxballHall$Runs", "layDown", "(II)V"⟩, prog_9_method_4_code, 4, (Option.none : Option Jvm.ClassFile.FieldType), [], 0, 0, 7, [], c_i61)
def c_x61 : List (List Nat) := [[], [], [], [], [], [], [172], [], [], [], [170], [], [172], [], [], [], [], [], [], [172], [], [], [172], [], [], []]
/-- BoxballHall$Runs.isFirstBall(I)Z -/
def c_i62 : List (Nat × c_I) := [(0, .iload_n 1, 0, 0, 0), (1, .ifCond .eq (22), 23, 0, 0), (4, .aload_n 0, 0, 0, 0), (5, .getfield 9, 7, 0, 0), (8, .iload_n 1, 0, 0, 0), (9, .iaload, 0, 0, 0), (10, .aload_n 0, 0, 0, 0), (11, .getfield 9, 7, 0, 0), (14, .iload_n 1, 0, 0, 0), (15, .iconst 1, 0, 0, 0), (16, .isub, 0, 0, 0), (17, .iaload, 0, 0, 0), (18, .iconst 1, 0, 0, 0), (19, .iadd, 0, 0, 0), (20, .if_icmp .le (7), 27, 0, 0), (23, .iconst 1, 0, 0, 0), (24, .goto (4), 28, 0, 0), (27, .iconst 0, 0, 0, 0), (28, .ireturn, 0, 0, 0)]
def c_m62 : c_M := (⟨"BoxballHall$Runs", "isFirstBall", "(I)Z"⟩, prog_9_method_5_code, 2, (Option.some Jvm.ClassFile.FieldType.boolean), [], 0, 0, 7, [], c_i62)
def c_x62 : List (List Nat) := [[], [], [], [169], [], [], [], [169], [], [], [], [], [], [], [], [], [], [], []]
/-- BoxballHall$Runs.countAll()I -/
def c_i63 : List (Nat × c_I) := [(0, .iconst 0, 0, 0, 0), (1, .istore_n 1, 0, 0, 0), (2, .iconst 0, 0, 0, 0), (3, .istore_n 2, 0, 0, 0), (4, .iload_n 2, 0, 0, 0), (5, .aload_n 0, 0, 0, 0), (6, .getfield 18, 7, 2, 0), (9, .if_icmp .ge (20), 29, 0, 0), (12, .aload_n 0, 0, 0, 0), (13, .iload_n 2, 0, 0, 0), (14, .invokevirtual 45, 62, 1, 2), (17, .ifCond .eq (6), 23, 0, 0), (20, .iinc 1 (1), 0, 0, 0), (23, .iinc 2 (1), 0, 0, 0), (26, .goto (-22), 4, 0, 0), (29, .iload_n 1, 0, 0, 0), (30, .ireturn, 0, 0, 0)]
def c_m63 : c_M := (⟨"BoxballHall$Runs", "countAll", "()I"⟩, prog_9_method_6_code, 3, (Option.some Jvm.ClassFile.FieldType.int), [], 1, 21, 7, [], c_i63)
def c_x63 : List (List Nat) := [[], [], [], [], [], [], [171], [], [], [], [48, 429, 431, 26, 432], [], [], [], [], [], []]
/-- BoxballHall$Runs.findFirstBall(I)I -/
def c_i64 : List (Nat × c_I) := [(0, .iconst 0, 0, 0, 0), (1, .istore_n 2, 0, 0, 0), (2, .iconst 0, 0, 0, 0), (3, .istore_n 3, 0, 0, 0), (4, .iload_n 3, 0, 0, 0), (5, .aload_n 0, 0, 0, 0), (6, .getfield 18, 7, 2, 0), (9, .if_icmp .ge (27), 36, 0, 0), (12, .aload_n 0, 0, 0, 0), (13, .iload_n 3, 0, 0, 0), (14, .invokevirtual 45, 62, 1, 2), (17, .ifCond .eq (13), 30, 0, 0), (20, .iload_n 2, 0, 0, 0), (21, .iload_n 1, 0, 0, 0), (22, .if_icmp .ne (5), 27, 0, 0), (25, .iload_n 3, 0, 0, 0), (26, .ireturn, 0, 0, 0), (27, .iinc 2 (1), 0, 0, 0), (30, .iinc 3 (1), 0, 0, 0), (33, .goto (-29), 4, 0, 0), (36, .iconst (-1), 0, 0, 0), (37, .ireturn, 0, 0, 0)]
def c_m64 : c_M := (⟨"BoxballHall$Runs", "findFirstBall", "(I)I"⟩, prog_9_method_7_code, 4, (Option.some Jvm.ClassFile.FieldType.int), [], 1, 21, 7, [], c_i64)
def c_x64 : List (List Nat) := [[], [], [], [], [], [], [171], [], [], [], [48, 429, 431, 26, 432], [], [], [], [], [], [], [], [], [], [], []]
/-- BoxballHall$Runs.lengthFrom(I)I -/
def c_i65 : List (Nat × c_I) := [(0, .iload_n 1, 0, 0, 0), (1, .iconst 1, 0, 0, 0), (2, .iadd, 0, 0, 0), (3, .istore_n 2, 0, 0, 0), (4, .iload_n 2, 0, 0, 0), (5, .aload_n 0, 0, 0, 0), (6, .getfield 18, 7, 2, 0), (9, .if_icmp .ge (17), 26, 0, 0), (12, .aload_n 0, 0, 0, 0), (13, .iload_n 2, 0, 0, 0), (14, .invokevirtual 45, 62, 1, 2), (17, .ifCond .ne (9), 26, 0, 0), (20, .iinc 2 (1), 0, 0, 0), (23, .goto (-19), 4, 0, 0), (26, .iload_n 2, 0, 0, 0), (27, .iload_n 1, 0, 0, 0), (28, .isub, 0, 0, 0), (29, .ireturn, 0, 0, 0)]
def c_m65 : c_M := (⟨"BoxballHall$Runs", "lengthFrom", "(I)I"⟩, prog_9_method_8_code, 3, (Option.some Jvm.ClassFile.FieldType.int), [], 1, 21, 7, [], c_i65)
def c_x65 : List (List Nat) := [[], [], [], [], [], [], [171], [], [], [], [48, 429, 431, 26, 432], [], [], [], [], [], [], []]
/-- BoxballHall$ThreePieces.<init>()V -/
def c_i66 : List (Nat × c_I) := [(0, .aload_n 0, 0, 0, 0), (1, .invokespecial 1, 0, 0, 6), (4, .aload_n 0, 0, 0, 0), (5, .iconst 3, 0, 0, 0), (6, .newarray .int, 0, 0, 0), (8, .putfield 7, 8, 0, 0), (11, .aload_n 0, 0, 0, 0), (12, .iconst 3, 0, 0, 0), (13, .newarray .int, 0, 0, 0), (15, .putfield 13, 8, 1, 0), (18, .return_, 0, 0, 0)]
def c_m66 : c_M := (⟨"BoxballHall$ThreePieces", "<init>", "()V"⟩, prog_10_method_1_code, 1, (Option.none : Option Jvm.ClassFile.FieldType), [], 1, 30, 8, [], c_i66)
def c_x66 : List (List Nat) := [[], [187, 73, 74], [], [], [109], [188], [], [], [109], [189], []]
/-- BoxballHall$TypedSizes.<init>()V -/
def c_i67 : List (Nat × c_I) := [(0, .aload_n 0, 0, 0, 0), (1, .invokespecial 3, 0, 0, 6), (4, .aload_n 0, 0, 0, 0), (5, .bipush (6), 0, 0, 0), (7, .newarray .int, 0, 0, 0), (9, .putfield 9, 9, 0, 0), (12, .return_, 0, 0, 0)]
def c_m67 : c_M := (⟨"BoxballHall$TypedSizes", "<init>", "()V"⟩, prog_11_method_1_code, 1, (Option.none : Option Jvm.ClassFile.FieldType), [], 1, 30, 9, [], c_i67)
def c_x67 : List (List Nat) := [[], [215, 73, 74], [], [], [109], [216], []]
/-- BoxballHallLaw.cell([II)I -/
def c_i68 : List (Nat × c_I) := [(0, .ldc 7, 69069, 0, 0), (2, .iload_n 1, 0, 0, 0), (3, .aload_n 0, 0, 0, 0), (4, .arraylength, 0, 0, 0), (5, .if_icmp .ge (9), 14, 0, 0), (8, .aload_n 0, 0, 0, 0), (9, .iload_n 1, 0, 0, 0), (10, .iaload, 0, 0, 0), (11, .goto (4), 15, 0, 0), (14, .iconst 0, 0, 0, 0), (15, .sipush (1009), 0, 0, 0), (18, .iload_n 1, 0, 0, 0), (19, .imul, 0, 0, 0), (20, .iadd, 0, 0, 0), (21, .imul, 0, 0, 0), (22, .sipush (12345), 0, 0, 0), (25, .iadd, 0, 0, 0), (26, .istore_n 2, 0, 0, 0), (27, .iload_n 2, 0, 0, 0), (28, .iload_n 2, 0, 0, 0), (29, .bipush (13), 0, 0, 0), (31, .iushr, 0, 0, 0), (32, .ixor, 0, 0, 0), (33, .ldc 8, 1103515245, 0, 0), (35, .imul, 0, 0, 0), (36, .istore_n 2, 0, 0, 0), (37, .iload_n 2, 0, 0, 0), (38, .iload_n 2, 0, 0, 0), (39, .bipush (16), 0, 0, 0), (41, .iushr, 0, 0, 0), (42, .ixor, 0, 0, 0), (43, .ireturn, 0, 0, 0)]
def c_m68 : c_M := (⟨"BoxballHallLaw", "cell", "([II)I"⟩, method_2_code, 3, (Option.some Jvm.ClassFile.FieldType.int), [], 0, 0, 0, [], c_i68)
def c_x68 : List (List Nat) := [[716], [], [], [], [], [], [], [], [], [], [], [], [], [], [], [], [], [], [], [], [], [], [], [717], [], [], [], [], [], [], [], []]
/-- BoxballHallLaw.setRow(LBoxballHall;IIZ)I -/
def c_i69 : List (Nat × c_I) := [(0, .aload_n 0, 0, 0, 0), (1, .iload_n 1, 0, 0, 0), (2, .iload_n 2, 0, 0, 0), (3, .iload_n 3, 0, 0, 0), (4, .invokevirtual 9, 1, 3, 2), (7, .ireturn, 0, 0, 0), (10, .ldc 17, 4294067295, 0, 0), (12, .ireturn, 0, 0, 0)]
def c_m69 : c_M := (⟨"BoxballHallLaw", "setRow", "(LBoxballHall;IIZ)I"⟩, method_3_code, 5, (Option.some Jvm.ClassFile.FieldType.int), [(0, 7, 8, 15)], 8, 136, 0, [(4, 0, 0, 4, 2)], c_i69)
def c_x69 : List (List Nat) := [[], [], [], [], [43, 460, 461, 462, 463], [], [541], []]
/-- BoxballHallLaw.setCapacity(LBoxballHall;II)I -/
def c_i70 : List (Nat × c_I) := [(0, .aload_n 0, 0, 0, 0), (1, .iload_n 1, 0, 0, 0), (2, .iload_n 2, 0, 0, 0), (3, .invokevirtual 18, 2, 2, 2), (6, .ireturn, 0, 0, 0), (8, .ldc 17, 4294067295, 0, 0), (10, .ireturn, 0, 0, 0), (12, .ldc 24, 4294067294, 0, 0), (14, .ireturn, 0, 0, 0)]
def c_m70 : c_M := (⟨"BoxballHallLaw", "setCapacity", "(LBoxballHall;II)I"⟩, method_4_code, 4, (Option.some Jvm.ClassFile.FieldType.int), [(0, 6, 7, 22), (0, 6, 11, 15)], 8, 135, 0, [(3, 1, 0, 3, 1), (3, 0, 1, 3, 1)], c_i70)
def c_x70 : List (List Nat) := [[], [], [], [43, 569, 570, 571, 572], [], [541], [], [590], []]
/-- BoxballHallLaw.setBalls(LBoxballHall;II)I -/
def c_i71 : List (Nat × c_I) := [(0, .aload_n 0, 0, 0, 0), (1, .iload_n 1, 0, 0, 0), (2, .iload_n 2, 0, 0, 0), (3, .invokevirtual 25, 3, 2, 2), (6, .ireturn, 0, 0, 0), (8, .ldc 17, 4294067295, 0, 0), (10, .ireturn, 0, 0, 0), (12, .ldc 24, 4294067294, 0, 0), (14, .ireturn, 0, 0, 0)]
def c_m71 : c_M := (⟨"BoxballHallLaw", "setBalls", "(LBoxballHall;II)I"⟩, method_5_code, 4, (Option.some Jvm.ClassFile.FieldType.int), [(0, 6, 7, 22), (0, 6, 11, 15)], 8, 135, 0, [(3, 1, 0, 3, 1), (3, 0, 1, 3, 1)], c_i71)
def c_x71 : List (List Nat) := [[], [], [], [43, 594, 595, 596, 597], [], [541], [], [590], []]
/-- BoxballHallLaw.getBalls(LBoxballHall;I)I -/
def c_i72 : List (Nat × c_I) := [(0, .aload_n 0, 0, 0, 0), (1, .iload_n 1, 0, 0, 0), (2, .invokevirtual 28, 4, 1, 2), (5, .ireturn, 0, 0, 0), (7, .ldc 17, 4294067295, 0, 0), (9, .ireturn, 0, 0, 0)]
def c_m72 : c_M := (⟨"BoxballHallLaw", "getBalls", "(LBoxballHall;I)I"⟩, method_6_code, 3, (Option.some Jvm.ClassFile.FieldType.int), [(0, 5, 6, 22)], 8, 132, 0, [(2, 1, 0, 2, 1)], c_i72)
def c_x72 : List (List Nat) := [[], [], [43, 601, 602, 603, 604], [], [541], []]
/-- BoxballHallLaw.step(LBoxballHall;I)I -/
def c_i73 : List (Nat × c_I) := [(0, .aload_n 0, 0, 0, 0), (1, .iload_n 1, 0, 0, 0), (2, .invokevirtual 32, 6, 1, 2), (5, .ireturn, 0, 0, 0), (7, .ldc 17, 4294067295, 0, 0), (9, .ireturn, 0, 0, 0), (11, .ldc 24, 4294067294, 0, 0), (13, .ireturn, 0, 0, 0)]
def c_m73 : c_M := (⟨"BoxballHallLaw", "step", "(LBoxballHall;I)I"⟩, method_7_code, 3, (Option.some Jvm.ClassFile.FieldType.int), [(0, 5, 6, 15), (0, 5, 10, 35)], 9, 155, 0, [(2, 0, 0, 2, 1), (2, 2, 1, 2, 1)], c_i73)
def c_x73 : List (List Nat) := [[], [], [43, 609, 610, 611, 612], [], [541], [], [590], []]
/-- BoxballHallLaw.stepBack(LBoxballHall;I)I -/
def c_i74 : List (Nat × c_I) := [(0, .aload_n 0, 0, 0, 0), (1, .iload_n 1, 0, 0, 0), (2, .invokevirtual 37, 7, 1, 2), (5, .ireturn, 0, 0, 0), (7, .ldc 17, 4294067295, 0, 0), (9, .ireturn, 0, 0, 0), (11, .ldc 24, 4294067294, 0, 0), (13, .ireturn, 0, 0, 0)]
def c_m74 : c_M := (⟨"BoxballHallLaw", "stepBack", "(LBoxballHall;I)I"⟩, method_8_code, 3, (Option.some Jvm.ClassFile.FieldType.int), [(0, 5, 6, 15), (0, 5, 10, 35)], 9, 155, 0, [(2, 0, 0, 2, 1), (2, 2, 1, 2, 1)], c_i74)
def c_x74 : List (List Nat) := [[], [], [43, 652, 653, 654, 655], [], [541], [], [590], []]
/-- BoxballHallLaw.run(LBoxballHall;II)I -/
def c_i75 : List (Nat × c_I) := [(0, .aload_n 0, 0, 0, 0), (1, .iload_n 1, 0, 0, 0), (2, .iload_n 2, 0, 0, 0), (3, .invokevirtual 40, 8, 2, 2), (6, .ireturn, 0, 0, 0), (8, .ldc 17, 4294067295, 0, 0), (10, .ireturn, 0, 0, 0)]
def c_m75 : c_M := (⟨"BoxballHallLaw", "run", "(LBoxballHall;II)I"⟩, method_9_code, 4, (Option.some Jvm.ClassFile.FieldType.int), [(0, 6, 7, 15)], 8, 135, 0, [(3, 0, 0, 3, 1)], c_i75)
def c_x75 : List (List Nat) := [[], [], [], [43, 659, 660, 661, 662], [], [541], []]
/-- BoxballHallLaw.getPast(LBoxballHall;II)I -/
def c_i76 : List (Nat × c_I) := [(0, .aload_n 0, 0, 0, 0), (1, .iload_n 1, 0, 0, 0), (2, .iload_n 2, 0, 0, 0), (3, .invokevirtual 43, 10, 2, 2), (6, .ireturn, 0, 0, 0), (8, .ldc 17, 4294067295, 0, 0), (10, .ireturn, 0, 0, 0), (12, .ldc 24, 4294067294, 0, 0), (14, .ireturn, 0, 0, 0)]
def c_m76 : c_M := (⟨"BoxballHallLaw", "getPast", "(LBoxballHall;II)I"⟩, method_10_code, 4, (Option.some Jvm.ClassFile.FieldType.int), [(0, 6, 7, 46), (0, 6, 11, 22)], 8, 133, 0, [(3, 3, 0, 3, 1), (3, 1, 1, 3, 1)], c_i76)
def c_x76 : List (List Nat) := [[], [], [], [43, 667, 668, 669, 670], [], [541], [], [590], []]
/-- BoxballHallLaw.undo(LBoxballHall;)I -/
def c_i77 : List (Nat × c_I) := [(0, .aload_n 0, 0, 0, 0), (1, .invokevirtual 48, 11, 0, 2), (4, .ireturn, 0, 0, 0), (6, .ldc 17, 4294067295, 0, 0), (8, .ireturn, 0, 0, 0)]
def c_m77 : c_M := (⟨"BoxballHallLaw", "undo", "(LBoxballHall;)I"⟩, method_11_code, 2, (Option.some Jvm.ClassFile.FieldType.int), [(0, 4, 5, 46)], 7, 110, 0, [(1, 3, 0, 1, 1)], c_i77)
def c_x77 : List (List Nat) := [[], [43, 698, 699, 700, 701], [], [541], []]
/-- BoxballHallLaw.in([III)I -/
def c_i78 : List (Nat × c_I) := [(0, .aload_n 0, 0, 0, 0), (1, .iload_n 1, 0, 0, 0), (2, .invokestatic 52, 68, 2, 0), (5, .ldc 58, 2147483647, 0, 0), (7, .iand, 0, 0, 0), (8, .iload_n 2, 0, 0, 0), (9, .irem, 0, 0, 0), (10, .ireturn, 0, 0, 0)]
def c_m78 : c_M := (⟨"BoxballHallLaw", "in", "([III)I"⟩, method_12_code, 3, (Option.some Jvm.ClassFile.FieldType.int), [], 1, 22, 0, [], c_i78)
def c_x78 : List (List Nat) := [[], [], [42, 713, 714, 0, 715], [718], [], [], [], []]
/-- java/lang/Float.floatToIntBits(F)I -/
def c_i79 : List (Nat × c_I) := [(0, .fload_n 0, 0, 0, 0), (1, .invokestatic 59, 80, 1, 0), (4, .ifCond .ne (8), 12, 0, 0), (7, .fload_n 0, 0, 0, 0), (8, .invokestatic 74, 0, 0, 10), (11, .ireturn, 0, 0, 0), (12, .ldc 77, 2143289344, 0, 0), (14, .ireturn, 0, 0, 0)]
def c_m79 : c_M := (⟨"java/lang/Float", "floatToIntBits", "(F)I"⟩, prog_19_method_24_code, 1, (Option.some Jvm.ClassFile.FieldType.int), [], 1, 30, 0, [], c_i79)
def c_x79 : List (List Nat) := [[], [66, 722, 723, 0, 724], [], [], [725, 727, 726, 66], [], [728], []]
/-- java/lang/Float.isNaN(F)Z -/
def c_i80 : List (Nat × c_I) := [(0, .fload_n 0, 0, 0, 0), (1, .fload_n 0, 0, 0, 0), (2, .fcmp .l, 0, 0, 0), (3, .ifCond .eq (7), 10, 0, 0), (6, .iconst 1, 0, 0, 0), (7, .goto (4), 11, 0, 0), (10, .iconst 0, 0, 0, 0), (11, .ireturn, 0, 0, 0)]
def c_m80 : c_M := (⟨"java/lang/Float", "isNaN", "(F)Z"⟩, prog_19_method_6_code, 1, (Option.some Jvm.ClassFile.FieldType.boolean), [], 0, 0, 0, [], c_i80)
def c_x80 : List (List Nat) := [[], [], [], [], [], [], [], []]
/-- java/lang/Math.floorMod(II)I -/
def c_i81 : List (Nat × c_I) := [(0, .iload_n 0, 0, 0, 0), (1, .iload_n 1, 0, 0, 0), (2, .irem, 0, 0, 0), (3, .istore_n 2, 0, 0, 0), (4, .iload_n 0, 0, 0, 0), (5, .iload_n 1, 0, 0, 0), (6, .ixor, 0, 0, 0), (7, .ifCond .ge (11), 18, 0, 0), (10, .iload_n 2, 0, 0, 0), (11, .ifCond .eq (7), 18, 0, 0), (14, .iload_n 2, 0, 0, 0), (15, .iload_n 1, 0, 0, 0), (16, .iadd, 0, 0, 0), (17, .ireturn, 0, 0, 0), (18, .iload_n 2, 0, 0, 0), (19, .ireturn, 0, 0, 0)]
def c_m81 : c_M := (⟨"java/lang/Math", "floorMod", "(II)I"⟩, prog_22_method_50_code, 3, (Option.some Jvm.ClassFile.FieldType.int), [], 0, 0, 0, [], c_i81)
def c_x81 : List (List Nat) := [[], [], [], [], [], [], [], [], [], [], [], [], [], [], [], []]
/-- java/util/Arrays.fill([II)V -/
def c_i82 : List (Nat × c_I) := [(0, .iconst 0, 0, 0, 0), (1, .istore_n 2, 0, 0, 0), (2, .aload_n 0, 0, 0, 0), (3, .arraylength, 0, 0, 0), (4, .istore_n 3, 0, 0, 0), (5, .iload_n 2, 0, 0, 0), (6, .iload_n 3, 0, 0, 0), (7, .if_icmp .ge (13), 20, 0, 0), (10, .aload_n 0, 0, 0, 0), (11, .iload_n 2, 0, 0, 0), (12, .iload_n 1, 0, 0, 0), (13, .iastore, 0, 0, 0), (14, .iinc 2 (1), 0, 0, 0), (17, .goto (-12), 5, 0, 0), (20, .return_, 0, 0, 0)]
def c_m82 : c_M := (⟨"java/util/Arrays", "fill", "([II)V"⟩, prog_30_method_103_code, 4, (Option.none : Option Jvm.ClassFile.FieldType), [], 0, 0, 0, [], c_i82)
def c_x82 : List (List Nat) := [[], [], [], [], [], [], [], [], [], [], [], [], [], [], []]
/-- BoxballHallLaw.law([I)Z -/
def c_i83 : List (Nat × c_I) := [(0, .new 10, 10, 0, 0), (3, .dup, 0, 0, 0), (4, .invokespecial 59, 0, 0, 4), (7, .astore_n 1, 0, 0, 0), (8, .iconst 1, 0, 0, 0), (9, .aload_n 0, 0, 0, 0), (10, .iconst 0, 0, 0, 0), (11, .bipush (24), 0, 0, 0), (13, .invokestatic 60, 78, 3, 0), (16, .iadd, 0, 0, 0), (17, .istore_n 2, 0, 0, 0), (18, .aload_n 0, 0, 0, 0), (19, .iconst 1, 0, 0, 0), (20, .iconst 2, 0, 0, 0), (21, .invokestatic 60, 78, 3, 0), (24, .ifCond .ne (7), 31, 0, 0), (27, .iconst 1, 0, 0, 0), (28, .goto (4), 32, 0, 0), (31, .iconst 0, 0, 0, 0), (32, .istore_n 3, 0, 0, 0), (33, .aload_n 1, 0, 0, 0), (34, .bipush (61), 0, 0, 0), (36, .iconst 1, 0, 0, 0), (37, .iconst 0, 0, 0, 0), (38, .invokestatic 64, 69, 4, 0), (41, .ldc 17, 4294067295, 0, 0), (43, .if_icmp .ne (61), 104, 0, 0), (46, .aload_n 1, 0, 0, 0), (47, .iconst 1, 0, 0, 0), (48, .iconst 5, 0, 0, 0), (49, .iconst 0, 0, 0, 0), (50, .invokestatic 64, 69, 4, 0), (53, .ldc 17, 4294067295, 0, 0), (55, .if_icmp .ne (49), 104, 0, 0), (58, .aload_n 1, 0, 0, 0), (59, .iload_n 2, 0, 0, 0), (60, .iconst 1, 0, 0, 0), (61, .iload_n 3, 0, 0, 0), (62, .invokestatic 64, 69, 4, 0), (65, .bipush (10), 0, 0, 0), (67, .if_icmp .ne (37), 104, 0, 0), (70, .aload_n 1, 0, 0, 0), (71, .iload_n 2, 0, 0, 0), (72, .invokestatic 67, 72, 2, 0), (75, .ldc 17, 4294067295, 0, 0), (77, .if_icmp .ne (27), 104, 0, 0), (80, .aload_n 1, 0, 0, 0), (81, .invokestatic 70, 77, 1, 0), (84, .ldc 17, 4294067295, 0, 0), (86, .if_icmp .ne (18), 104, 0, 0), (89, .aload_n 1, 0, 0, 0), (90, .iconst 1, 0, 0, 0), (91, .iconst 0, 0, 0, 0), (92, .invokestatic 73, 76, 3, 0), (95, .ldc 17, 4294067295, 0, 0), (97, .if_icmp .ne (7), 104, 0, 0), (100, .iconst 1, 0, 0, 0), (101, .goto (4), 105, 0, 0), (104, .iconst 0, 0, 0, 0), (105, .istore 4, 0, 0, 0), (107, .iload_n 2, 0, 0, 0), (108, .newarray .int, 0, 0, 0), (110, .astore 5, 0, 0, 0), (112, .iload_n 2, 0, 0, 0), (113, .newarray .int, 0, 0, 0), (115, .astore 6, 0, 0, 0), (117, .iconst 0, 0, 0, 0), (118, .istore 7, 0, 0, 0), (120, .iload 7, 0, 0, 0), (122, .iload_n 2, 0, 0, 0), (123, .if_icmp .ge (158), 281, 0, 0), (126, .aload 5, 0, 0, 0), (128, .iload 7, 0, 0, 0), (130, .aload_n 0, 0, 0, 0), (131, .iconst 2, 0, 0, 0), (132, .iconst 3, 0, 0, 0), (133, .invokestatic 60, 78, 3, 0), (136, .ifCond .ne (18), 154, 0, 0), (139, .iconst 1, 0, 0, 0), (140, .aload_n 0, 0, 0, 0), (141, .bipush (10), 0, 0, 0), (143, .iload 7, 0, 0, 0), (145, .iadd, 0, 0, 0), (146, .iconst 4, 0, 0, 0), (147, .invokestatic 60, 78, 3, 0), (150, .iadd, 0, 0, 0), (151, .goto (4), 155, 0, 0), (154, .iconst 1, 0, 0, 0), (155, .iastore, 0, 0, 0), (156, .aload_n 0, 0, 0, 0), (157, .bipush (40), 0, 0, 0), (159, .iload 7, 0, 0, 0), (161, .iadd, 0, 0, 0), (162, .iconst 4, 0, 0, 0), (163, .invokestatic 60, 78, 3, 0), (166, .istore 8, 0, 0, 0), (168, .aload 6, 0, 0, 0), (170, .iload 7, 0, 0, 0), (172, .iload 8, 0, 0, 0), (174, .aload 5, 0, 0, 0), (176, .iload 7, 0, 0, 0), (178, .iaload, 0, 0, 0), (179, .if_icmp .le (7), 186, 0, 0), (182, .iconst 0, 0, 0, 0), (183, .goto (7), 190, 0, 0), (186, .iload 8, 0, 0, 0), (188, .iconst 3, 0, 0, 0), (189, .irem, 0, 0, 0), (190, .iastore, 0, 0, 0), (191, .aload 6, 0, 0, 0), (193, .iload 7, 0, 0, 0), (195, .aload 6, 0, 0, 0), (197, .iload 7, 0, 0, 0), (199, .iaload, 0, 0, 0), (200, .aload 5, 0, 0, 0), (202, .iload 7, 0, 0, 0), (204, .iaload, 0, 0, 0), (205, .if_icmp .le (7), 212, 0, 0), (208, .iconst 0, 0, 0, 0), (209, .goto (8), 217, 0, 0), (212, .aload 6, 0, 0, 0), (214, .iload 7, 0, 0, 0), (216, .iaload, 0, 0, 0), (217, .iastore, 0, 0, 0), (218, .iload 4, 0, 0, 0), (220, .aload_n 1, 0, 0, 0), (221, .iload 7, 0, 0, 0), (223, .aload 5, 0, 0, 0), (225, .iload 7, 0, 0, 0), (227, .iaload, 0, 0, 0), (228, .invokestatic 76, 70, 3, 0), (231, .iconst 1, 0, 0, 0), (232, .if_icmp .ne (39), 271, 0, 0), (235, .aload_n 1, 0, 0, 0), (236, .iload 7, 0, 0, 0), (238, .aload 6, 0, 0, 0), (240, .iload 7, 0, 0, 0), (242, .iaload, 0, 0, 0), (243, .invokestatic 78, 71, 3, 0), (246, .ifCond .ne (25), 271, 0, 0), (249, .aload_n 1, 0, 0, 0), (250, .iload 7, 0, 0, 0), (252, .aload 5, 0, 0, 0), (254, .iload 7, 0, 0, 0), (256, .iaload, 0, 0, 0), (257, .iconst 1, 0, 0, 0), (258, .iadd, 0, 0, 0), (259, .invokestatic 78, 71, 3, 0), (262, .ldc 24, 4294067294, 0, 0), (264, .if_icmp .ne (7), 271, 0, 0), (267, .iconst 1, 0, 0, 0), (268, .goto (4), 272, 0, 0), (271, .iconst 0, 0, 0, 0), (272, .iand, 0, 0, 0), (273, .istore 4, 0, 0, 0), (275, .iinc 7 (1), 0, 0, 0), (278, .goto (-158), 120, 0, 0), (281, .bipush (8), 0, 0, 0), (283, .iload_n 2, 0, 0, 0), (284, .multianewarray 80 2, 0, 0, 0), (288, .astore 7, 0, 0, 0), (290, .iconst 0, 0, 0, 0), (291, .istore 8, 0, 0, 0), (293, .iconst 0, 0, 0, 0), (294, .istore 9, 0, 0, 0), (296, .iload 9, 0, 0, 0), (298, .bipush (12), 0, 0, 0), (300, .if_icmp .ge (676), 976, 0, 0), (303, .aload_n 0, 0, 0, 0), (304, .bipush (70), 0, 0, 0), (306, .iload 9, 0, 0, 0), (308, .iadd, 0, 0, 0), (309, .bipush (6), 0, 0, 0), (311, .invokestatic 60, 78, 3, 0), (314, .istore 10, 0, 0, 0), (316, .iconst 1, 0, 0, 0), (317, .aload_n 0, 0, 0, 0), (318, .bipush (90), 0, 0, 0), (320, .iload 9, 0, 0, 0), (322, .iadd, 0, 0, 0), (323, .aload_n 0, 0, 0, 0), (324, .bipush (110), 0, 0, 0), (326, .iload 9, 0, 0, 0), (328, .iadd, 0, 0, 0), (329, .iconst 2, 0, 0, 0), (330, .invokestatic 60, 78, 3, 0), (333, .ifCond .ne (7), 340, 0, 0), (336, .iconst 4, 0, 0, 0), (337, .goto (5), 342, 0, 0), (340, .bipush (99), 0, 0, 0), (342, .invokestatic 60, 78, 3, 0), (345, .iadd, 0, 0, 0), (346, .istore 11, 0, 0, 0), (348, .iload 10, 0, 0, 0), (350, .iconst 5, 0, 0, 0), (351, .if_icmp .ne (73), 424, 0, 0), (354, .iload 4, 0, 0, 0), (356, .aload_n 1, 0, 0, 0), (357, .invokestatic 70, 77, 1, 0), (360, .iload 8, 0, 0, 0), (362, .ifCond .ne (8), 370, 0, 0), (365, .ldc 17, 4294067295, 0, 0), (367, .goto (7), 374, 0, 0), (370, .iload 8, 0, 0, 0), (372, .iconst 1, 0, 0, 0), (373, .isub, 0, 0, 0), (374, .if_icmp .ne (7), 381, 0, 0), (377, .iconst 1, 0, 0, 0), (378, .goto (4), 382, 0, 0), (381, .iconst 0, 0, 0, 0), (382, .iand, 0, 0, 0), (383, .istore 4, 0, 0, 0), (385, .iload 8, 0, 0, 0), (387, .ifCond .le (368), 755, 0, 0), (390, .iinc 8 (-1), 0, 0, 0), (393, .iconst 0, 0, 0, 0), (394, .istore 12, 0, 0, 0), (396, .iload 12, 0, 0, 0), (398, .iload_n 2, 0, 0, 0), (399, .if_icmp .ge (22), 421, 0, 0), (402, .aload 6, 0, 0, 0), (404, .iload 12, 0, 0, 0), (406, .aload 7, 0, 0, 0), (408, .iload 8, 0, 0, 0), (410, .aaload, 0, 0, 0), (411, .iload 12, 0, 0, 0), (413, .iaload, 0, 0, 0), (414, .iastore, 0, 0, 0), (415, .iinc 12 (1), 0, 0, 0), (418, .goto (-22), 396, 0, 0), (421, .goto (334), 755, 0, 0), (424, .iload 10, 0, 0, 0), (426, .iconst 4, 0, 0, 0), (427, .if_icmp .ne (7), 434, 0, 0), (430, .iconst 1, 0, 0, 0), (431, .goto (4), 435, 0, 0), (434, .iconst 0, 0, 0, 0), (435, .istore 12, 0, 0, 0), (437, .iconst 0, 0, 0, 0), (438, .istore 13, 0, 0, 0), (440, .iconst 0, 0, 0, 0), (441, .istore 14, 0, 0, 0), (443, .iconst 0, 0, 0, 0), (444, .istore 15, 0, 0, 0), (446, .iload_n 2, 0, 0, 0), (447, .newarray .int, 0, 0, 0), (449, .astore 16, 0, 0, 0), (451, .iload_n 3, 0, 0, 0), (452, .ifCond .eq (7), 459, 0, 0), (455, .iconst 0, 0, 0, 0), (456, .goto (4), 460, 0, 0), (459, .iconst 1, 0, 0, 0), (460, .istore 17, 0, 0, 0), (462, .iload 17, 0, 0, 0), (464, .iconst 2, 0, 0, 0), (465, .if_icmp .ge (161), 626, 0, 0), (468, .iload 17, 0, 0, 0), (470, .iconst 1, 0, 0, 0), (471, .if_icmp .ne (12), 483, 0, 0), (474, .iload_n 3, 0, 0, 0), (475, .ifCond .eq (8), 483, 0, 0), (478, .iload 15, 0, 0, 0), (480, .goto (4), 484, 0, 0), (483, .iconst 0, 0, 0, 0), (484, .istore 13, 0, 0, 0), (486, .iload 13, 0, 0, 0), (488, .istore 18, 0, 0, 0), (490, .iload 18, 0, 0, 0), (492, .istore 14, 0, 0, 0), (494, .iconst 0, 0, 0, 0), (495, .istore 19, 0, 0, 0), (497, .iload 19, 0, 0, 0), (499, .iload_n 2, 0, 0, 0), (500, .if_icmp .ge (116), 616, 0, 0), (503, .iload 12, 0, 0, 0), (505, .ifCond .eq (12), 517, 0, 0), (508, .iload_n 2, 0, 0, 0), (509, .iconst 1, 0, 0, 0), (510, .isub, 0, 0, 0), (511, .iload 19, 0, 0, 0), (513, .isub, 0, 0, 0), (514, .goto (5), 519, 0, 0), (517, .iload 19, 0, 0, 0), (519, .istore 20, 0, 0, 0), (521, .aload 5, 0, 0, 0), (523, .iload 20, 0, 0, 0), (525, .iaload, 0, 0, 0), (526, .aload 6, 0, 0, 0), (528, .iload 20, 0, 0, 0), (530, .iaload, 0, 0, 0), (531, .isub, 0, 0, 0), (532, .istore 21, 0, 0, 0), (534, .iload 18, 0, 0, 0), (536, .aload 6, 0, 0, 0), (538, .iload 20, 0, 0, 0), (540, .iaload, 0, 0, 0), (541, .iadd, 0, 0, 0), (542, .iload 11, 0, 0, 0), (544, .isub, 0, 0, 0), (545, .istore 22, 0, 0, 0), (547, .aload 16, 0, 0, 0), (549, .iload 20, 0, 0, 0), (551, .iload 18, 0, 0, 0), (553, .iload 21, 0, 0, 0), (555, .if_icmp .ge (8), 563, 0, 0), (558, .iload 18, 0, 0, 0), (560, .goto (5), 565, 0, 0), (563, .iload 21, 0, 0, 0), (565, .iload 22, 0, 0, 0), (567, .ifCond .le (8), 575, 0, 0), (570, .iload 22, 0, 0, 0), (572, .goto (4), 576, 0, 0), (575, .iconst 0, 0, 0, 0), (576, .iadd, 0, 0, 0), (577, .iastore, 0, 0, 0), (578, .iload 18, 0, 0, 0), (580, .aload 6, 0, 0, 0), (582, .iload 20, 0, 0, 0), (584, .iaload, 0, 0, 0), (585, .aload 16, 0, 0, 0), (587, .iload 20, 0, 0, 0), (589, .iaload, 0, 0, 0), (590, .isub, 0, 0, 0), (591, .iadd, 0, 0, 0), (592, .istore 18, 0, 0, 0), (594, .iload 18, 0, 0, 0), (596, .iload 14, 0, 0, 0), (598, .if_icmp .le (8), 606, 0, 0), (601, .iload 18, 0, 0, 0), (603, .goto (5), 608, 0, 0), (606, .iload 14, 0, 0, 0), (608, .istore 14, 0, 0, 0), (610, .iinc 19 (1), 0, 0, 0), (613, .goto (-116), 497, 0, 0), (616, .iload 18, 0, 0, 0), (618, .istore 15, 0, 0, 0), (620, .iinc 17 (1), 0, 0, 0), (623, .goto (-161), 462, 0, 0), (626, .iload 15, 0, 0, 0), (628, .iload 13, 0, 0, 0), (630, .if_icmp .ne (7), 637, 0, 0), (633, .iconst 1, 0, 0, 0), (634, .goto (4), 638, 0, 0), (637, .iconst 0, 0, 0, 0), (638, .istore 17, 0, 0, 0), (640, .iload 4, 0, 0, 0), (642, .iload 12, 0, 0, 0), (644, .ifCond .eq (12), 656, 0, 0), (647, .aload_n 1, 0, 0, 0), (648, .iload 11, 0, 0, 0), (650, .invokestatic 82, 74, 2, 0), (653, .goto (9), 662, 0, 0), (656, .aload_n 1, 0, 0, 0), (657, .iload 11, 0, 0, 0), (659, .invokestatic 84, 73, 2, 0), (662, .iload 17, 0, 0, 0), (664, .ifCond .eq (8), 672, 0, 0), (667, .iload 14, 0, 0, 0), (669, .goto (5), 674, 0, 0), (672, .ldc 24, 4294067294, 0, 0), (674, .if_icmp .ne (7), 681, 0, 0), (677, .iconst 1, 0, 0, 0), (678, .goto (4), 682, 0, 0), (681, .iconst 0, 0, 0, 0), (682, .iand, 0, 0, 0), (683, .istore 4, 0, 0, 0), (685, .iload 17, 0, 0, 0), (687, .ifCond .eq (68), 755, 0, 0), (690, .iload 8, 0, 0, 0), (692, .bipush (8), 0, 0, 0), (694, .if_icmp .ne (41), 735, 0, 0), (697, .iconst 0, 0, 0, 0), (698, .istore 18, 0, 0, 0), (700, .iload 18, 0, 0, 0), (702, .bipush (7), 0, 0, 0), (704, .if_icmp .ge (27), 731, 0, 0), (707, .aload 7, 0, 0, 0), (709, .iload 18, 0, 0, 0), (711, .aload 7, 0, 0, 0), (713, .iload 18, 0, 0, 0), (715, .iconst 1, 0, 0, 0), (716, .iadd, 0, 0, 0), (717, .aaload, 0, 0, 0), (718, .invokevirtual 86, 0, 0, 9), (721, .checkcast 87, 0, 0, 0), (724, .aastore, 0, 0, 0), (725, .iinc 18 (1), 0, 0, 0), (728, .goto (-28), 700, 0, 0), (731, .bipush (7), 0, 0, 0), (733, .istore 8, 0, 0, 0), (735, .aload 7, 0, 0, 0), (737, .iload 8, 0, 0, 0), (739, .aload 6, 0, 0, 0), (741, .invokevirtual 86, 0, 0, 9), (744, .checkcast 87, 0, 0, 0), (747, .aastore, 0, 0, 0), (748, .iinc 8 (1), 0, 0, 0), (751, .aload 16, 0, 0, 0), (753, .astore 6, 0, 0, 0), (755, .iconst 0, 0, 0, 0), (756, .istore 12, 0, 0, 0), (758, .iconst 0, 0, 0, 0), (759, .istore 13, 0, 0, 0), (761, .iconst 0, 0, 0, 0), (762, .istore 14, 0, 0, 0), (764, .iload 14, 0, 0, 0), (766, .iload_n 2, 0, 0, 0), (767, .if_icmp .ge (61), 828, 0, 0), (770, .iload 4, 0, 0, 0), (772, .aload_n 1, 0, 0, 0), (773, .iload 14, 0, 0, 0), (775, .invokestatic 67, 72, 2, 0), (778, .aload 6, 0, 0, 0), (780, .iload 14, 0, 0, 0), (782, .iaload, 0, 0, 0), (783, .if_icmp .ne (7), 790, 0, 0), (786, .iconst 1, 0, 0, 0), (787, .goto (4), 791, 0, 0), (790, .iconst 0, 0, 0, 0), (791, .iand, 0, 0, 0), (792, .istore 4, 0, 0, 0), (794, .iload 12, 0, 0, 0), (796, .aload 6, 0, 0, 0), (798, .iload 14, 0, 0, 0), (800, .iaload, 0, 0, 0), (801, .iadd, 0, 0, 0), (802, .istore 12, 0, 0, 0), (804, .iload 13, 0, 0, 0), (806, .aload 6, 0, 0, 0), (808, .iload 14, 0, 0, 0), (810, .iaload, 0, 0, 0), (811, .ifCond .le (7), 818, 0, 0), (814, .iconst 1, 0, 0, 0), (815, .goto (4), 819, 0, 0), (818, .iconst 0, 0, 0, 0), (819, .iadd, 0, 0, 0), (820, .istore 13, 0, 0, 0), (822, .iinc 14 (1), 0, 0, 0), (825, .goto (-61), 764, 0, 0), (828, .iload 4, 0, 0, 0), (830, .aload_n 1, 0, 0, 0), (831, .invokevirtual 92, 5, 0, 2), (834, .iload 12, 0, 0, 0), (836, .if_icmp .ne (57), 893, 0, 0), (839, .aload_n 1, 0, 0, 0), (840, .invokevirtual 95, 9, 0, 2), (843, .iload 8, 0, 0, 0), (845, .if_icmp .ne (48), 893, 0, 0), (848, .aload_n 1, 0, 0, 0), (849, .invokevirtual 98, 12, 0, 2), (852, .iload 13, 0, 0, 0), (854, .i2f, 0, 0, 0), (855, .iload_n 2, 0, 0, 0), (856, .i2f, 0, 0, 0), (857, .fdiv, 0, 0, 0), (858, .invokestatic 101, 79, 1, 0), (861, .if_icmp .ne (32), 893, 0, 0), (864, .aload_n 1, 0, 0, 0), (865, .iload 8, 0, 0, 0), (867, .iconst 1, 0, 0, 0), (868, .iadd, 0, 0, 0), (869, .iconst 0, 0, 0, 0), (870, .invokestatic 73, 76, 3, 0), (873, .ldc 17, 4294067295, 0, 0), (875, .if_icmp .ne (18), 893, 0, 0), (878, .aload_n 1, 0, 0, 0), (879, .iconst 0, 0, 0, 0), (880, .iconst 0, 0, 0, 0), (881, .invokestatic 73, 76, 3, 0), (884, .ldc 17, 4294067295, 0, 0), (886, .if_icmp .ne (7), 893, 0, 0), (889, .iconst 1, 0, 0, 0), (890, .goto (4), 894, 0, 0), (893, .iconst 0, 0, 0, 0), (894, .iand, 0, 0, 0), (895, .istore 4, 0, 0, 0), (897, .iconst 1, 0, 0, 0), (898, .istore 14, 0, 0, 0), (900, .iload 14, 0, 0, 0), (902, .iload 8, 0, 0, 0), (904, .if_icmp .gt (66), 970, 0, 0), (907, .aload_n 0, 0, 0, 0), (908, .sipush (130), 0, 0, 0), (911, .iload 9, 0, 0, 0), (913, .iadd, 0, 0, 0), (914, .iload_n 2, 0, 0, 0), (915, .invokestatic 60, 78, 3, 0), (918, .istore 15, 0, 0, 0), (920, .iload 4, 0, 0, 0), (922, .aload_n 1, 0, 0, 0), (923, .iload 14, 0, 0, 0), (925, .iload 15, 0, 0, 0), (927, .invokestatic 73, 76, 3, 0), (930, .aload 7, 0, 0, 0), (932, .iload 8, 0, 0, 0), (934, .iload 14, 0, 0, 0), (936, .isub, 0, 0, 0), (937, .aaload, 0, 0, 0), (938, .iload 15, 0, 0, 0), (940, .iaload, 0, 0, 0), (941, .if_icmp .ne (19), 960, 0, 0), (944, .aload_n 1, 0, 0, 0), (945, .iload 14, 0, 0, 0), (947, .iload_n 2, 0, 0, 0), (948, .invokestatic 73, 76, 3, 0), (951, .ldc 24, 4294067294, 0, 0), (953, .if_icmp .ne (7), 960, 0, 0), (956, .iconst 1, 0, 0, 0), (957, .goto (4), 961, 0, 0), (960, .iconst 0, 0, 0, 0), (961, .iand, 0, 0, 0), (962, .istore 4, 0, 0, 0), (964, .iinc 14 (1), 0, 0, 0), (967, .goto (-67), 900, 0, 0), (970, .iinc 9 (1), 0, 0, 0), (973, .goto (-677), 296, 0, 0), (976, .iload 4, 0, 0, 0), (978, .ifCond .eq (46), 1024, 0, 0), (981, .aload_n 1, 0, 0, 0), (982, .iconst 0, 0, 0, 0), (983, .invokestatic 84, 73, 2, 0), (986, .ldc 17, 4294067295, 0, 0), (988, .if_icmp .ne (36), 1024, 0, 0), (991, .aload_n 1, 0, 0, 0), (992, .bipush (100), 0, 0, 0), (994, .invokestatic 82, 74, 2, 0), (997, .ldc 17, 4294067295, 0, 0), (999, .if_icmp .ne (25), 1024, 0, 0), (1002, .aload_n 1, 0, 0, 0), (1003, .iconst 0, 0, 0, 0), (1004, .iconst 1, 0, 0, 0), (1005, .invokestatic 107, 75, 3, 0), (1008, .ldc 17, 4294067295, 0, 0), (1010, .if_icmp .ne (14), 1024, 0, 0), (1013, .aload_n 1, 0, 0, 0), (1014, .invokevirtual 109, 13, 0, 2), (1017, .ifCond .eq (7), 1024, 0, 0), (1020, .iconst 1, 0, 0, 0), (1021, .goto (4), 1025, 0, 0), (1024, .iconst 0, 0, 0, 0), (1025, .ireturn, 0, 0, 0)]
def c_m83 : c_M := (⟨"BoxballHallLaw", "law", "([I)Z"⟩, code, 23, ret, [], 10, 177, 0, [], c_i83)
def c_x83 : List (List Nat) := [[67, 68, 43], [], [43, 69, 70, 0, 71], [], [], [], [], [], [42, 710, 711, 0, 712], [], [], [], [], [], [42, 710, 711, 0, 712], [], [], [], [], [], [], [], [], [], [42, 456, 457, 0, 458], [541], [], [], [], [], [], [42, 456, 457, 0, 458], [541], [], [], [], [], [], [42, 456, 457, 0, 458], [], [], [], [], [42, 598, 599, 0, 600], [541], [], [], [42, 695, 696, 0, 697], [541], [], [], [], [], [42, 663, 664, 0, 665], [541], [], [], [], [], [], [], [109], [], [], [109], [], [], [], [], [], [], [], [], [], [], [], [42, 710, 711, 0, 712], [], [], [], [], [], [], [], [42, 710, 711, 0, 712], [], [], [], [], [], [], [], [], [], [42, 710, 711, 0, 712], [], [], [], [], [], [], [], [], [], [], [], [], [], [], [], [], [], [], [], [], [], [], [], [], [], [], [], [], [], [], [], [], [], [], [], [42, 542, 543, 0, 544], [], [], [], [], [], [], [], [42, 591, 592, 0, 593], [], [], [], [], [], [], [], [], [42, 591, 592, 0, 593], [590], [], [], [], [], [], [], [], [], [], [], [735, 109], [], [], [], [], [], [], [], [], [], [], [], [], [], [42, 710, 711, 0, 712], [], [], [], [], [], [], [], [], [], [], [], [42, 710, 711, 0, 712], [], [], [], [], [42, 710, 711, 0, 712], [], [], [], [], [], [], [], [42, 695, 696, 0, 697], [], [], [541], [], [], [], [], [], [], [], [], [], [], [], [], [], [], [], [], [], [], [], [], [], [], [], [], [], [], [], [], [], [], [], [], [], [], [], [], [], [], [], [], [], [], [], [109], [], [], [], [], [], [], [], [], [], [], [], [], [], [], [], [], [], [], [], [], [], [], [], [], [], [], [], [], [], [], [], [], [], [], [], [], [], [], [], [], [], [], [], [], [], [], [], [], [], [], [], [], [], [], [], [], [], [], [], [], [], [], [], [], [], [], [], [], [], [], [], [], [], [], [], [], [], [], [], [], [], [], [], [], [], [], [], [], [], [], [], [], [], [], [], [], [], [], [], [], [], [], [], [], [42, 649, 650, 0, 651], [], [], [], [42, 605, 606, 0, 607], [], [], [], [], [590], [], [], [], [], [], [], [], [], [], [], [], [], [], [], [], [], [], [], [], [], [], [], [], [729, 730, 731, 732, 733, 734], [736], [], [], [], [], [], [], [], [], [729, 730, 731, 732, 733, 734], [736], [], [], [], [], [], [], [], [], [], [], [], [], [], [], [], [], [42, 598, 599, 0, 600], [], [], [], [], [], [], [], [], [], [], [], [], [], [], [], [], [], [], [], [], [], [], [], [], [], [], [], [], [], [43, 297, 298, 299, 300], [], [], [], [43, 305, 306, 307, 308], [], [], [], [43, 309, 310, 311, 312], [], [], [], [], [], [66, 719, 720, 0, 721], [], [], [], [], [], [], [42, 663, 664, 0, 665], [541], [], [], [], [], [42, 663, 664, 0, 665], [541], [], [], [], [], [], [], [], [], [], [], [], [], [], [], [], [], [42, 710, 711, 0, 712], [], [], [], [], [], [42, 663, 664, 0, 665], [], [], [], [], [], [], [], [], [], [], [], [42, 663, 664, 0, 665], [590], [], [], [], [], [], [], [], [], [], [], [], [], [], [], [42, 605, 606, 0, 607], [541], [], [], [], [42, 649, 650, 0, 651], [541], [], [], [], [], [42, 656, 657, 0, 658], [541], [], [], [43, 321, 322, 323, 324], [], [], [], [], []]
def c_P : List c_M := [c_m0, c_m1, c_m2, c_m3, c_m4, c_m5, c_m6, c_m7, c_m8, c_m9, c_m10, c_m11, c_m12, c_m13, c_m14, c_m15, c_m16, c_m17, c_m18, c_m19, c_m20, c_m21, c_m22, c_m23, c_m24, c_m25, c_m26, c_m27, c_m28, c_m29, c_m30, c_m31, c_m32, c_m33, c_m34, c_m35, c_m36, c_m37, c_m38, c_m39, c_m40, c_m41, c_m42, c_m43, c_m44, c_m45, c_m46, c_m47, c_m48, c_m49, c_m50, c_m51, c_m52, c_m53, c_m54, c_m55, c_m56, c_m57, c_m58, c_m59, c_m60, c_m61, c_m62, c_m63, c_m64, c_m65, c_m66, c_m67, c_m68, c_m69, c_m70, c_m71, c_m72, c_m73, c_m74, c_m75, c_m76, c_m77, c_m78, c_m79, c_m80, c_m81, c_m82, c_m83]
def c_I9 : List (List (List Nat)) := [c_x0, c_x1, c_x2, c_x3, c_x4, c_x5, c_x6, c_x7, c_x8, c_x9, c_x10, c_x11, c_x12, c_x13, c_x14, c_x15, c_x16, c_x17, c_x18, c_x19, c_x20, c_x21, c_x22, c_x23, c_x24, c_x25, c_x26, c_x27, c_x28, c_x29, c_x30, c_x31, c_x32, c_x33, c_x34, c_x35, c_x36, c_x37, c_x38, c_x39, c_x40, c_x41, c_x42, c_x43, c_x44, c_x45, c_x46, c_x47, c_x48, c_x49, c_x50, c_x51, c_x52, c_x53, c_x54, c_x55, c_x56, c_x57, c_x58, c_x59, c_x60, c_x61, c_x62, c_x63, c_x64, c_x65, c_x66, c_x67, c_x68, c_x69, c_x70, c_x71, c_x72, c_x73, c_x74, c_x75, c_x76, c_x77, c_x78, c_x79, c_x80, c_x81, c_x82, c_x83]
end
section
set_option maxRecDepth 100000
theorem c_ok0 : c_okM c_P c_m0 c_x0 = true := by decide +kernel
theorem c_ok1 : c_okM c_P c_m1 c_x1 = true := by decide +kernel
theorem c_ok2 : c_okM c_P c_m2 c_x2 = true := by decide +kernel
theorem c_ok3 : c_okM c_P c_m3 c_x3 = true := by decide +kernel
theorem c_ok4 : c_okM c_P c_m4 c_x4 = true := by decide +kernel
theorem c_ok5 : c_okM c_P c_m5 c_x5 = true := by decide +kernel
theorem c_ok6 : c_okM c_P c_m6 c_x6 = true := by decide +kernel
theorem c_ok7 : c_okM c_P c_m7 c_x7 = true := by decide +kernel
theorem c_ok8 : c_okM c_P c_m8 c_x8 = true := by decide +kernel
theorem c_ok9 : c_okM c_P c_m9 c_x9 = true := by decide +kernel
theorem c_ok10 : c_okM c_P c_m10 c_x10 = true := by decide +kernel
theorem c_ok11 : c_okM c_P c_m11 c_x11 = true := by decide +kernel
theorem c_ok12 : c_okM c_P c_m12 c_x12 = true := by decide +kernel
theorem c_ok13 : c_okM c_P c_m13 c_x13 = true := by decide +kernel
theorem c_ok14 : c_okM c_P c_m14 c_x14 = true := by decide +kernel
theorem c_ok15 : c_okM c_P c_m15 c_x15 = true := by decide +kernel
theorem c_ok16 : c_okM c_P c_m16 c_x16 = true := by decide +kernel
theorem c_ok17 : c_okM c_P c_m17 c_x17 = true := by decide +kernel
theorem c_ok18 : c_okM c_P c_m18 c_x18 = true := by decide +kernel
theorem c_ok19 : c_okM c_P c_m19 c_x19 = true := by decide +kernel
theorem c_ok20 : c_okM c_P c_m20 c_x20 = true := by decide +kernel
theorem c_ok21 : c_okM c_P c_m21 c_x21 = true := by decide +kernel
theorem c_ok22 : c_okM c_P c_m22 c_x22 = true := by decide +kernel
end
section
set_option maxRecDepth 100000
theorem c_ok23 : c_okM c_P c_m23 c_x23 = true := by decide +kernel
theorem c_ok24 : c_okM c_P c_m24 c_x24 = true := by decide +kernel
theorem c_ok25 : c_okM c_P c_m25 c_x25 = true := by decide +kernel
theorem c_ok26 : c_okM c_P c_m26 c_x26 = true := by decide +kernel
theorem c_ok27 : c_okM c_P c_m27 c_x27 = true := by decide +kernel
theorem c_ok28 : c_okM c_P c_m28 c_x28 = true := by decide +kernel
theorem c_ok29 : c_okM c_P c_m29 c_x29 = true := by decide +kernel
theorem c_ok30 : c_okM c_P c_m30 c_x30 = true := by decide +kernel
theorem c_ok31 : c_okM c_P c_m31 c_x31 = true := by decide +kernel
theorem c_ok32 : c_okM c_P c_m32 c_x32 = true := by decide +kernel
theorem c_ok33 : c_okM c_P c_m33 c_x33 = true := by decide +kernel
theorem c_ok34 : c_okM c_P c_m34 c_x34 = true := by decide +kernel
theorem c_ok35 : c_okM c_P c_m35 c_x35 = true := by decide +kernel
theorem c_ok36 : c_okM c_P c_m36 c_x36 = true := by decide +kernel
theorem c_ok37 : c_okM c_P c_m37 c_x37 = true := by decide +kernel
theorem c_ok38 : c_okM c_P c_m38 c_x38 = true := by decide +kernel
theorem c_ok39 : c_okM c_P c_m39 c_x39 = true := by decide +kernel
theorem c_ok40 : c_okM c_P c_m40 c_x40 = true := by decide +kernel
theorem c_ok41 : c_okM c_P c_m41 c_x41 = true := by decide +kernel
theorem c_ok42 : c_okM c_P c_m42 c_x42 = true := by decide +kernel
theorem c_ok43 : c_okM c_P c_m43 c_x43 = true := by decide +kernel
theorem c_ok44 : c_okM c_P c_m44 c_x44 = true := by decide +kernel
theorem c_ok45 : c_okM c_P c_m45 c_x45 = true := by decide +kernel
end
section
set_option maxRecDepth 100000
theorem c_ok46 : c_okM c_P c_m46 c_x46 = true := by decide +kernel
theorem c_ok47 : c_okM c_P c_m47 c_x47 = true := by decide +kernel
theorem c_ok48 : c_okM c_P c_m48 c_x48 = true := by decide +kernel
theorem c_ok49 : c_okM c_P c_m49 c_x49 = true := by decide +kernel
theorem c_ok50 : c_okM c_P c_m50 c_x50 = true := by decide +kernel
theorem c_ok51 : c_okM c_P c_m51 c_x51 = true := by decide +kernel
theorem c_ok52 : c_okM c_P c_m52 c_x52 = true := by decide +kernel
theorem c_ok53 : c_okM c_P c_m53 c_x53 = true := by decide +kernel
theorem c_ok54 : c_okM c_P c_m54 c_x54 = true := by decide +kernel
theorem c_ok55 : c_okM c_P c_m55 c_x55 = true := by decide +kernel
theorem c_ok56 : c_okM c_P c_m56 c_x56 = true := by decide +kernel
theorem c_ok57 : c_okM c_P c_m57 c_x57 = true := by decide +kernel
theorem c_ok58 : c_okM c_P c_m58 c_x58 = true := by decide +kernel
theorem c_ok59 : c_okM c_P c_m59 c_x59 = true := by decide +kernel
theorem c_ok60 : c_okM c_P c_m60 c_x60 = true := by decide +kernel
theorem c_ok61 : c_okM c_P c_m61 c_x61 = true := by decide +kernel
theorem c_ok62 : c_okM c_P c_m62 c_x62 = true := by decide +kernel
theorem c_ok63 : c_okM c_P c_m63 c_x63 = true := by decide +kernel
end
section
set_option maxRecDepth 100000
theorem c_ok64 : c_okM c_P c_m64 c_x64 = true := by decide +kernel
theorem c_ok65 : c_okM c_P c_m65 c_x65 = true := by decide +kernel
theorem c_ok66 : c_okM c_P c_m66 c_x66 = true := by decide +kernel
theorem c_ok67 : c_okM c_P c_m67 c_x67 = true := by decide +kernel
theorem c_ok68 : c_okM c_P c_m68 c_x68 = true := by decide +kernel
theorem c_ok69 : c_okM c_P c_m69 c_x69 = true := by decide +kernel
theorem c_ok70 : c_okM c_P c_m70 c_x70 = true := by decide +kernel
theorem c_ok71 : c_okM c_P c_m71 c_x71 = true := by decide +kernel
theorem c_ok72 : c_okM c_P c_m72 c_x72 = true := by decide +kernel
theorem c_ok73 : c_okM c_P c_m73 c_x73 = true := by decide +kernel
theorem c_ok74 : c_okM c_P c_m74 c_x74 = true := by decide +kernel
theorem c_ok75 : c_okM c_P c_m75 c_x75 = true := by decide +kernel
theorem c_ok76 : c_okM c_P c_m76 c_x76 = true := by decide +kernel
theorem c_ok77 : c_okM c_P c_m77 c_x77 = true := by decide +kernel
theorem c_ok78 : c_okM c_P c_m78 c_x78 = true := by decide +kernel
theorem c_ok79 : c_okM c_P c_m79 c_x79 = true := by decide +kernel
theorem c_ok80 : c_okM c_P c_m80 c_x80 = true := by decide +kernel
theorem c_ok81 : c_okM c_P c_m81 c_x81 = true := by decide +kernel
theorem c_ok82 : c_okM c_P c_m82 c_x82 = true := by decide +kernel
end
section
set_option maxRecDepth 100000
def c_j83_0 : List (Nat × c_I) := [(0, .new 10, 10, 0, 0), (3, .dup, 0, 0, 0), (4, .invokespecial 59, 0, 0, 4), (7, .astore_n 1, 0, 0, 0), (8, .iconst 1, 0, 0, 0), (9, .aload_n 0, 0, 0, 0), (10, .iconst 0, 0, 0, 0), (11, .bipush (24), 0, 0, 0), (13, .invokestatic 60, 78, 3, 0), (16, .iadd, 0, 0, 0), (17, .istore_n 2, 0, 0, 0), (18, .aload_n 0, 0, 0, 0), (19, .iconst 1, 0, 0, 0), (20, .iconst 2, 0, 0, 0), (21, .invokestatic 60, 78, 3, 0), (24, .ifCond .ne (7), 31, 0, 0), (27, .iconst 1, 0, 0, 0), (28, .goto (4), 32, 0, 0), (31, .iconst 0, 0, 0, 0), (32, .istore_n 3, 0, 0, 0), (33, .aload_n 1, 0, 0, 0), (34, .bipush (61), 0, 0, 0), (36, .iconst 1, 0, 0, 0), (37, .iconst 0, 0, 0, 0), (38, .invokestatic 64, 69, 4, 0), (41, .ldc 17, 4294067295, 0, 0), (43, .if_icmp .ne (61), 104, 0, 0), (46, .aload_n 1, 0, 0, 0), (47, .iconst 1, 0, 0, 0), (48, .iconst 5, 0, 0, 0), (49, .iconst 0, 0, 0, 0), (50, .invokestatic 64, 69, 4, 0), (53, .ldc 17, 4294067295, 0, 0), (55, .if_icmp .ne (49), 104, 0, 0), (58, .aload_n 1, 0, 0, 0), (59, .iload_n 2, 0, 0, 0), (60, .iconst 1, 0, 0, 0), (61, .iload_n 3, 0, 0, 0), (62, .invokestatic 64, 69, 4, 0), (65, .bipush (10), 0, 0, 0), (67, .if_icmp .ne (37), 104, 0, 0), (70, .aload_n 1, 0, 0, 0), (71, .iload_n 2, 0, 0, 0), (72, .invokestatic 67, 72, 2, 0), (75, .ldc 17, 4294067295, 0, 0), (77, .if_icmp .ne (27), 104, 0, 0), (80, .aload_n 1, 0, 0, 0), (81, .invokestatic 70, 77, 1, 0), (84, .ldc 17, 4294067295, 0, 0), (86, .if_icmp .ne (18), 104, 0, 0), (89, .aload_n 1, 0, 0, 0), (90, .iconst 1, 0, 0, 0), (91, .iconst 0, 0, 0, 0), (92, .invokestatic 73, 76, 3, 0), (95, .ldc 17, 4294067295, 0, 0), (97, .if_icmp .ne (7), 104, 0, 0), (100, .iconst 1, 0, 0, 0), (101, .goto (4), 105, 0, 0), (104, .iconst 0, 0, 0, 0), (105, .istore 4, 0, 0, 0), (107, .iload_n 2, 0, 0, 0), (108, .newarray .int, 0, 0, 0), (110, .astore 5, 0, 0, 0), (112, .iload_n 2, 0, 0, 0), (113, .newarray .int, 0, 0, 0), (115, .astore 6, 0, 0, 0), (117, .iconst 0, 0, 0, 0), (118, .istore 7, 0, 0, 0), (120, .iload 7, 0, 0, 0), (122, .iload_n 2, 0, 0, 0), (123, .if_icmp .ge (158), 281, 0, 0), (126, .aload 5, 0, 0, 0), (128, .iload 7, 0, 0, 0), (130, .aload_n 0, 0, 0, 0), (131, .iconst 2, 0, 0, 0), (132, .iconst 3, 0, 0, 0), (133, .invokestatic 60, 78, 3, 0), (136, .ifCond .ne (18), 154, 0, 0), (139, .iconst 1, 0, 0, 0), (140, .aload_n 0, 0, 0, 0), (141, .bipush (10), 0, 0, 0), (143, .iload 7, 0, 0, 0), (145, .iadd, 0, 0, 0), (146, .iconst 4, 0, 0, 0), (147, .invokestatic 60, 78, 3, 0), (150, .iadd, 0, 0, 0), (151, .goto (4), 155, 0, 0), (154, .iconst 1, 0, 0, 0), (155, .iastore, 0, 0, 0), (156, .aload_n 0, 0, 0, 0), (157, .bipush (40), 0, 0, 0)]
def c_y83_0 : List (List Nat) := [[67, 68, 43], [], [43, 69, 70, 0, 71], [], [], [], [], [], [42, 710, 711, 0, 712], [], [], [], [], [], [42, 710, 711, 0, 712], [], [], [], [], [], [], [], [], [], [42, 456, 457, 0, 458], [541], [], [], [], [], [], [42, 456, 457, 0, 458], [541], [], [], [], [], [], [42, 456, 457, 0, 458], [], [], [], [], [42, 598, 599, 0, 600], [541], [], [], [42, 695, 696, 0, 697], [541], [], [], [], [], [42, 663, 664, 0, 665], [541], [], [], [], [], [], [], [109], [], [], [109], [], [], [], [], [], [], [], [], [], [], [], [42, 710, 711, 0, 712], [], [], [], [], [], [], [], [42, 710, 711, 0, 712], [], [], [], [], [], []]
theorem c_ok83_0 : c_okL c_P c_m83 c_j83_0 c_y83_0 = true := by decide +kernel
def c_j83_1 : List (Nat × c_I) := [(159, .iload 7, 0, 0, 0), (161, .iadd, 0, 0, 0), (162, .iconst 4, 0, 0, 0), (163, .invokestatic 60, 78, 3, 0), (166, .istore 8, 0, 0, 0), (168, .aload 6, 0, 0, 0), (170, .iload 7, 0, 0, 0), (172, .iload 8, 0, 0, 0), (174, .aload 5, 0, 0, 0), (176, .iload 7, 0, 0, 0), (178, .iaload, 0, 0, 0), (179, .if_icmp .le (7), 186, 0, 0), (182, .iconst 0, 0, 0, 0), (183, .goto (7), 190, 0, 0), (186, .iload 8, 0, 0, 0), (188, .iconst 3, 0, 0, 0), (189, .irem, 0, 0, 0), (190, .iastore, 0, 0, 0), (191, .aload 6, 0, 0, 0), (193, .iload 7, 0, 0, 0), (195, .aload 6, 0, 0, 0), (197, .iload 7, 0, 0, 0), (199, .iaload, 0, 0, 0), (200, .aload 5, 0, 0, 0), (202, .iload 7, 0, 0, 0), (204, .iaload, 0, 0, 0), (205, .if_icmp .le (7), 212, 0, 0), (208, .iconst 0, 0, 0, 0), (209, .goto (8), 217, 0, 0), (212, .aload 6, 0, 0, 0), (214, .iload 7, 0, 0, 0), (216, .iaload, 0, 0, 0), (217, .iastore, 0, 0, 0), (218, .iload 4, 0, 0, 0), (220, .aload_n 1, 0, 0, 0), (221, .iload 7, 0, 0, 0), (223, .aload 5, 0, 0, 0), (225, .iload 7, 0, 0, 0), (227, .iaload, 0, 0, 0), (228, .invokestatic 76, 70, 3, 0), (231, .iconst 1, 0, 0, 0), (232, .if_icmp .ne (39), 271, 0, 0), (235, .aload_n 1, 0, 0, 0), (236, .iload 7, 0, 0, 0), (238, .aload 6, 0, 0, 0), (240, .iload 7, 0, 0, 0), (242, .iaload, 0, 0, 0), (243, .invokestatic 78, 71, 3, 0), (246, .ifCond .ne (25), 271, 0, 0), (249, .aload_n 1, 0, 0, 0), (250, .iload 7, 0, 0, 0), (252, .aload 5, 0, 0, 0), (254, .iload 7, 0, 0, 0), (256, .iaload, 0, 0, 0), (257, .iconst 1, 0, 0, 0), (258, .iadd, 0, 0, 0), (259, .invokestatic 78, 71, 3, 0), (262, .ldc 24, 4294067294, 0, 0), (264, .if_icmp .ne (7), 271, 0, 0), (267, .iconst 1, 0, 0, 0), (268, .goto (4), 272, 0, 0), (271, .iconst 0, 0, 0, 0), (272, .iand, 0, 0, 0), (273, .istore 4, 0, 0, 0), (275, .iinc 7 (1), 0, 0, 0), (278, .goto (-158), 120, 0, 0), (281, .bipush (8), 0, 0, 0), (283, .iload_n 2, 0, 0, 0), (284, .multianewarray 80 2, 0, 0, 0), (288, .astore 7, 0, 0, 0), (290, .iconst 0, 0, 0, 0), (291, .istore 8, 0, 0, 0), (293, .iconst 0, 0, 0, 0), (294, .istore 9, 0, 0, 0), (296, .iload 9, 0, 0, 0), (298, .bipush (12), 0, 0, 0), (300, .if_icmp .ge (676), 976, 0, 0), (303, .aload_n 0, 0, 0, 0), (304, .bipush (70), 0, 0, 0), (306, .iload 9, 0, 0, 0), (308, .iadd, 0, 0, 0), (309, .bipush (6), 0, 0, 0), (311, .invokestatic 60, 78, 3, 0), (314, .istore 10, 0, 0, 0), (316, .iconst 1, 0, 0, 0), (317, .aload_n 0, 0, 0, 0), (318, .bipush (90), 0, 0, 0), (320, .iload 9, 0, 0, 0), (322, .iadd, 0, 0, 0), (323, .aload_n 0, 0, 0, 0), (324, .bipush (110), 0, 0, 0)]
def c_y83_1 : List (List Nat) := [[], [], [], [42, 710, 711, 0, 712], [], [], [], [], [], [], [], [], [], [], [], [], [], [], [], [], [], [], [], [], [], [], [], [], [], [], [], [], [], [], [], [], [], [], [], [42, 542, 543, 0, 544], [], [], [], [], [], [], [], [42, 591, 592, 0, 593], [], [], [], [], [], [], [], [], [42, 591, 592, 0, 593], [590], [], [], [], [], [], [], [], [], [], [], [735, 109], [], [], [], [], [], [], [], [], [], [], [], [], [], [42, 710, 711, 0, 712], [], [], [], [], [], [], [], []]
theorem c_ok83_1 : c_okL c_P c_m83 c_j83_1 c_y83_1 = true := by decide +kernel
end
section
set_option maxRecDepth 100000
def c_j83_2 : List (Nat × c_I) := [(326, .iload 9, 0, 0, 0), (328, .iadd, 0, 0, 0), (329, .iconst 2, 0, 0, 0), (330, .invokestatic 60, 78, 3, 0), (333, .ifCond .ne (7), 340, 0, 0), (336, .iconst 4, 0, 0, 0), (337, .goto (5), 342, 0, 0), (340, .bipush (99), 0, 0, 0), (342, .invokestatic 60, 78, 3, 0), (345, .iadd, 0, 0, 0), (346, .istore 11, 0, 0, 0), (348, .iload 10, 0, 0, 0), (350, .iconst 5, 0, 0, 0), (351, .if_icmp .ne (73), 424, 0, 0), (354, .iload 4, 0, 0, 0), (356, .aload_n 1, 0, 0, 0), (357, .invokestatic 70, 77, 1, 0), (360, .iload 8, 0, 0, 0), (362, .ifCond .ne (8), 370, 0, 0), (365, .ldc 17, 4294067295, 0, 0), (367, .goto (7), 374, 0, 0), (370, .iload 8, 0, 0, 0), (372, .iconst 1, 0, 0, 0), (373, .isub, 0, 0, 0), (374, .if_icmp .ne (7), 381, 0, 0), (377, .iconst 1, 0, 0, 0), (378, .goto (4), 382, 0, 0), (381, .iconst 0, 0, 0, 0), (382, .iand, 0, 0, 0), (383, .istore 4, 0, 0, 0), (385, .iload 8, 0, 0, 0), (387, .ifCond .le (368), 755, 0, 0), (390, .iinc 8 (-1), 0, 0, 0), (393, .iconst 0, 0, 0, 0), (394, .istore 12, 0, 0, 0), (396, .iload 12, 0, 0, 0), (398, .iload_n 2, 0, 0, 0), (399, .if_icmp .ge (22), 421, 0, 0), (402, .aload 6, 0, 0, 0), (404, .iload 12, 0, 0, 0), (406, .aload 7, 0, 0, 0), (408, .iload 8, 0, 0, 0), (410, .aaload, 0, 0, 0), (411, .iload 12, 0, 0, 0), (413, .iaload, 0, 0, 0), (414, .iastore, 0, 0, 0), (415, .iinc 12 (1), 0, 0, 0), (418, .goto (-22), 396, 0, 0), (421, .goto (334), 755, 0, 0), (424, .iload 10, 0, 0, 0), (426, .iconst 4, 0, 0, 0), (427, .if_icmp .ne (7), 434, 0, 0), (430, .iconst 1, 0, 0, 0), (431, .goto (4), 435, 0, 0), (434, .iconst 0, 0, 0, 0), (435, .istore 12, 0, 0, 0), (437, .iconst 0, 0, 0, 0), (438, .istore 13, 0, 0, 0), (440, .iconst 0, 0, 0, 0), (441, .istore 14, 0, 0, 0), (443, .iconst 0, 0, 0, 0), (444, .istore 15, 0, 0, 0), (446, .iload_n 2, 0, 0, 0), (447, .newarray .int, 0, 0, 0), (449, .astore 16, 0, 0, 0), (451, .iload_n 3, 0, 0, 0), (452, .ifCond .eq (7), 459, 0, 0), (455, .iconst 0, 0, 0, 0), (456, .goto (4), 460, 0, 0), (459, .iconst 1, 0, 0, 0), (460, .istore 17, 0, 0, 0), (462, .iload 17, 0, 0, 0), (464, .iconst 2, 0, 0, 0), (465, .if_icmp .ge (161), 626, 0, 0), (468, .iload 17, 0, 0, 0), (470, .iconst 1, 0, 0, 0), (471, .if_icmp .ne (12), 483, 0, 0), (474, .iload_n 3, 0, 0, 0), (475, .ifCond .eq (8), 483, 0, 0), (478, .iload 15, 0, 0, 0), (480, .goto (4), 484, 0, 0), (483, .iconst 0, 0, 0, 0), (484, .istore 13, 0, 0, 0), (486, .iload 13, 0, 0, 0), (488, .istore 18, 0, 0, 0), (490, .iload 18, 0, 0, 0), (492, .istore 14, 0, 0, 0), (494, .iconst 0, 0, 0, 0), (495, .istore 19, 0, 0, 0), (497, .iload 19, 0, 0, 0), (499, .iload_n 2, 0, 0, 0)]
def c_y83_2 : List (List Nat) := [[], [], [], [42, 710, 711, 0, 712], [], [], [], [], [42, 710, 711, 0, 712], [], [], [], [], [], [], [], [42, 695, 696, 0, 697], [], [], [541], [], [], [], [], [], [], [], [], [], [], [], [], [], [], [], [], [], [], [], [], [], [], [], [], [], [], [], [], [], [], [], [], [], [], [], [], [], [], [], [], [], [], [], [109], [], [], [], [], [], [], [], [], [], [], [], [], [], [], [], [], [], [], [], [], [], [], [], [], [], [], []]
theorem c_ok83_2 : c_okL c_P c_m83 c_j83_2 c_y83_2 = true := by decide +kernel
def c_j83_3 : List (Nat × c_I) := [(500, .if_icmp .ge (116), 616, 0, 0), (503, .iload 12, 0, 0, 0), (505, .ifCond .eq (12), 517, 0, 0), (508, .iload_n 2, 0, 0, 0), (509, .iconst 1, 0, 0, 0), (510, .isub, 0, 0, 0), (511, .iload 19, 0, 0, 0), (513, .isub, 0, 0, 0), (514, .goto (5), 519, 0, 0), (517, .iload 19, 0, 0, 0), (519, .istore 20, 0, 0, 0), (521, .aload 5, 0, 0, 0), (523, .iload 20, 0, 0, 0), (525, .iaload, 0, 0, 0), (526, .aload 6, 0, 0, 0), (528, .iload 20, 0, 0, 0), (530, .iaload, 0, 0, 0), (531, .isub, 0, 0, 0), (532, .istore 21, 0, 0, 0), (534, .iload 18, 0, 0, 0), (536, .aload 6, 0, 0, 0), (538, .iload 20, 0, 0, 0), (540, .iaload, 0, 0, 0), (541, .iadd, 0, 0, 0), (542, .iload 11, 0, 0, 0), (544, .isub, 0, 0, 0), (545, .istore 22, 0, 0, 0), (547, .aload 16, 0, 0, 0), (549, .iload 20, 0, 0, 0), (551, .iload 18, 0, 0, 0), (553, .iload 21, 0, 0, 0), (555, .if_icmp .ge (8), 563, 0, 0), (558, .iload 18, 0, 0, 0), (560, .goto (5), 565, 0, 0), (563, .iload 21, 0, 0, 0), (565, .iload 22, 0, 0, 0), (567, .ifCond .le (8), 575, 0, 0), (570, .iload 22, 0, 0, 0), (572, .goto (4), 576, 0, 0), (575, .iconst 0, 0, 0, 0), (576, .iadd, 0, 0, 0), (577, .iastore, 0, 0, 0), (578, .iload 18, 0, 0, 0), (580, .aload 6, 0, 0, 0), (582, .iload 20, 0, 0, 0), (584, .iaload, 0, 0, 0), (585, .aload 16, 0, 0, 0), (587, .iload 20, 0, 0, 0), (589, .iaload, 0, 0, 0), (590, .isub, 0, 0, 0), (591, .iadd, 0, 0, 0), (592, .istore 18, 0, 0, 0), (594, .iload 18, 0, 0, 0), (596, .iload 14, 0, 0, 0), (598, .if_icmp .le (8), 606, 0, 0), (601, .iload 18, 0, 0, 0), (603, .goto (5), 608, 0, 0), (606, .iload 14, 0, 0, 0), (608, .istore 14, 0, 0, 0), (610, .iinc 19 (1), 0, 0, 0), (613, .goto (-116), 497, 0, 0), (616, .iload 18, 0, 0, 0), (618, .istore 15, 0, 0, 0), (620, .iinc 17 (1), 0, 0, 0), (623, .goto (-161), 462, 0, 0), (626, .iload 15, 0, 0, 0), (628, .iload 13, 0, 0, 0), (630, .if_icmp .ne (7), 637, 0, 0), (633, .iconst 1, 0, 0, 0), (634, .goto (4), 638, 0, 0), (637, .iconst 0, 0, 0, 0), (638, .istore 17, 0, 0, 0), (640, .iload 4, 0, 0, 0), (642, .iload 12, 0, 0, 0), (644, .ifCond .eq (12), 656, 0, 0), (647, .aload_n 1, 0, 0, 0), (648, .iload 11, 0, 0, 0), (650, .invokestatic 82, 74, 2, 0), (653, .goto (9), 662, 0, 0), (656, .aload_n 1, 0, 0, 0), (657, .iload 11, 0, 0, 0), (659, .invokestatic 84, 73, 2, 0), (662, .iload 17, 0, 0, 0), (664, .ifCond .eq (8), 672, 0, 0), (667, .iload 14, 0, 0, 0), (669, .goto (5), 674, 0, 0), (672, .ldc 24, 4294067294, 0, 0), (674, .if_icmp .ne (7), 681, 0, 0), (677, .iconst 1, 0, 0, 0), (678, .goto (4), 682, 0, 0), (681, .iconst 0, 0, 0, 0)]
def c_y83_3 : List (List Nat) := [[], [], [], [], [], [], [], [], [], [], [], [], [], [], [], [], [], [], [], [], [], [], [], [], [], [], [], [], [], [], [], [], [], [], [], [], [], [], [], [], [], [], [], [], [], [], [], [], [], [], [], [], [], [], [], [], [], [], [], [], [], [], [], [], [], [], [], [], [], [], [], [], [], [], [], [], [], [42, 649, 650, 0, 651], [], [], [], [42, 605, 606, 0, 607], [], [], [], [], [590], [], [], [], []]
theorem c_ok83_3 : c_okL c_P c_m83 c_j83_3 c_y83_3 = true := by decide +kernel
end
section
set_option maxRecDepth 100000
def c_j83_4 : List (Nat × c_I) := [(682, .iand, 0, 0, 0), (683, .istore 4, 0, 0, 0), (685, .iload 17, 0, 0, 0), (687, .ifCond .eq (68), 755, 0, 0), (690, .iload 8, 0, 0, 0), (692, .bipush (8), 0, 0, 0), (694, .if_icmp .ne (41), 735, 0, 0), (697, .iconst 0, 0, 0, 0), (698, .istore 18, 0, 0, 0), (700, .iload 18, 0, 0, 0), (702, .bipush (7), 0, 0, 0), (704, .if_icmp .ge (27), 731, 0, 0), (707, .aload 7, 0, 0, 0), (709, .iload 18, 0, 0, 0), (711, .aload 7, 0, 0, 0), (713, .iload 18, 0, 0, 0), (715, .iconst 1, 0, 0, 0), (716, .iadd, 0, 0, 0), (717, .aaload, 0, 0, 0), (718, .invokevirtual 86, 0, 0, 9), (721, .checkcast 87, 0, 0, 0), (724, .aastore, 0, 0, 0), (725, .iinc 18 (1), 0, 0, 0), (728, .goto (-28), 700, 0, 0), (731, .bipush (7), 0, 0, 0), (733, .istore 8, 0, 0, 0), (735, .aload 7, 0, 0, 0), (737, .iload 8, 0, 0, 0), (739, .aload 6, 0, 0, 0), (741, .invokevirtual 86, 0, 0, 9), (744, .checkcast 87, 0, 0, 0), (747, .aastore, 0, 0, 0), (748, .iinc 8 (1), 0, 0, 0), (751, .aload 16, 0, 0, 0), (753, .astore 6, 0, 0, 0), (755, .iconst 0, 0, 0, 0), (756, .istore 12, 0, 0, 0), (758, .iconst 0, 0, 0, 0), (759, .istore 13, 0, 0, 0), (761, .iconst 0, 0, 0, 0), (762, .istore 14, 0, 0, 0), (764, .iload 14, 0, 0, 0), (766, .iload_n 2, 0, 0, 0), (767, .if_icmp .ge (61), 828, 0, 0), (770, .iload 4, 0, 0, 0), (772, .aload_n 1, 0, 0, 0), (773, .iload 14, 0, 0, 0), (775, .invokestatic 67, 72, 2, 0), (778, .aload 6, 0, 0, 0), (780, .iload 14, 0, 0, 0), (782, .iaload, 0, 0, 0), (783, .if_icmp .ne (7), 790, 0, 0), (786, .iconst 1, 0, 0, 0), (787, .goto (4), 791, 0, 0), (790, .iconst 0, 0, 0, 0), (791, .iand, 0, 0, 0), (792, .istore 4, 0, 0, 0), (794, .iload 12, 0, 0, 0), (796, .aload 6, 0, 0, 0), (798, .iload 14, 0, 0, 0), (800, .iaload, 0, 0, 0), (801, .iadd, 0, 0, 0), (802, .istore 12, 0, 0, 0), (804, .iload 13, 0, 0, 0), (806, .aload 6, 0, 0, 0), (808, .iload 14, 0, 0, 0), (810, .iaload, 0, 0, 0), (811, .ifCond .le (7), 818, 0, 0), (814, .iconst 1, 0, 0, 0), (815, .goto (4), 819, 0, 0), (818, .iconst 0, 0, 0, 0), (819, .iadd, 0, 0, 0), (820, .istore 13, 0, 0, 0), (822, .iinc 14 (1), 0, 0, 0), (825, .goto (-61), 764, 0, 0), (828, .iload 4, 0, 0, 0), (830, .aload_n 1, 0, 0, 0), (831, .invokevirtual 92, 5, 0, 2), (834, .iload 12, 0, 0, 0), (836, .if_icmp .ne (57), 893, 0, 0), (839, .aload_n 1, 0, 0, 0), (840, .invokevirtual 95, 9, 0, 2), (843, .iload 8, 0, 0, 0), (845, .if_icmp .ne (48), 893, 0, 0), (848, .aload_n 1, 0, 0, 0), (849, .invokevirtual 98, 12, 0, 2), (852, .iload 13, 0, 0, 0), (854, .i2f, 0, 0, 0), (855, .iload_n 2, 0, 0, 0), (856, .i2f, 0, 0, 0), (857, .fdiv, 0, 0, 0)]
def c_y83_4 : List (List Nat) := [[], [], [], [], [], [], [], [], [], [], [], [], [], [], [], [], [], [], [], [729, 730, 731, 732, 733, 734], [736], [], [], [], [], [], [], [], [], [729, 730, 731, 732, 733, 734], [736], [], [], [], [], [], [], [], [], [], [], [], [], [], [], [], [], [42, 598, 599, 0, 600], [], [], [], [], [], [], [], [], [], [], [], [], [], [], [], [], [], [], [], [], [], [], [], [], [], [], [], [], [], [43, 297, 298, 299, 300], [], [], [], [43, 305, 306, 307, 308], [], [], [], [43, 309, 310, 311, 312], [], [], [], [], []]
theorem c_ok83_4 : c_okL c_P c_m83 c_j83_4 c_y83_4 = true := by decide +kernel
def c_j83_5 : List (Nat × c_I) := [(858, .invokestatic 101, 79, 1, 0), (861, .if_icmp .ne (32), 893, 0, 0), (864, .aload_n 1, 0, 0, 0), (865, .iload 8, 0, 0, 0), (867, .iconst 1, 0, 0, 0), (868, .iadd, 0, 0, 0), (869, .iconst 0, 0, 0, 0), (870, .invokestatic 73, 76, 3, 0), (873, .ldc 17, 4294067295, 0, 0), (875, .if_icmp .ne (18), 893, 0, 0), (878, .aload_n 1, 0, 0, 0), (879, .iconst 0, 0, 0, 0), (880, .iconst 0, 0, 0, 0), (881, .invokestatic 73, 76, 3, 0), (884, .ldc 17, 4294067295, 0, 0), (886, .if_icmp .ne (7), 893, 0, 0), (889, .iconst 1, 0, 0, 0), (890, .goto (4), 894, 0, 0), (893, .iconst 0, 0, 0, 0), (894, .iand, 0, 0, 0), (895, .istore 4, 0, 0, 0), (897, .iconst 1, 0, 0, 0), (898, .istore 14, 0, 0, 0), (900, .iload 14, 0, 0, 0), (902, .iload 8, 0, 0, 0), (904, .if_icmp .gt (66), 970, 0, 0), (907, .aload_n 0, 0, 0, 0), (908, .sipush (130), 0, 0, 0), (911, .iload 9, 0, 0, 0), (913, .iadd, 0, 0, 0), (914, .iload_n 2, 0, 0, 0), (915, .invokestatic 60, 78, 3, 0), (918, .istore 15, 0, 0, 0), (920, .iload 4, 0, 0, 0), (922, .aload_n 1, 0, 0, 0), (923, .iload 14, 0, 0, 0), (925, .iload 15, 0, 0, 0), (927, .invokestatic 73, 76, 3, 0), (930, .aload 7, 0, 0, 0), (932, .iload 8, 0, 0, 0), (934, .iload 14, 0, 0, 0), (936, .isub, 0, 0, 0), (937, .aaload, 0, 0, 0), (938, .iload 15, 0, 0, 0), (940, .iaload, 0, 0, 0), (941, .if_icmp .ne (19), 960, 0, 0), (944, .aload_n 1, 0, 0, 0), (945, .iload 14, 0, 0, 0), (947, .iload_n 2, 0, 0, 0), (948, .invokestatic 73, 76, 3, 0), (951, .ldc 24, 4294067294, 0, 0), (953, .if_icmp .ne (7), 960, 0, 0), (956, .iconst 1, 0, 0, 0), (957, .goto (4), 961, 0, 0), (960, .iconst 0, 0, 0, 0), (961, .iand, 0, 0, 0), (962, .istore 4, 0, 0, 0), (964, .iinc 14 (1), 0, 0, 0), (967, .goto (-67), 900, 0, 0), (970, .iinc 9 (1), 0, 0, 0), (973, .goto (-677), 296, 0, 0), (976, .iload 4, 0, 0, 0), (978, .ifCond .eq (46), 1024, 0, 0), (981, .aload_n 1, 0, 0, 0), (982, .iconst 0, 0, 0, 0), (983, .invokestatic 84, 73, 2, 0), (986, .ldc 17, 4294067295, 0, 0), (988, .if_icmp .ne (36), 1024, 0, 0), (991, .aload_n 1, 0, 0, 0), (992, .bipush (100), 0, 0, 0), (994, .invokestatic 82, 74, 2, 0), (997, .ldc 17, 4294067295, 0, 0), (999, .if_icmp .ne (25), 1024, 0, 0), (1002, .aload_n 1, 0, 0, 0), (1003, .iconst 0, 0, 0, 0), (1004, .iconst 1, 0, 0, 0), (1005, .invokestatic 107, 75, 3, 0), (1008, .ldc 17, 4294067295, 0, 0), (1010, .if_icmp .ne (14), 1024, 0, 0), (1013, .aload_n 1, 0, 0, 0), (1014, .invokevirtual 109, 13, 0, 2), (1017, .ifCond .eq (7), 1024, 0, 0), (1020, .iconst 1, 0, 0, 0), (1021, .goto (4), 1025, 0, 0), (1024, .iconst 0, 0, 0, 0), (1025, .ireturn, 0, 0, 0)]
def c_y83_5 : List (List Nat) := [[66, 719, 720, 0, 721], [], [], [], [], [], [], [42, 663, 664, 0, 665], [541], [], [], [], [], [42, 663, 664, 0, 665], [541], [], [], [], [], [], [], [], [], [], [], [], [], [], [], [], [], [42, 710, 711, 0, 712], [], [], [], [], [], [42, 663, 664, 0, 665], [], [], [], [], [], [], [], [], [], [], [], [42, 663, 664, 0, 665], [590], [], [], [], [], [], [], [], [], [], [], [], [], [], [], [42, 605, 606, 0, 607], [541], [], [], [], [42, 649, 650, 0, 651], [541], [], [], [], [], [42, 656, 657, 0, 658], [541], [], [], [43, 321, 322, 323, 324], [], [], [], [], []]
theorem c_ok83_5 : c_okL c_P c_m83 c_j83_5 c_y83_5 = true := by decide +kernel
end
section
set_option maxRecDepth 100000
theorem c_i83_e : c_i83 = c_j83_0 ++ (c_j83_1 ++ (c_j83_2 ++ (c_j83_3 ++ (c_j83_4 ++ (c_j83_5))))) := by decide +kernel
theorem c_x83_e : c_x83 = c_y83_0 ++ (c_y83_1 ++ (c_y83_2 ++ (c_y83_3 ++ (c_y83_4 ++ (c_y83_5))))) := by decide +kernel
theorem c_okL_app {P : List c_M} {md : c_M} : ∀ (a b : List (Nat × c_I)) (i j : List (List Nat)), a.length = i.length → c_okL P md a i = true → c_okL P md b j = true → c_okL P md (a ++ b) (i ++ j) = true
  | [], b, [], j, _, _, h2 => h2
  | q :: r, b, x :: i, j, h, h1, h2 => by
    unfold c_okL at h1
    rw [Bool.and_eq_true] at h1
    rw [List.cons_append, List.cons_append]
    unfold c_okL
    rw [Bool.and_eq_true]
    exact ⟨h1.1, c_okL_app r b i j (Nat.succ.inj h) h1.2 h2⟩
  | [], _, _ :: _, _, h, _, _ => by cases h
  | _ :: _, _, [], _, h, _, _ => by cases h
theorem c_ok83_L : c_okL c_P c_m83 c_i83 c_x83 = true := by
  rw [c_i83_e, c_x83_e]
  exact (c_okL_app _ _ _ _ (by decide +kernel) c_ok83_0 (c_okL_app _ _ _ _ (by decide +kernel) c_ok83_1 (c_okL_app _ _ _ _ (by decide +kernel) c_ok83_2 (c_okL_app _ _ _ _ (by decide +kernel) c_ok83_3 (c_okL_app _ _ _ _ (by decide +kernel) c_ok83_4 c_ok83_5)))))
theorem c_ok83_M : plainFor (c_my c_m83) && (c_mx c_m83).all (c_okH c_m83) = true := by decide +kernel
theorem c_ok83 : c_okM c_P c_m83 c_x83 = true := by
  unfold c_okM
  rw [Bool.and_eq_true]
  exact ⟨c_ok83_M, c_ok83_L⟩
end
section
theorem c_okAll : c_okP c_P c_I9
  | 0, md, h => by cases h; exact c_ok0
  | 1, md, h => by cases h; exact c_ok1
  | 2, md, h => by cases h; exact c_ok2
  | 3, md, h => by cases h; exact c_ok3
  | 4, md, h => by cases h; exact c_ok4
  | 5, md, h => by cases h; exact c_ok5
  | 6, md, h => by cases h; exact c_ok6
  | 7, md, h => by cases h; exact c_ok7
  | 8, md, h => by cases h; exact c_ok8
  | 9, md, h => by cases h; exact c_ok9
  | 10, md, h => by cases h; exact c_ok10
  | 11, md, h => by cases h; exact c_ok11
  | 12, md, h => by cases h; exact c_ok12
  | 13, md, h => by cases h; exact c_ok13
  | 14, md, h => by cases h; exact c_ok14
  | 15, md, h => by cases h; exact c_ok15
  | 16, md, h => by cases h; exact c_ok16
  | 17, md, h => by cases h; exact c_ok17
  | 18, md, h => by cases h; exact c_ok18
  | 19, md, h => by cases h; exact c_ok19
  | 20, md, h => by cases h; exact c_ok20
  | 21, md, h => by cases h; exact c_ok21
  | 22, md, h => by cases h; exact c_ok22
  | 23, md, h => by cases h; exact c_ok23
  | 24, md, h => by cases h; exact c_ok24
  | 25, md, h => by cases h; exact c_ok25
  | 26, md, h => by cases h; exact c_ok26
  | 27, md, h => by cases h; exact c_ok27
  | 28, md, h => by cases h; exact c_ok28
  | 29, md, h => by cases h; exact c_ok29
  | 30, md, h => by cases h; exact c_ok30
  | 31, md, h => by cases h; exact c_ok31
  | 32, md, h => by cases h; exact c_ok32
  | 33, md, h => by cases h; exact c_ok33
  | 34, md, h => by cases h; exact c_ok34
  | 35, md, h => by cases h; exact c_ok35
  | 36, md, h => by cases h; exact c_ok36
  | 37, md, h => by cases h; exact c_ok37
  | 38, md, h => by cases h; exact c_ok38
  | 39, md, h => by cases h; exact c_ok39
  | 40, md, h => by cases h; exact c_ok40
  | 41, md, h => by cases h; exact c_ok41
  | 42, md, h => by cases h; exact c_ok42
  | 43, md, h => by cases h; exact c_ok43
  | 44, md, h => by cases h; exact c_ok44
  | 45, md, h => by cases h; exact c_ok45
  | 46, md, h => by cases h; exact c_ok46
  | 47, md, h => by cases h; exact c_ok47
  | 48, md, h => by cases h; exact c_ok48
  | 49, md, h => by cases h; exact c_ok49
  | 50, md, h => by cases h; exact c_ok50
  | 51, md, h => by cases h; exact c_ok51
  | 52, md, h => by cases h; exact c_ok52
  | 53, md, h => by cases h; exact c_ok53
  | 54, md, h => by cases h; exact c_ok54
  | 55, md, h => by cases h; exact c_ok55
  | 56, md, h => by cases h; exact c_ok56
  | 57, md, h => by cases h; exact c_ok57
  | 58, md, h => by cases h; exact c_ok58
  | 59, md, h => by cases h; exact c_ok59
  | 60, md, h => by cases h; exact c_ok60
  | 61, md, h => by cases h; exact c_ok61
  | 62, md, h => by cases h; exact c_ok62
  | 63, md, h => by cases h; exact c_ok63
  | 64, md, h => by cases h; exact c_ok64
  | 65, md, h => by cases h; exact c_ok65
  | 66, md, h => by cases h; exact c_ok66
  | 67, md, h => by cases h; exact c_ok67
  | 68, md, h => by cases h; exact c_ok68
  | 69, md, h => by cases h; exact c_ok69
  | 70, md, h => by cases h; exact c_ok70
  | 71, md, h => by cases h; exact c_ok71
  | 72, md, h => by cases h; exact c_ok72
  | 73, md, h => by cases h; exact c_ok73
  | 74, md, h => by cases h; exact c_ok74
  | 75, md, h => by cases h; exact c_ok75
  | 76, md, h => by cases h; exact c_ok76
  | 77, md, h => by cases h; exact c_ok77
  | 78, md, h => by cases h; exact c_ok78
  | 79, md, h => by cases h; exact c_ok79
  | 80, md, h => by cases h; exact c_ok80
  | 81, md, h => by cases h; exact c_ok81
  | 82, md, h => by cases h; exact c_ok82
  | 83, md, h => by cases h; exact c_ok83
  | k + 84, md, h => by simp [c_P] at h
end
section
/-! THE CLAIM OUT OF ONE WALK OF THE LAW'S BODY. Your part is whole_start (and what it stands on); all else here is the same for every law, but numbers. -/
def R_law : String := "BoxballHallLaw"
def lw_P (b : Addr) (xs : List Int32) (args : Array Value) (s : State) : Prop := args = #[.ref b] ∧ s.IntsAt b xs ∧ xs.length ≤ 260 ∧ (Jvm.Cond.and given_1 narrow_1).before args s = true
/-- what a walk over the start with the record d0 says of its end, said of the start itself -/
theorem lw_closed {s t : State} {o : Outcome} {d0 : Drawn} {L : List Loc} {k n : Nat} (hd0 : s.drawn.sameBut d0 lw_cs) (hv : ∃ v, o = .returned v) (hW : (s.setDrawn d0).WarmedH t.vm) (hs : (s.setDrawn d0).sameButNew ({ t with vm := s.vm } : State) L k n) : State.butDraws s t lw_cs (fun t1 => Framed s o t1 L k n) := by
  have h2 : t.drawn = d0 := congrArg State.drawn hs.1
  refine ⟨⟨hv, hW, State.sameButNew.setDrawn hs s.drawn⟩, ?_, by decide⟩
  rw [h2]
  exact hd0
def lw_Q (_ : Array Value) (s : State) (o : Outcome) (t : State) : Prop := o = .returned (some (.int 1)) ∧ State.butDraws s t lw_cs (fun t1 => Framed s o t1 [] 600258 7292778)
def lw_Z (below : List Frame) (a : Array Value) (s : State) : State → Prop := fun t => ∃ o, t.status = .running ∧ Ended t below o ∧ lw_Q a s o t
/-- the law's own end, with 1 on the stack, nothing written that was there before, its room as the claim has it; d0: the record of draws at this point (at the entry s.drawn: begin with 'refine W.base ?_' and 'have hd0 := Drawn.sameBut.refl s.drawn lw_cs') -/
theorem lw_ret {p : Program} {l : Launch} {e : Env} {s : State} {m : MethodId} {below : List Frame} {meth : Method} {c : Code} {b : Nat} {d0 : Drawn} (hd0 : s.drawn.sameBut d0 lw_cs) (hx : p.tables.exec = Jvm.exec) (hb : c.code = code) (hr : meth.sig.returnType = ret) (hlocks : meth.locks = false) {pc : Nat} {H : Heap} {ls : Array Slot} (hdg : decode code pc = .ok (.ireturn, 1)) : W p l e room_1 (s.setDrawn d0) m #[Value.ref b] below meth c H [] 600258 7292778 (lw_Z below #[Value.ref b] s) (F0 m pc ls [.int 1]) := by
  intro T hT X
  obtain ⟨fs, hret, hrun, hended, hW, hframe⟩ := X.leave (v := some (.int 1)) (hlocks := hlocks) (fun h => by rw [hr] at h; cases h)
  have hmeth' : T.vm.method? m = some meth := X.method'
  refine ⟨T.setFrames fs, ?_, .returned (some (.int 1)), hrun, hended, rfl, lw_closed hd0 ⟨_, rfl⟩ hW hframe⟩
  jvm_step X.here [X.here.top, hx, hb, hdg, hmeth', hr, ret, narrow_b1]
  (try refine ⟨rfl, ?_⟩); (try refine ⟨rfl, ?_⟩)
  first | (intro acts; rw [hret _ acts rfl rfl rfl]) | rw [hret _ _ rfl rfl rfl]
  exact Steps.refl _
/-- what holds at the law's entry: the machine, the code, the tables' words (any of lw_tbl by 'hts w (by decide +kernel)'), the script of L ints xs at the cell b, what the Statement gives of the start (any of its parts by flat_of_before) -/
def lw_At (p : Program) (s : State) (m : MethodId) (meth : Method) (c : Code) (b L : Nat) (xs : Nat → Int32) : Prop :=
  p.tables.exec = Jvm.exec ∧ c.code = code ∧ meth.sig.returnType = ret ∧ c.maxLocals = 23 ∧ s.vm.findClass R_law = some m.cls ∧ (∀ w ∈ lw_tbl, w.before #[Value.ref b] s = true) ∧ va_X b L xs s s.heap ∧ b < s.heap.size ∧ meth.locks = false ∧ (Jvm.Cond.and given_1 narrow_1).before #[Value.ref b] s = true

/-- what is to be shown of the small machine: on every script the law comes to 1, within the room -/
def c_Pure : Prop := ∀ X : List Int32, X.length ≤ 260 → ∃ (n : Nat) (h : c_Hp), c_go c_P c_ty c_nf X n 83 0 (c_ent [.retAddr 0] 23) [] [] = some (.inl (some (.int 1)), h) ∧ h.length ≤ 600258 ∧ c_msz h ≤ 7292778
set_option maxRecDepth 100000 in
theorem c_inst : ∀ (k : Nat) (q : vw_C), c_cl[k]? = some q → Cond.instantiable q.1 q.2.2 ∈ lw_tbl
  | 0, q, h => by cases h; decide +kernel
  | 1, q, h => by cases h; decide +kernel
  | 2, q, h => by cases h; decide +kernel
  | 3, q, h => by cases h; decide +kernel
  | 4, q, h => by cases h; decide +kernel
  | 5, q, h => by cases h; decide +kernel
  | 6, q, h => by cases h; decide +kernel
  | 7, q, h => by cases h; decide +kernel
  | 8, q, h => by cases h; decide +kernel
  | 9, q, h => by cases h; decide +kernel
  | 10, q, h => by cases h; decide +kernel
  | k + 11, q, h => by simp [c_cl] at h
theorem c_arr {s : State} {c : ClassId} {k : Class} {comp : ClassId} {ty : FieldType} (hk : s.vm.classes[c]? = some k) (hd : k.kind = .array comp ty) : ArrOfT s c ty := by
  intro n z
  simp [State.isArrayOf, arrV, hk, hd]
set_option maxRecDepth 100000 in
theorem c_strs : lw_tbl.all (fun w => match w with
  | .stringRef o i _ => decide ((Cond.exactly (.string o i) "java/lang/String") ∈ flatC (Jvm.Cond.and given_1 narrow_1))
  | _ => true) = true := by decide +kernel
set_option maxRecDepth 100000 in
theorem c_ncs : c_NC.all (fun q => decide ((Cond.not (.castable q.1 q.2)) ∈ flatC (Jvm.Cond.and given_1 narrow_1))) = true := by decide +kernel
set_option maxRecDepth 100000 in
theorem c_at_i : Cond.arrayClass .int ∈ lw_tbl := by decide +kernel
set_option maxRecDepth 100000 in
theorem c_at_l : Cond.arrayClass .long ∈ lw_tbl := by decide +kernel
set_option maxRecDepth 100000 in
theorem c_at_ii : Cond.arrayOver (.array .int) ∈ lw_tbl := by decide +kernel
set_option maxRecDepth 100000 in
theorem c_st_w : Cond.laysStatic Bundle.tN "UNASSIGNED_STACK" Bundle.steD ∈ lw_tbl ∧ Cond.laysStatic Bundle.tN "SUPPRESSED_SENTINEL" Bundle.listD ∈ lw_tbl ∧ Cond.initialized Bundle.tN ∈ lw_tbl := by decide +kernel
set_option maxRecDepth 100000 in
theorem c_st_r : Cond.isRef (.static Bundle.tN "UNASSIGNED_STACK" Bundle.steD) ∈ flatC (Jvm.Cond.and given_1 narrow_1) ∧ Cond.isRef (.static Bundle.tN "SUPPRESSED_SENTINEL" Bundle.listD) ∈ flatC (Jvm.Cond.and given_1 narrow_1) := by decide +kernel
/-- what is so at the law's entry -/
theorem c_fac0 {s : State} {b : Nat} (hts : ∀ w ∈ lw_tbl, w.before #[Value.ref b] s = true) (hgv : (Jvm.Cond.and given_1 narrow_1).before #[Value.ref b] s = true) : ∃ (D : va_G) (A : Nat → ClassId), c_Fac D A s := by
  have hs := flat_of_before _ hgv
  have h0 : ∀ k : Nat, ∃ q : ClassId × (Nat → Nat), ∀ r : vw_C, c_cl[k]? = some r → u_Kn s r.1 r.2.1 r.2.2 q.1 q.2 := by
    intro k
    cases hk : c_cl[k]? with
    | none => exact ⟨(0, fun _ => 0), fun r h => by cases h⟩
    | some r =>
      obtain ⟨cC, iS, h⟩ := u_known (C := r.1) (T := r.2.1) (N := r.2.2) (n := r.2.2) hts (c_cl_ok k r hk).1 (hts _ (c_inst k r hk))
      exact ⟨(cC, iS), fun r2 h2 => by cases h2; exact h⟩
  obtain ⟨d, hd⟩ := Classical.axiomOfChoice h0
  obtain ⟨ci, ki, coi, fi, gi, di⟩ := Cond.arrayClass_spec (first := s) (o := none) (idx := []) (hts _ c_at_i)
  obtain ⟨cl, kl, col, fl, gl, dl⟩ := Cond.arrayClass_spec (first := s) (o := none) (idx := []) (hts _ c_at_l)
  obtain ⟨comp, c2, k2, f1, g2, d2, f2⟩ := Cond.arrayOver_specA (first := s) (o := none) (idx := []) (hts _ c_at_ii)
  refine ⟨(fun k => (d k).1, fun k => (d k).2), fun t => if t = 0 then ci else if t = 1 then cl else c2, ⟨fun k q h => hd k q h, fun k q h => by simp at h⟩, ?_, ?_, ?_, ?_, ?_⟩
  · intro t ht
    rcases (show t = 0 ∨ t = 1 ∨ t = 2 by omega) with rfl | rfl | rfl
    · exact ⟨c_arr gi di, fi⟩
    · exact ⟨c_arr gl dl, fl⟩
    · exact ⟨c_arr g2 d2, f2⟩
  · intro w hw hn
    exact va_Nw.of (c_ng_on hn) (hts w hw)
  · intro own k tx hk
    have h1 := List.all_eq_true.mp c_strs _ hk
    simp only [decide_eq_true_eq] at h1
    obtain ⟨a, c, cA, kA, q1, -⟩ := Cond.exactly_spec (args := #[Value.ref b]) (first := s) (o := none) (s := s) (idx := []) (t := .string own k) (cls := "java/lang/String") (hs _ h1)
    exact ⟨a, vk_R.of (hts _ hk) q1⟩
  · intro q hq
    have h1 := List.all_eq_true.mp c_ncs q hq
    simp only [decide_eq_true_eq] at h1
    exact va_Nc.of (hs _ h1)
  · have h1 := hts _ c_at_ii
    simp only [Cond.before, Cond.holds, Cond.value] at h1 ⊢
    exact h1
set_option maxHeartbeats 1000000 in
theorem c_start (hpure : c_Pure) {p : Program} {e : Env} {s : State} {m : MethodId} {below : List Frame} {meth : Method} {c : Code} (l : Launch) (hflags : l.flags = flags0) {b L : Nat} {xs : Nat → Int32} (hL : L ≤ 260) (C0 : lw_At p s m meth c b L xs) : W p l e room_1 s m #[Value.ref b] below meth c s.heap [] 0 0 (lw_Z below #[Value.ref b] s) (entryFrame m ([Value.ref b] : List Value).toArray 23) := by
  obtain ⟨hx, hb, hr, hml, hown, hts, hX, hbl, hlocks, hgv⟩ := id C0
  have hs := flat_of_before _ hgv
  have hl : l.stackTraces = false := by unfold Launch.stackTraces; rw [hflags]; decide +kernel
  obtain ⟨X, hXl, hXg⟩ : ∃ X : List Int32, X.length = L ∧ ∀ j, j < L → X.getD j 0 = xs j := ⟨(List.range L).map xs, by simp, fun j hj => by simp [List.getD, hj]⟩
  obtain ⟨n, h, hgo, hb1, hb2⟩ := hpure X (by omega)
  obtain ⟨D, A, hF⟩ := c_fac0 hts hgv
  have hA : ∀ a : Nat, a < s.heap.size → ¬ s.heap.size ≤ a := fun a ha => Nat.not_le.mpr ha
  have hU := vx_Zqof (A := fun q => s.heap.size ≤ q) (hts _ c_st_w.1) (hts _ c_st_w.2.2) (hs _ c_st_r.1) hA
  have hN := vx_Zqof (A := fun q => s.heap.size ≤ q) (hts _ c_st_w.2.1) (hts _ c_st_w.2.2) (hs _ c_st_r.2) hA
  have hX2 : va_X b X.length (fun j => X.getD j 0) s s.heap := by
    obtain ⟨scr, x1, x2, x3, x4, x5⟩ := hX
    exact ⟨scr, x1, x2, x3, by rw [x4, hXl], fun j hj => by rw [x5 j (by omega)]; show _ = some (Value.int (X.getD j 0)); rw [hXg j (by omega)]⟩
  have hent : (c_ent [Value.retAddr 0] 23).length = 23 := by decide +kernel
  have hLR := c_ent_LR (base := s.heap.size) (b := b) hent
  rw [lg_entry_eq]
  have hd0 := Drawn.sameBut.refl s.drawn lw_cs
  refine W.base ?_
  have K := c_sim (D := D) (A := A) (H0 := s.heap) (base := s.heap.size) (b := b) (X := X) hl c_okAll n 83 c_m83 0 (c_ent [.retAddr 0] 23) [] [] _ rfl hgo p e room_1 s m #[Value.ref b] below meth c (lw_Z below #[Value.ref b] s) 0 0
    ⟨hx, hb, hml, hown, fun w hw _ => hts w hw, hF, hlocks, fun h => absurd h (by decide), by decide, by decide, hl, ⟨hX2, hbl⟩, hU, hN⟩ (Or.inl rfl)
    (by
      intro v hv pc H locs cells slots ls hcase hHR hlo hc hsl
      cases hv
      refine W.widen (k := 600258) (n := 7292778) (by simp only at hc; omega) (by simp only at hsl; omega) ?_
      refine va_forget hlo ?_
      rcases hcase with ⟨x, t, -, hdg, -⟩ | ⟨h9, -⟩
      · exact lw_ret hd0 hx hb hr hlocks hdg
      · cases h9)
    (by intro E h9 he; cases he)
    (by intro E he; cases he)
    (by show h.length ≤ 0 + 600258; omega) (by show c_msz h ≤ 0 + 7292778; omega)
  exact K s.heap [] 0 0 _ ⟨rfl, rfl, fun _ _ => rfl, fun i x h => by simp at h⟩ hLR (fun z hz => by cases hz) rfl rfl
end
section
/-! Rows of boxes that hold one ball: a list, true where a ball lies, endlessly many empty boxes behind it. -/
/-- a step of a carrier without bound that comes with c balls -/
def b_T : Nat → List Bool → List Bool
  | c, [] => List.replicate c true
  | c, true :: w => false :: b_T (c + 1) w
  | 0, false :: w => false :: b_T 0 w
  | c + 1, false :: w => true :: b_T c w
/-- the balls' places, the first box being o -/
def b_pos : Nat → List Bool → List Nat
  | _, [] => []
  | o, true :: w => o :: b_pos (o + 1) w
  | o, false :: w => b_pos (o + 1) w
/-- a round: each ball with an empty box behind it goes, with that box -/
def b_red : List Bool → List Bool
  | [] => []
  | [x] => [x]
  | true :: false :: t => b_red t
  | false :: y :: t => false :: b_red (y :: t)
  | true :: true :: t => true :: b_red (true :: t)
/-- the pairs of a round -/
def b_cnt : List Bool → Nat
  | [] => 0
  | [_] => 0
  | true :: false :: t => b_cnt t + 1
  | false :: y :: t => b_cnt (y :: t)
  | true :: true :: t => b_cnt (true :: t)
/-- the load behind a row, of a carrier without bound -/
def b_L : Nat → List Bool → Nat
  | c, [] => c
  | c, true :: w => b_L (c + 1) w
  | c, false :: w => b_L (c - 1) w
/-- falls from a ball to an empty box, the box ahead being p -/
def b_desc : Bool → List Bool → Nat
  | _, [] => 0
  | p, x :: t => (if p && !x then 1 else 0) + b_desc x t
def b_ok (w : List Bool) : Prop := w.getLast? ≠ some true
theorem b_ok_tail {x y : Bool} {t : List Bool} (h : b_ok (x :: y :: t)) : b_ok (y :: t) := by
  unfold b_ok at h ⊢
  rw [List.getLast?_cons_cons] at h
  exact h
theorem b_ok_tail2 {x y : Bool} {t : List Bool} (h : b_ok (x :: y :: t)) : b_ok t := by
  cases t with
  | nil => simp [b_ok]
  | cons z t => exact b_ok_tail (b_ok_tail h)
theorem b_L_red (w : List Bool) : ∀ c, b_L c (b_red w) = b_L c w := by
  induction w using b_red.induct with
  | case1 => intro c; simp [b_red]
  | case2 x => intro c; simp [b_red]
  | case3 t ih => intro c; simp [b_red, b_L, ih]
  | case4 y t ih => intro c; rw [b_red, b_L, ih, b_L]
  | case5 t ih => intro c; simp only [b_red, b_L, ih]
theorem b_L_ok : ∀ (w : List Bool) (c : Nat), b_L c w = 0 → b_ok w
  | [], _, _ => by simp [b_ok]
  | [x], c, h => by
    cases x
    · simp [b_ok]
    · simp [b_L] at h
  | x :: y :: t, c, h => by
    unfold b_ok
    rw [List.getLast?_cons_cons]
    cases x
    · exact b_L_ok (y :: t) (c - 1) (by rw [b_L] at h; exact h)
    · exact b_L_ok (y :: t) (c + 1) (by rw [b_L] at h; exact h)
theorem b_cnt_desc (w : List Bool) : b_cnt w = b_desc false w := by
  induction w using b_cnt.induct with
  | case1 => simp [b_cnt, b_desc]
  | case2 x => simp [b_cnt, b_desc]
  | case3 t ih => simp [b_cnt, b_desc, ih]; omega
  | case4 y t ih => rw [b_cnt, ih]; simp [b_desc]
  | case5 t ih => rw [b_cnt, ih]; simp [b_desc]
theorem b_red_len (w : List Bool) : (b_red w).length + 2 * b_cnt w = w.length := by
  induction w using b_red.induct with
  | case1 => simp [b_red, b_cnt]
  | case2 x => simp [b_red, b_cnt]
  | case3 t ih => simp [b_red, b_cnt]; omega
  | case4 y t ih => rw [b_red, b_cnt]; simp only [List.length_cons] at ih ⊢; omega
  | case5 t ih => rw [b_red, b_cnt]; simp only [List.length_cons] at ih ⊢; omega
theorem b_desc_true : ∀ (w : List Bool), b_desc true w = 0 → ∀ x ∈ w, x = true
  | [], _, x, hx => by cases hx
  | y :: t, h, x, hx => by
    cases y
    · simp [b_desc] at h
    · simp [b_desc] at h
      rcases List.mem_cons.mp hx with e | e
      · exact e
      · exact b_desc_true t h x e
theorem b_none : ∀ (w : List Bool), b_desc false w = 0 → b_ok w → ∀ x ∈ w, x = false
  | [], _, _, x, hx => by cases hx
  | false :: t, h, hk, x, hx => by
    rcases List.mem_cons.mp hx with e | e
    · exact e
    · have h2 : b_desc false t = 0 := by simpa [b_desc] using h
      refine b_none t h2 ?_ x e
      cases t with
      | nil => simp [b_ok]
      | cons y t => exact b_ok_tail hk
  | true :: t, h, hk, x, hx => by
    exfalso
    have h2 : b_desc true t = 0 := by simpa [b_desc] using h
    have h3 := b_desc_true t h2
    apply hk
    cases hl : (true :: t).getLast? with
    | none => simp at hl
    | some y =>
      have hm := List.mem_of_getLast? hl
      rcases List.mem_cons.mp hm with e | e
      · rw [e]
      · rw [h3 y e]
theorem b_pos_none : ∀ (w : List Bool) (o : Nat), (∀ x ∈ w, x = false) → b_pos o w = []
  | [], _, _ => rfl
  | x :: t, o, h => by
    have e := h x List.mem_cons_self
    subst e
    rw [b_pos]
    exact b_pos_none t _ (fun y hy => h y (List.mem_cons_of_mem _ hy))
/-! ### marks: a word that a round gives, with the pairs that went, told by their places -/
def b_P : Nat → List Bool
  | 0 => []
  | k + 1 => true :: false :: b_P k
theorem b_P_succ : ∀ k, b_P (k + 1) = b_P k ++ [true, false]
  | 0 => rfl
  | k + 1 => by
    show true :: false :: b_P (k + 1) = (true :: false :: b_P k) ++ [true, false]
    rw [b_P_succ k]
    rfl
/-- the word: pairs at their places, and one more at the end of each run -/
def b_B : Bool → List (Nat × Bool) → List Bool
  | p, [] => if p then [true, false] else []
  | p, q :: d => b_P (q.1 + if p && !q.2 then 1 else 0) ++ q.2 :: b_B q.2 d
def b_dec : Bool → Nat → List Bool → List (Nat × Bool)
  | p, k, [] => [(k - (if p then 1 else 0), false)]
  | p, k, [x] => [(k - (if p && !x then 1 else 0), x), (0, false)]
  | p, k, true :: false :: t => b_dec p (k + 1) t
  | p, k, false :: y :: t => (k - (if p then 1 else 0), false) :: b_dec false 0 (y :: t)
  | p, k, true :: true :: t => (k, true) :: b_dec true 0 (true :: t)
theorem b_dec_B (w : List Bool) : ∀ (p : Bool) (k : Nat), (p = true → k = 0 → ∃ t, w = true :: t) → b_ok w → b_B p (b_dec p k w) = b_P k ++ w ++ [false] := by
  induction w using b_red.induct with
  | case1 =>
    intro p k h _
    cases p
    · simp [b_dec, b_B]
    · rcases k with _ | k
      · obtain ⟨t, ht⟩ := h rfl rfl
        cases ht
      · simp [b_dec, b_B]
  | case2 x =>
    intro p k h hk
    cases x
    · cases p
      · simp [b_dec, b_B, b_P]
      · rcases k with _ | k
        · obtain ⟨t, ht⟩ := h rfl rfl
          cases ht
        · simp [b_dec, b_B, b_P]
    · exact (hk rfl).elim
  | case3 t ih =>
    intro p k h hk
    rw [b_dec, ih p (k + 1) (fun _ e => by cases e) (b_ok_tail2 hk), b_P_succ]
    simp
  | case4 y t ih =>
    intro p k h hk
    rw [b_dec, b_B]
    simp only
    rw [ih false 0 (fun e => by cases e) (b_ok_tail hk)]
    cases p
    · simp [b_P]
    · rcases k with _ | k
      · obtain ⟨t, ht⟩ := h rfl rfl
        cases ht
      · simp [b_P]
  | case5 t ih =>
    intro p k h hk
    rw [b_dec, b_B]
    simp only
    rw [ih true 0 (fun _ _ => ⟨t, rfl⟩) (b_ok_tail hk)]
    cases p <;> simp [b_P]
theorem b_dec_snd (w : List Bool) : ∀ (p : Bool) (k : Nat), (b_dec p k w).map (·.2) = b_red w ++ [false] := by
  induction w using b_red.induct with
  | case1 => intro p k; simp [b_dec, b_red]
  | case2 x => intro p k; simp [b_dec, b_red]
  | case3 t ih => intro p k; rw [b_dec, ih, b_red]
  | case4 y t ih => intro p k; rw [b_dec, List.map_cons, ih, b_red]; rfl
  | case5 t ih => intro p k; rw [b_dec, List.map_cons, ih, b_red]; rfl
theorem b_dec_sum (w : List Bool) : ∀ (p : Bool) (k : Nat), (p = true → k = 0 → ∃ t, w = true :: t) → b_ok w → ((b_dec p k w).map (·.1)).sum + b_desc p (b_red w ++ [false]) = k + b_cnt w := by
  induction w using b_red.induct with
  | case1 =>
    intro p k h _
    cases p
    · simp [b_dec, b_red, b_desc, b_cnt]
    · rcases k with _ | k
      · obtain ⟨t, ht⟩ := h rfl rfl
        cases ht
      · simp [b_dec, b_red, b_desc, b_cnt]
  | case2 x =>
    intro p k h hk
    cases x
    · cases p
      · simp [b_dec, b_red, b_desc, b_cnt]
      · rcases k with _ | k
        · obtain ⟨t, ht⟩ := h rfl rfl
          cases ht
        · simp [b_dec, b_red, b_desc, b_cnt]
    · exact (hk rfl).elim
  | case3 t ih =>
    intro p k h hk
    rw [b_dec, b_red, b_cnt, ih p (k + 1) (fun _ e => by cases e) (b_ok_tail2 hk)]
    omega
  | case4 y t ih =>
    intro p k h hk
    have h2 := ih false 0 (fun e => by cases e) (b_ok_tail hk)
    rw [b_dec, b_red, b_cnt, List.map_cons, List.sum_cons, List.cons_append, b_desc]
    cases p
    · simp at h2 ⊢; omega
    · rcases k with _ | k
      · obtain ⟨t, ht⟩ := h rfl rfl
        cases ht
      · simp at h2 ⊢; omega
  | case5 t ih =>
    intro p k h hk
    have h2 := ih true 0 (fun _ _ => ⟨t, rfl⟩) (b_ok_tail hk)
    rw [b_dec, b_red, b_cnt, List.map_cons, List.sum_cons, List.cons_append, b_desc]
    cases p <;> simp at h2 ⊢ <;> omega
theorem b_desc_end : ∀ (w : List Bool) (p : Bool), (w = [] → p = false) → b_ok w → b_desc p (w ++ [false]) = b_desc p w
  | [], p, h, _ => by rw [h rfl]; simp [b_desc]
  | [x], p, _, hk => by
    cases x
    · simp [b_desc]
    · exact (hk rfl).elim
  | x :: y :: t, p, _, hk => by
    show (if p && !x then 1 else 0) + b_desc x ((y :: t) ++ [false]) = (if p && !x then 1 else 0) + b_desc x (y :: t)
    rw [b_desc_end (y :: t) x (fun e => by cases e) (b_ok_tail hk)]
end
section
/-! ### a step, of a word with marks: the marks stay at their places -/
def b_Td : Nat → List (Nat × Bool) → List (Nat × Bool)
  | c, [] => List.replicate c (0, true)
  | c, (k, true) :: d => (k, false) :: b_Td (c + 1) d
  | 0, (k, false) :: d => (k, false) :: b_Td 0 d
  | c + 1, (k, false) :: d => (k, true) :: b_Td c d
theorem b_Td_snd : ∀ (d : List (Nat × Bool)) (c : Nat), (b_Td c d).map (·.2) = b_T c (d.map (·.2))
  | [], c => by simp [b_Td, b_T]
  | (k, true) :: d, c => by simp [b_Td, b_T, b_Td_snd d]
  | (k, false) :: d, 0 => by simp [b_Td, b_T, b_Td_snd d]
  | (k, false) :: d, c + 1 => by simp [b_Td, b_T, b_Td_snd d]
theorem b_Td_fst : ∀ (d : List (Nat × Bool)) (c : Nat), ∃ j, (b_Td c d).map (·.1) = d.map (·.1) ++ List.replicate j 0
  | [], c => ⟨c, by simp [b_Td]⟩
  | (k, true) :: d, c => by
    obtain ⟨j, h⟩ := b_Td_fst d (c + 1)
    exact ⟨j, by simp [b_Td, h]⟩
  | (k, false) :: d, 0 => by
    obtain ⟨j, h⟩ := b_Td_fst d 0
    exact ⟨j, by simp [b_Td, h]⟩
  | (k, false) :: d, c + 1 => by
    obtain ⟨j, h⟩ := b_Td_fst d c
    exact ⟨j, by simp [b_Td, h]⟩
def b_Q : Nat → List Bool
  | 0 => []
  | k + 1 => false :: true :: b_Q k
theorem b_T_P : ∀ (k c : Nat) (w : List Bool), b_T c (b_P k ++ w) = b_Q k ++ b_T c w
  | 0, _, _ => rfl
  | k + 1, c, w => by
    show false :: true :: b_T c (b_P k ++ w) = _
    rw [b_T_P k c w]
    rfl
theorem b_QP : ∀ (k : Nat) (w : List Bool), false :: (b_P k ++ false :: w) = b_Q k ++ false :: false :: w
  | 0, _ => rfl
  | k + 1, w => by
    show false :: true :: (false :: (b_P k ++ false :: w)) = false :: true :: (b_Q k ++ false :: false :: w)
    rw [b_QP k w]
theorem b_QP1 : ∀ (k : Nat) (w : List Bool), false :: (b_P k ++ w) = b_Q k ++ false :: w
  | 0, _ => rfl
  | k + 1, w => by
    show false :: true :: (false :: (b_P k ++ w)) = false :: true :: (b_Q k ++ false :: w)
    rw [b_QP1 k w]
theorem b_QP2 : ∀ (k : Nat) (w : List Bool), b_P k ++ true :: w = true :: (b_Q k ++ w)
  | 0, _ => rfl
  | k + 1, w => by
    show true :: false :: (b_P k ++ true :: w) = true :: false :: true :: (b_Q k ++ w)
    rw [b_QP2 k w]
theorem b_QP3 (k : Nat) (w : List Bool) : b_P (k + 1) ++ w = true :: (b_Q k ++ false :: w) := by
  rw [b_P_succ, List.append_assoc, List.cons_append, b_QP2]
  rfl
theorem b_Q_succ : ∀ k, b_Q (k + 1) = b_Q k ++ [false, true]
  | 0 => rfl
  | k + 1 => by
    show false :: true :: b_Q (k + 1) = (false :: true :: b_Q k) ++ [false, true]
    rw [b_Q_succ k]
    rfl
theorem b_rep : ∀ (c : Nat), b_B true (List.replicate c (0, true)) = List.replicate (c + 1) true ++ [false]
  | 0 => rfl
  | c + 1 => by
    show true :: b_B true (List.replicate c (0, true)) = _
    rw [b_rep c]
    rfl
theorem b_rep0 : ∀ (c : Nat), false :: b_B false (List.replicate c (0, true)) = false :: (List.replicate c true ++ if c = 0 then [] else [true, false])
  | 0 => rfl
  | c + 1 => by
    show false :: true :: b_B true (List.replicate c (0, true)) = _
    have e : List.replicate c true ++ [true, false] = true :: (List.replicate c true ++ [false]) := by
      rw [show ([true, false] : List Bool) = [true] ++ [false] from rfl, ← List.append_assoc, ← List.replicate_succ', List.replicate_succ]
      rfl
    rw [b_rep c, if_neg (by omega), List.replicate_succ, List.cons_append, List.cons_append, e]
/-- the words of a step, said with the marks: (a) behind an empty box, (b) behind a ball of the new row -/
theorem b_step : ∀ (d : List (Nat × Bool)) (c : Nat),
    ((c = 0 → false :: b_B false (b_Td c d) = b_T c (b_B false d) ++ [false]) ∧ (1 ≤ c → false :: b_B false (b_Td c d) = b_T c (b_B true d) ++ [false])) ∧
    b_B true (b_Td c d) = true :: (b_T c (b_B false d) ++ [false])
  | [], c => by
    refine ⟨⟨fun h => ?_, fun h => ?_⟩, ?_⟩
    · subst h; rfl
    · show false :: b_B false (List.replicate c (0, true)) = false :: true :: List.replicate c true ++ [false]
      rw [b_rep0, if_neg (by omega), ← List.replicate_succ, List.replicate_succ']
      simp
    · show b_B true (List.replicate c (0, true)) = true :: (List.replicate c true ++ [false])
      rw [b_rep]
      rfl
  | (k, true) :: d, c => by
    have A := (b_step d (c + 1)).1.2 (by omega)
    refine ⟨⟨fun h => ?_, fun h => ?_⟩, ?_⟩
    · show false :: (b_P k ++ false :: b_B false (b_Td (c + 1) d)) = b_T c (b_P k ++ true :: b_B true d) ++ [false]
      rw [b_T_P, A, b_QP1]
      simp [b_T]
    · show false :: (b_P k ++ false :: b_B false (b_Td (c + 1) d)) = b_T c (b_P k ++ true :: b_B true d) ++ [false]
      rw [b_T_P, A, b_QP1]
      simp [b_T]
    · show b_P (k + 1) ++ false :: b_B false (b_Td (c + 1) d) = true :: (b_T c (b_P k ++ true :: b_B true d) ++ [false])
      rw [b_T_P, A, b_QP3]
      simp [b_T]
  | (k, false) :: d, 0 => by
    have A := (b_step d 0).1.1 rfl
    refine ⟨⟨fun h => ?_, fun h => by omega⟩, ?_⟩
    · show false :: (b_P k ++ false :: b_B false (b_Td 0 d)) = b_T 0 (b_P k ++ false :: b_B false d) ++ [false]
      rw [b_T_P, A, b_QP1]
      simp [b_T]
    · show b_P (k + 1) ++ false :: b_B false (b_Td 0 d) = true :: (b_T 0 (b_P k ++ false :: b_B false d) ++ [false])
      rw [b_T_P, A, b_QP3]
      simp [b_T]
  | (k, false) :: d, c + 1 => by
    have B := (b_step d c).2
    refine ⟨⟨fun h => by omega, fun h => ?_⟩, ?_⟩
    · show false :: (b_P k ++ true :: b_B true (b_Td c d)) = b_T (c + 1) (b_P (k + 1) ++ false :: b_B false d) ++ [false]
      rw [b_T_P, B, b_QP1, b_Q_succ]
      simp [b_T]
    · show b_P k ++ true :: b_B true (b_Td c d) = true :: (b_T (c + 1) (b_P k ++ false :: b_B false d) ++ [false])
      rw [b_T_P, B, b_QP2]
      simp [b_T]
/-! ### a step, of the balls' places -/
def b_H : Nat → Nat → List Nat → List Nat
  | c, o, [] => List.range' o c
  | c, o, p :: r => List.range' o (min c (p - o)) ++ b_H (c - min c (p - o) + 1) (p + 1) r
def b_G (ps : List Nat) : List Nat := b_H 0 0 ps
theorem b_pos_ge : ∀ (w : List Bool) (o : Nat), ∀ x ∈ b_pos o w, o ≤ x
  | [], _, x, h => by cases h
  | true :: w, o, x, h => by
    rcases List.mem_cons.mp h with e | e
    · omega
    · have := b_pos_ge w (o + 1) x e
      omega
  | false :: w, o, x, h => by
    have := b_pos_ge w (o + 1) x h
    omega
theorem b_pos_rep : ∀ (c o : Nat), b_pos o (List.replicate c true) = List.range' o c
  | 0, _ => rfl
  | c + 1, o => by
    rw [List.replicate_succ, b_pos, b_pos_rep c, List.range'_succ]
theorem b_H_skip (c o : Nat) (ps : List Nat) (h : ∀ x ∈ ps, o + 1 ≤ x) : b_H 0 o ps = b_H 0 (o + 1) ps ∧ b_H (c + 1) o ps = o :: b_H c (o + 1) ps := by
  cases ps with
  | nil => exact ⟨rfl, List.range'_succ ..⟩
  | cons p r =>
    have hp := h p List.mem_cons_self
    constructor
    · simp [b_H]
    · simp only [b_H]
      rw [show min (c + 1) (p - o) = min c (p - (o + 1)) + 1 by omega, List.range'_succ, List.cons_append]
      congr 3
      omega
theorem b_pos_T : ∀ (w : List Bool) (c o : Nat), b_pos o (b_T c w) = b_H c o (b_pos o w)
  | [], c, o => by simp [b_T, b_pos, b_H, b_pos_rep]
  | true :: w, c, o => by
    show b_pos (o + 1) (b_T (c + 1) w) = b_H c o (o :: b_pos (o + 1) w)
    rw [b_pos_T w, b_H]
    simp
  | false :: w, 0, o => by
    rw [b_T, b_pos, b_pos_T w, b_pos]
    exact ((b_H_skip 0 o _ (b_pos_ge w (o + 1))).1).symm
  | false :: w, c + 1, o => by
    rw [b_T, b_pos, b_pos_T w, b_pos]
    exact ((b_H_skip c o _ (b_pos_ge w (o + 1))).2).symm
theorem b_rng : ∀ (c o s : Nat), List.range' (o + s) c = (List.range' o c).map (· + s)
  | 0, _, _ => rfl
  | c + 1, o, s => by
    rw [List.range'_succ, List.range'_succ, List.map_cons, ← b_rng c, show o + s + 1 = o + 1 + s by omega]
theorem b_H_sh : ∀ (ps : List Nat) (c o s : Nat), b_H c (o + s) (ps.map (· + s)) = (b_H c o ps).map (· + s)
  | [], c, o, s => b_rng c o s
  | p :: r, c, o, s => by
    simp only [List.map_cons, b_H, List.map_append]
    rw [show p + s - (o + s) = p - o by omega, show p + s + 1 = p + 1 + s by omega, b_H_sh r, b_rng]
theorem b_H_0 : ∀ (ps : List Nat) (o o' : Nat), b_H 0 o ps = b_H 0 o' ps
  | [], _, _ => rfl
  | p :: r, o, o' => by simp [b_H]
theorem b_G_sh (ps : List Nat) (s : Nat) : b_G (ps.map (· + s)) = (b_G ps).map (· + s) := by
  unfold b_G
  rw [← b_H_sh, b_H_0 _ 0 (0 + s)]
theorem b_pos_sh : ∀ (w : List Bool) (o s : Nat), b_pos (o + s) w = (b_pos o w).map (· + s)
  | [], _, _ => rfl
  | true :: w, o, s => by rw [b_pos, b_pos, List.map_cons, ← b_pos_sh w, show o + s + 1 = o + 1 + s by omega]
  | false :: w, o, s => by rw [b_pos, b_pos, ← b_pos_sh w, show o + s + 1 = o + 1 + s by omega]
theorem b_pos_app : ∀ (w : List Bool) (o : Nat), b_pos o (w ++ [false]) = b_pos o w
  | [], _ => rfl
  | true :: w, o => by rw [List.cons_append, b_pos, b_pos, b_pos_app w]
  | false :: w, o => by rw [List.cons_append, b_pos, b_pos, b_pos_app w]
def b_it {α : Type} (f : α → α) : Nat → α → α
  | 0, x => x
  | n + 1, x => b_it f n (f x)
theorem b_G_T (w : List Bool) : b_G (b_pos 0 w) = b_pos 0 (b_T 0 w) := (b_pos_T w 0 0).symm
theorem b_Git_T : ∀ (t : Nat) (w : List Bool), b_it b_G t (b_pos 0 w) = b_pos 0 (b_it (b_T 0) t w)
  | 0, _ => rfl
  | t + 1, w => by
    show b_it b_G t (b_G (b_pos 0 w)) = _
    rw [b_G_T, b_Git_T t]
    rfl
theorem b_Git_sh : ∀ (t : Nat) (ps : List Nat) (s : Nat), b_it b_G t (ps.map (· + s)) = (b_it b_G t ps).map (· + s)
  | 0, _, _ => rfl
  | t + 1, ps, s => by
    show b_it b_G t (b_G (ps.map (· + s))) = _
    rw [b_G_sh, b_Git_sh t]
    rfl
/-- a step of the word told by marks -/
theorem b_G_B (d : List (Nat × Bool)) : b_G (b_pos 0 (b_B false d)) = (b_pos 0 (b_B false (b_Td 0 d))).map (· + 1) := by
  rw [b_G_T, ← b_pos_app, ← (b_step d 0).1.1 rfl, b_pos, ← b_pos_sh]
theorem b_Git_B : ∀ (t : Nat) (d : List (Nat × Bool)), b_it b_G t (b_pos 0 (b_B false d)) = (b_pos 0 (b_B false (b_it (b_Td 0) t d))).map (· + t)
  | 0, d => by simp [b_it]
  | t + 1, d => by
    show b_it b_G t (b_G (b_pos 0 (b_B false d))) = (b_pos 0 (b_B false (b_it (b_Td 0) t (b_Td 0 d)))).map (· + (t + 1))
    rw [b_G_B, b_Git_sh, b_Git_B t, List.map_map]
    congr 1
theorem b_Tdit_snd : ∀ (t : Nat) (d : List (Nat × Bool)), (b_it (b_Td 0) t d).map (·.2) = b_it (b_T 0) t (d.map (·.2))
  | 0, _ => rfl
  | t + 1, d => by
    show (b_it (b_Td 0) t (b_Td 0 d)).map (·.2) = b_it (b_T 0) t (b_T 0 (d.map (·.2)))
    rw [b_Tdit_snd t, b_Td_snd]
theorem b_Tdit_fst : ∀ (t : Nat) (d : List (Nat × Bool)), ∃ j, (b_it (b_Td 0) t d).map (·.1) = d.map (·.1) ++ List.replicate j 0
  | 0, d => ⟨0, by simp [b_it]⟩
  | t + 1, d => by
    obtain ⟨i, hi⟩ := b_Td_fst d 0
    obtain ⟨j, hj⟩ := b_Tdit_fst t (b_Td 0 d)
    refine ⟨i + j, ?_⟩
    show (b_it (b_Td 0) t (b_Td 0 d)).map (·.1) = _
    rw [hj, hi, List.append_assoc, List.replicate_append_replicate]
/-! ### the first t boxes are empty after t steps -/
theorem b_T_front : ∀ (v : List Bool) (j : Nat), (∀ i, i < j → v[i]? ≠ some true) → ∀ i, i ≤ j → (b_T 0 v)[i]? ≠ some true
  | [], j, _, i, _ => by simp [b_T]
  | true :: v, j, h, i, hi => by
    rcases j with _ | j
    · rw [show i = 0 by omega]
      simp [b_T]
    · exact absurd rfl (h 0 (by omega))
  | false :: v, j, h, i, hi => by
    rcases i with _ | i
    · simp [b_T]
    · rcases j with _ | j
      · omega
      · rw [b_T, List.getElem?_cons_succ]
        exact b_T_front v j (fun k hk => by have := h (k + 1) (by omega); rwa [List.getElem?_cons_succ] at this) i (by omega)
theorem b_Tit_front : ∀ (t j : Nat) (v : List Bool), (∀ i, i < j → v[i]? ≠ some true) → ∀ i, i < j + t → (b_it (b_T 0) t v)[i]? ≠ some true
  | 0, j, v, h, i, hi => h i (by omega)
  | t + 1, j, v, h, i, hi => b_Tit_front t (j + 1) (b_T 0 v) (fun k hk => b_T_front v j h k (by omega)) i (by omega)
/-! ### runs -/
/-- the lengths of the runs of balls, n being the length of the run at hand -/
def b_rw : Nat → List Bool → List Nat
  | n, [] => if n = 0 then [] else [n]
  | n, true :: w => b_rw (n + 1) w
  | n, false :: w => if n = 0 then b_rw 0 w else n :: b_rw 0 w
theorem b_rw_P : ∀ (k : Nat) (w : List Bool), b_rw 0 (b_P k ++ w) = List.replicate k 1 ++ b_rw 0 w
  | 0, _ => rfl
  | k + 1, w => by
    show 1 :: b_rw 0 (b_P k ++ w) = _
    rw [b_rw_P k, List.replicate_succ]
    rfl
theorem b_rw_front : ∀ (d e : List (Nat × Bool)), (∀ q ∈ d, q.2 = false) → b_rw 0 (b_B false (d ++ e)) = List.replicate (d.map (·.1)).sum 1 ++ b_rw 0 (b_B false e)
  | [], e, _ => by simp
  | (k, x) :: d, e, h => by
    have hx : x = false := h _ List.mem_cons_self
    subst hx
    show b_rw 0 (b_P k ++ false :: b_B false (d ++ e)) = _
    rw [b_rw_P, b_rw]
    simp only [if_true]
    rw [b_rw_front d e (fun q hq => h q (List.mem_cons_of_mem _ hq)), ← List.append_assoc, List.replicate_append_replicate]
    rfl
theorem b_rw_back : ∀ (e : List (Nat × Bool)), (∀ q ∈ e, q.1 = 0) → b_rw 0 (b_B false e) = (b_rw 0 (e.map (·.2))).map (· + 1) ∧ ∀ n, 1 ≤ n → b_rw n (b_B true e) = (b_rw n (e.map (·.2))).map (· + 1)
  | [], _ => ⟨rfl, fun n hn => by
    have : n ≠ 0 := by omega
    simp [b_B, b_rw, this]⟩
  | (k, x) :: e, h => by
    have hk : k = 0 := h _ List.mem_cons_self
    subst hk
    obtain ⟨i1, i2⟩ := b_rw_back e (fun q hq => h q (List.mem_cons_of_mem _ hq))
    cases x
    · refine ⟨?_, fun n hn => ?_⟩
      · show b_rw 0 (b_B false e) = _
        rw [i1]
        rfl
      · have h1 : n ≠ 0 := by omega
        show b_rw n (true :: false :: false :: b_B false e) = _
        simp [b_rw, h1, i1]
    · refine ⟨?_, fun n hn => ?_⟩
      · show b_rw 1 (b_B true e) = _
        rw [i2 1 (by omega)]
        rfl
      · show b_rw (n + 1) (b_B true e) = _
        rw [i2 (n + 1) (by omega)]
        rfl
/-- the lengths of the runs of balls at the places -/
def b_rgo : Nat → Nat → List Nat → List Nat
  | _, n, [] => [n]
  | q, n, x :: r => if q + 1 < x then n :: b_rgo x 1 r else b_rgo x (n + 1) r
def b_rl : List Nat → List Nat
  | [] => []
  | p :: r => b_rgo p 1 r
theorem b_rgo_sh : ∀ (r : List Nat) (q n s : Nat), b_rgo (q + s) n (r.map (· + s)) = b_rgo q n r
  | [], _, _, _ => rfl
  | x :: r, q, n, s => by
    simp only [List.map_cons, b_rgo]
    rw [b_rgo_sh r, b_rgo_sh r]
    by_cases h : q + 1 < x
    · rw [if_pos h, if_pos (by omega)]
    · rw [if_neg h, if_neg (by omega)]
theorem b_rl_sh (ps : List Nat) (s : Nat) : b_rl (ps.map (· + s)) = b_rl ps := by
  cases ps with
  | nil => rfl
  | cons p r => exact b_rgo_sh r p 1 s
theorem b_rl_rw : ∀ (w : List Bool) (o : Nat), b_rl (b_pos o w) = b_rw 0 w ∧ ∀ n, (b_rgo o (n + 1) (b_pos (o + 1) w) = b_rw (n + 1) w) ∧ (∀ q, q < o → b_rgo q (n + 1) (b_pos (o + 1) w) = (n + 1) :: b_rw 0 w)
  | [], o => ⟨rfl, fun n => ⟨rfl, fun q _ => rfl⟩⟩
  | true :: w, o => by
    have ih := (b_rl_rw w (o + 1)).2
    refine ⟨(b_rl_rw w o).2 0 |>.1, fun n => ⟨?_, fun q hq => ?_⟩⟩
    · show b_rgo o (n + 1) ((o + 1) :: b_pos (o + 2) w) = b_rw (n + 2) w
      rw [b_rgo, if_neg (by omega), ← (ih (n + 1)).1]
    · show b_rgo q (n + 1) ((o + 1) :: b_pos (o + 2) w) = (n + 1) :: b_rw 1 w
      rw [b_rgo, if_pos (by omega), ← (ih 0).1]
  | false :: w, o => by
    have ih := b_rl_rw w (o + 1)
    refine ⟨ih.1, fun n => ⟨?_, fun q hq => ?_⟩⟩
    · show b_rgo o (n + 1) (b_pos (o + 2) w) = (n + 1) :: b_rw 0 w
      exact (ih.2 n).2 o (by omega)
    · show b_rgo q (n + 1) (b_pos (o + 2) w) = (n + 1) :: b_rw 0 w
      exact (ih.2 n).2 q (by omega)
end
section
/-! ### what the rounds give, the runs at last, and the carriers' counts -/
/-- the pairs of the rounds, one after another -/
def b_rem : Nat → List Bool → List Nat
  | 0, _ => []
  | f + 1, u => if b_cnt u = 0 then [] else b_cnt u :: b_rem f (b_red u)
/-- the size of a wave -/
def b_sz (R : List Nat) (i : Nat) : Nat := (R.filter (fun r => decide (i < r))).length
theorem b_zero : ∀ (w : List Bool), (∀ x ∈ w, x = false) → ∀ n, b_rw n w = if n = 0 then [] else [n]
  | [], _, n => rfl
  | x :: w, h, n => by
    have hx := h x List.mem_cons_self
    subst hx
    have ih := b_zero w (fun y hy => h y (List.mem_cons_of_mem _ hy)) 0
    by_cases e : n = 0 <;> simp [b_rw, e, ih]
/-- the marks of a word: where the pairs of the first round lay -/
theorem b_marks {u : List Bool} (hk : b_L 0 u = 0) : ∃ d : List (Nat × Bool), b_B false d = u ++ [false] ∧ d.map (·.2) = b_red u ++ [false] ∧ (d.map (·.1)).sum + b_cnt (b_red u) = b_cnt u := by
  have h1 := b_L_ok u 0 hk
  have h2 := b_L_ok (b_red u) 0 (by rw [b_L_red]; exact hk)
  refine ⟨b_dec false 0 u, ?_, b_dec_snd u false 0, ?_⟩
  · rw [b_dec_B u false 0 (fun e => by cases e) h1]
    rfl
  · have h3 := b_dec_sum u false 0 (fun e => by cases e) h1
    rw [b_desc_end _ _ (fun _ => rfl) h2, ← b_cnt_desc] at h3
    omega
theorem b_cnt_red {u : List Bool} (hk : b_L 0 u = 0) : b_cnt (b_red u) ≤ b_cnt u := by
  obtain ⟨d, -, -, h⟩ := b_marks hk
  omega
theorem b_rem_le : ∀ (f : Nat) (u : List Bool), b_L 0 u = 0 → ∀ r ∈ b_rem f u, r ≤ b_cnt u
  | 0, _, _, r, h => by cases h
  | f + 1, u, hk, r, h => by
    unfold b_rem at h
    split at h
    · cases h
    · rcases List.mem_cons.mp h with e | e
      · omega
      · have := b_rem_le f (b_red u) (by rw [b_L_red]; exact hk) r e
        have := b_cnt_red hk
        omega
theorem b_sz_none {R : List Nat} {m i : Nat} (h : ∀ r ∈ R, r ≤ m) (hi : m ≤ i) : b_sz R i = 0 := by
  unfold b_sz
  rw [List.length_eq_zero_iff, List.filter_eq_nil_iff]
  intro r hr
  have := h r hr
  simp
  omega
theorem b_sz_cons (m : Nat) (R : List Nat) (i : Nat) : b_sz (m :: R) i = (if i < m then 1 else 0) + b_sz R i := by
  unfold b_sz
  by_cases h : i < m
  · simp [h]; omega
  · simp [h]
/-- the runs' lengths after as many steps as there are boxes: the waves' sizes, the smallest first -/
theorem b_runs (f : Nat) : ∀ (u : List Bool) (t : Nat), b_L 0 u = 0 → u.length ≤ f → u.length + 1 ≤ t →
    b_rl (b_it b_G t (b_pos 0 u)) = (List.range (b_cnt u)).map (fun i => b_sz (b_rem f u) (b_cnt u - 1 - i)) := by
  induction f with
  | zero =>
    intro u t hk hf ht
    have : u = [] := List.length_eq_zero_iff.mp (by omega)
    subst this
    have : ∀ t, b_it b_G t [] = [] := by
      intro t
      induction t with
      | zero => rfl
      | succ t ih => exact ih
    show b_rl (b_it b_G t []) = []
    rw [this]
    rfl
  | succ f ihf =>
    intro u t hk hf ht
    by_cases h0 : b_cnt u = 0
    · have h1 := b_none u (by rw [← b_cnt_desc]; exact h0) (b_L_ok u 0 hk)
      rw [h0, b_pos_none u 0 h1]
      have : ∀ t, b_it b_G t [] = [] := by
        intro t
        induction t with
        | zero => rfl
        | succ t ih => exact ih
      rw [this]
      rfl
    · skip
      · have hlen := b_red_len u
        have hk2 : b_L 0 (b_red u) = 0 := by rw [b_L_red]; exact hk
        have ih := ihf (b_red u) t hk2 (by omega) (by omega)
        obtain ⟨d, d1, d2, d3⟩ := b_marks hk
        rw [← b_pos_app u 0, ← d1, b_Git_B, b_rl_sh, (b_rl_rw _ 0).1]
        have e1 : b_rw 0 (b_it (b_T 0) t (d.map (·.2))) = b_rl (b_it b_G t (b_pos 0 (b_red u))) := by
          rw [d2, ← (b_rl_rw _ 0).1, ← b_Git_T, b_pos_app]
        obtain ⟨j, hj⟩ := b_Tdit_fst t d
        have hs := b_Tdit_snd t d
        have hd : d.length = (b_red u).length + 1 := by
          have := congrArg List.length d2
          simpa using this
        generalize hD : b_it (b_Td 0) t d = D at hj hs ⊢
        have hfront : ∀ q ∈ D.take d.length, q.2 = false := by
          intro q hq
          obtain ⟨i, hi1, hi2⟩ := List.mem_iff_getElem.mp hq
          rw [List.length_take] at hi1
          have h5 := b_Tit_front t 0 (d.map (·.2)) (fun i hi => by omega) i (by omega)
          rw [← hs, List.getElem?_map] at h5
          have h6 : D[i]? = some q := by
            rw [List.getElem_take] at hi2
            rw [← hi2]
            exact List.getElem?_eq_getElem (by omega)
          rw [h6] at h5
          cases hq2 : q.2
          · rfl
          · rw [Option.map_some, hq2] at h5
            exact absurd rfl h5
        have hback : ∀ q ∈ D.drop d.length, q.1 = 0 := by
          intro q hq
          have h5 : q.1 ∈ (D.map (·.1)).drop d.length := by
            rw [← List.map_drop]
            exact List.mem_map_of_mem hq
          rw [hj, List.drop_left' (by simp)] at h5
          exact (List.mem_replicate.mp h5).2
        have hsum : ((D.take d.length).map (·.1)).sum = (d.map (·.1)).sum := by
          rw [List.map_take, hj, List.take_left' (by simp)]
        have e2 : b_rw 0 (D.map (·.2)) = b_rw 0 ((D.drop d.length).map (·.2)) := by
          have : ∀ (a b : List Bool), (∀ x ∈ a, x = false) → b_rw 0 (a ++ b) = b_rw 0 b := by
            intro a
            induction a with
            | nil => intro b _; rfl
            | cons x a iha =>
              intro b h
              have hx := h x List.mem_cons_self
              subst hx
              show b_rw 0 (a ++ b) = _
              exact iha b (fun y hy => h y (List.mem_cons_of_mem _ hy))
          rw [← List.take_append_drop d.length D, List.map_append, this]
          · rw [List.take_append_drop]
          · intro x hx
            obtain ⟨q, hq1, hq2⟩ := List.mem_map.mp hx
            rw [← hq2]
            exact hfront q hq1
        rw [← List.take_append_drop d.length D, b_rw_front _ _ hfront, hsum, (b_rw_back _ hback).1, ← e2, hs, e1, ih]
        obtain ⟨m, hm⟩ : ∃ m, m = b_cnt u := ⟨_, rfl⟩
        obtain ⟨m1, hm1⟩ : ∃ m1, m1 = b_cnt (b_red u) := ⟨_, rfl⟩
        have hR : b_rem (f + 1) u = m :: b_rem f (b_red u) := by
          rw [b_rem, if_neg h0, hm]
        have hle := b_rem_le f (b_red u) hk2
        rw [← hm1] at hle d3 ⊢
        rw [← hm] at d3 ⊢
        rw [hR]
        refine List.ext_getElem? fun i => ?_
        by_cases c1 : i < (d.map (·.1)).sum
        · rw [List.getElem?_append_left (by simpa using c1), List.getElem?_replicate, if_pos c1, List.getElem?_map, List.getElem?_range (by omega), Option.map_some, b_sz_cons, if_pos (by omega), b_sz_none hle (by omega)]
        · rw [List.getElem?_append_right (by simpa using c1), List.length_replicate]
          by_cases c2 : i < m
          · rw [List.getElem?_map, List.getElem?_map, List.getElem?_range (by omega), Option.map_some, Option.map_some, List.getElem?_map, List.getElem?_range c2, Option.map_some, b_sz_cons, if_pos (by omega), show m1 - 1 - (i - (d.map (·.1)).sum) = m - 1 - i by omega, Nat.add_comm]
          · rw [List.getElem?_eq_none (by simp; omega), List.getElem?_eq_none (by simp; omega)]
/-- the balls that a carrier of capacity k picks up, coming with c -/
def b_E (k : Nat) : Nat → List Bool → Nat
  | _, [] => 0
  | c, true :: w => if c < k then 1 + b_E k (c + 1) w else b_E k c w
  | c, false :: w => b_E k (c - 1) w
theorem b_E_red (k : Nat) (w : List Bool) : ∀ c, c ≤ k → b_ok w → b_E (k + 1) c w = b_cnt w + b_E k c (b_red w) := by
  induction w using b_red.induct with
  | case1 => intro c _ _; rfl
  | case2 x =>
    intro c _ hk
    cases x
    · rfl
    · exact (hk rfl).elim
  | case3 t ih =>
    intro c hc hk
    rw [b_red, b_cnt, b_E, if_pos (by omega), b_E, Nat.add_sub_cancel, ih c hc (b_ok_tail2 hk)]
    omega
  | case4 y t ih =>
    intro c hc hk
    rw [b_red, b_cnt, b_E, ih (c - 1) (by omega) (b_ok_tail hk), b_E]
  | case5 t ih =>
    intro c hc hk
    rw [b_red, b_cnt]
    by_cases h : c < k
    · rw [b_E, if_pos (by omega), ih (c + 1) (by omega) (b_ok_tail hk), b_E, if_pos h]
      omega
    · have hck : c = k := by omega
      subst hck
      have h2 := ih c (by omega) (b_ok_tail hk)
      rw [b_E, if_pos (by omega)] at h2
      rw [b_E, if_pos (by omega), b_E, if_neg (by omega), b_E, if_neg (by omega)]
      exact h2
theorem b_E_zero : ∀ (w : List Bool) (c : Nat), b_E 0 c w = 0
  | [], _ => rfl
  | true :: w, c => by rw [b_E, if_neg (by omega), b_E_zero w]
  | false :: w, c => by rw [b_E, b_E_zero w]
theorem b_E_none : ∀ (w : List Bool) (k c : Nat), (∀ x ∈ w, x = false) → b_E k c w = 0
  | [], _, _, _ => rfl
  | x :: w, k, c, h => by
    have hx := h x List.mem_cons_self
    subst hx
    rw [b_E, b_E_none w k _ (fun y hy => h y (List.mem_cons_of_mem _ hy))]
/-- .. is the sum of the first k rounds -/
theorem b_E_sum : ∀ (f : Nat) (k : Nat) (u : List Bool), b_L 0 u = 0 → u.length ≤ f → b_E k 0 u = ((b_rem f u).take k).sum
  | f, 0, u, _, _ => by rw [b_E_zero]; simp
  | 0, k + 1, u, _, hf => by
    have : u = [] := List.length_eq_zero_iff.mp (by omega)
    subst this
    rfl
  | f + 1, k + 1, u, hk, hf => by
    unfold b_rem
    split
    · rename_i h0
      rw [b_E_none u _ _ (b_none u (by rw [← b_cnt_desc]; exact h0) (b_L_ok u 0 hk))]
      rfl
    · have := b_red_len u
      rw [b_E_red k u 0 (by omega) (b_L_ok u 0 hk), b_E_sum f k (b_red u) (by rw [b_L_red]; exact hk) (by omega)]
      simp
theorem b_sum0 : ∀ m : Nat, ((List.range m).map (fun _ => 0)).sum = 0
  | 0 => rfl
  | m + 1 => by rw [List.range_succ, List.map_append, List.sum_append, b_sum0 m]; rfl
/-- the sizes' sum, each counted up to k -/
theorem b_szsum : ∀ (f k : Nat) (u : List Bool), b_L 0 u = 0 → ∀ m, b_cnt u ≤ m → ((List.range m).map (fun i => min (b_sz (b_rem f u) i) k)).sum = ((b_rem f u).take k).sum
  | f, 0, u, _, m, _ => by
    simp
    exact b_sum0 m
  | 0, k + 1, u, _, m, _ => by
    simp [b_rem, b_sz]
    exact b_sum0 m
  | f + 1, k + 1, u, hk, m, hm => by
    unfold b_rem
    split
    · simp [b_sz]
      exact b_sum0 m
    · have ih := b_szsum f k (b_red u) (by rw [b_L_red]; exact hk) (b_cnt u) (b_cnt_red hk)
      have hz := b_rem_le f (b_red u) (by rw [b_L_red]; exact hk)
      have hc := b_cnt_red hk
      rw [List.take_succ_cons, List.sum_cons, ← ih]
      generalize b_rem f (b_red u) = R at hz ⊢
      generalize b_cnt u = n at hm hc ⊢
      have h1 : ∀ j, ((List.range (n + j)).map (fun i => min (b_sz (n :: R) i) (k + 1))).sum = ((List.range n).map (fun i => min (b_sz (n :: R) i) (k + 1))).sum := by
        intro j
        induction j with
        | zero => rfl
        | succ j ihj =>
          rw [← Nat.add_assoc, List.range_succ, List.map_append, List.sum_append, ihj, List.map_singleton, List.sum_singleton, b_sz_cons, if_neg (by omega), b_sz_none hz (by omega)]
          simp
      rw [show m = n + (m - n) by omega, h1]
      have h2 : ∀ j, j ≤ n → ((List.range j).map (fun i => min (b_sz (n :: R) i) (k + 1))).sum = j + ((List.range j).map (fun i => min (b_sz R i) k)).sum := by
        intro j
        induction j with
        | zero => intro _; rfl
        | succ j ihj =>
          intro hj
          rw [List.range_succ, List.map_append, List.sum_append, List.map_append, List.sum_append, ihj (by omega), List.map_singleton, List.sum_singleton, List.map_singleton, List.sum_singleton, b_sz_cons, if_pos (by omega)]
          omega
      exact h2 n (Nat.le_refl n)
/-- enough empty boxes behind a row -/
theorem b_L_le : ∀ (w : List Bool) (c : Nat), b_L c w ≤ c + (w.filter id).length
  | [], c => by simp [b_L]
  | true :: w, c => by
    have := b_L_le w (c + 1)
    simp [b_L]
    omega
  | false :: w, c => by
    have := b_L_le w (c - 1)
    simp [b_L]
    omega
theorem b_L_app : ∀ (w v : List Bool) (c : Nat), b_L c (w ++ v) = b_L (b_L c w) v
  | [], _, _ => rfl
  | true :: w, v, c => by rw [List.cons_append, b_L, b_L, b_L_app w]
  | false :: w, v, c => by rw [List.cons_append, b_L, b_L, b_L_app w]
theorem b_L_rep : ∀ (j c : Nat), b_L c (List.replicate j false) = c - j
  | 0, _ => rfl
  | j + 1, c => by rw [List.replicate_succ, b_L, b_L_rep j]; omega
theorem b_bal (w : List Bool) (j : Nat) (h : (w.filter id).length ≤ j) : b_L 0 (w ++ List.replicate j false) = 0 := by
  rw [b_L_app, b_L_rep]
  have := b_L_le w 0
  omega
theorem b_pos_apps : ∀ (j : Nat) (w : List Bool) (o : Nat), b_pos o (w ++ List.replicate j false) = b_pos o w
  | 0, w, o => by simp
  | j + 1, w, o => by rw [List.replicate_succ', ← List.append_assoc, b_pos_app, b_pos_apps j]
theorem b_E_app : ∀ (w : List Bool) (k c j : Nat), b_E k c (w ++ List.replicate j false) = b_E k c w
  | [], k, c, j => b_E_none _ k c (fun x hx => (List.mem_replicate.mp hx).2)
  | true :: w, k, c, j => by rw [List.cons_append, b_E, b_E, b_E_app w, b_E_app w]
  | false :: w, k, c, j => by rw [List.cons_append, b_E, b_E, b_E_app w]
end
section
/-! ### what a run of the small machine comes to: rules, one an instruction -/
abbrev n_v (a : Int) : Value := .int (Int32.ofInt a)
def c_q (k pc : Nat) : Option c_I := match c_P[k]? with
  | some md => c_at pc (c_mi md)
  | none => none
/-- the run comes to an end that has Q -/
def c_Ev (X : List Int32) (k pc : Nat) (L : c_Ls) (st : List Value) (h : c_Hp) (Q : c_O × c_Hp → Prop) : Prop := ∃ n r, c_go c_P c_ty c_nf X n k pc L st h = some r ∧ Q r
theorem c_go_more {X : List Int32} : ∀ (n : Nat) (k pc : Nat) (L : c_Ls) (st : List Value) (h : c_Hp) (r : c_O × c_Hp), c_go c_P c_ty c_nf X n k pc L st h = some r → c_go c_P c_ty c_nf X (n + 1) k pc L st h = some r
  | 0, _, _, _, _, _, _, e => by simp [c_go] at e
  | n + 1, k, pc, L, st, h, r, e => by
    rw [c_go] at e ⊢
    cases h1 : c_P[k]? with
    | none => rw [h1] at e; cases e
    | some md =>
      rw [h1] at e
      simp only at e ⊢
      cases h2 : c_at pc (c_mi md) with
      | none => rw [h2] at e; cases e
      | some q =>
        rw [h2] at e
        simp only at e ⊢
        split at e
        · rename_i h3
          cases h4 : c_stp c_ty c_nf X q pc L st h with
          | none => rw [h4] at e; cases e
          | some r1 =>
            rw [h4] at e
            exact c_go_more n _ _ _ _ _ _ e
        · exact e
        · exact e
        · cases h4 : c_P[q.2.1]? with
          | none => rw [h4] at e; cases e
          | some mz =>
            rw [h4] at e
            simp only at e ⊢
            cases h5 : c_prt mz q st h with
            | none => rw [h5] at e; cases e
            | some ar =>
              rw [h5] at e
              simp only at e ⊢
              cases h6 : c_go c_P c_ty c_nf X n q.2.1 0 (c_ent ar.1 (c_mL mz)) [] h with
              | none => rw [h6] at e; cases e
              | some r1 =>
                rw [h6] at e
                rw [c_go_more n _ _ _ _ _ _ h6]
                obtain ⟨o, h1⟩ := r1
                cases o with
                | inl v => exact c_go_more n _ _ _ _ _ _ e
                | inr E =>
                  simp only at e ⊢
                  cases h7 : c_cat pc E (c_mx md) with
                  | none => rw [h7] at e; exact e
                  | some w =>
                    rw [h7] at e
                    exact c_go_more n _ _ _ _ _ _ e
        · exact e
        · exact e
theorem c_go_up {X : List Int32} {k pc : Nat} {L : c_Ls} {st : List Value} {h : c_Hp} {r : c_O × c_Hp} {n m : Nat} (hm : n ≤ m) (e : c_go c_P c_ty c_nf X n k pc L st h = some r) : c_go c_P c_ty c_nf X m k pc L st h = some r := by
  induction m with
  | zero =>
    have : n = 0 := by omega
    rw [← this]
    exact e
  | succ m ih =>
    by_cases h1 : n = m + 1
    · rw [← h1]
      exact e
    · exact c_go_more m _ _ _ _ _ _ (ih (by omega))
section Rules
variable {X : List Int32} {k pc : Nat} {L : c_Ls} {st : List Value} {h : c_Hp} {Q : c_O × c_Hp → Prop}
theorem c_q_ok {q : c_I} (hq : c_q k pc = some q) : ∃ md, c_P[k]? = some md ∧ c_at pc (c_mi md) = some q := by
  unfold c_q at hq
  split at hq
  · rename_i md h1
    exact ⟨md, h1, hq⟩
  · cases hq
/-- a step, as the machine makes it -/
theorem e_st {q : c_I} {pc2 : Nat} {L2 : c_Ls} {st2 : List Value} {h2 : c_Hp} (hq : c_q k pc = some q) (hd : c_kd q = 0) (hs : c_stp c_ty c_nf X q pc L st h = some (pc2, L2, st2, h2)) (K : c_Ev X k pc2 L2 st2 h2 Q) : c_Ev X k pc L st h Q := by
  obtain ⟨md, h1, h2⟩ := c_q_ok hq
  obtain ⟨n, r, hn, hr⟩ := K
  refine ⟨n + 1, r, ?_, hr⟩
  rw [c_go, h1]
  simp only [h2, hd, hs]
  exact hn
/-- a call: what it comes to, then the rest -/
def c_after (X : List Int32) (k pc : Nat) (L : c_Ls) (rest : List Value) (Q : c_O × c_Hp → Prop) : c_O × c_Hp → Prop
  | (.inl v, h1) => c_Ev X k (pc + 3) L (v.toList ++ rest) h1 Q
  | (.inr E, h1) => match c_P[k]? with
    | some md => match c_cat pc E (c_mx md) with
      | some w => c_Ev X k (((c_mh md).getD w.1 (0, 0, 0, 0)).2.2.1 + w.2.2) ((c_clr L w.2.1).set w.2.1 none) [] h1 Q
      | none => (c_mh md).isEmpty = true ∧ Q (.inr E, h1)
    | none => False
theorem e_call {q : c_I} {mz : c_M} {as rest : List Value} {L0 : c_Ls} (hq : c_q k pc = some q) (hd : c_kd q = 4) (hz : c_P[q.2.1]? = some mz) (hp : c_prt mz q st h = some (as, rest)) (hL : c_ent as (c_mL mz) = L0)
    (K : c_Ev X q.2.1 0 L0 [] h (c_after X k pc L rest Q)) : c_Ev X k pc L st h Q := by
  subst hL
  obtain ⟨md, h1, h2⟩ := c_q_ok hq
  obtain ⟨n, ⟨o, hh⟩, hn, hr⟩ := K
  cases o with
  | inl v =>
    obtain ⟨n2, r2, hn2, hr2⟩ := hr
    refine ⟨max n n2 + 1, r2, ?_, hr2⟩
    rw [c_go, h1]
    simp only [h2, hd, hz, hp]
    rw [c_go_up (Nat.le_max_left n n2) hn]
    exact c_go_up (Nat.le_max_right n n2) hn2
  | inr E =>
    unfold c_after at hr
    simp only [h1] at hr
    cases h7 : c_cat pc E (c_mx md) with
    | some w =>
      rw [h7] at hr
      obtain ⟨n2, r2, hn2, hr2⟩ := hr
      refine ⟨max n n2 + 1, r2, ?_, hr2⟩
      rw [c_go, h1]
      simp only [h2, hd, hz, hp]
      rw [c_go_up (Nat.le_max_left n n2) hn]
      simp only [h7]
      exact c_go_up (Nat.le_max_right n n2) hn2
    | none =>
      rw [h7] at hr
      obtain ⟨he, hr⟩ := hr
      refine ⟨n + 1, _, ?_, hr⟩
      rw [c_go, h1]
      simp only [h2, hd, hz, hp, hn, h7, he, if_true]
theorem e_iret {q : c_I} {md : c_M} {t : FieldType} {x : Int32} (hq : c_q k pc = some q) (hd : c_kd q = 1) (hz : c_P[k]? = some md) (ht : c_mr md = some t) (hx : narrow t (.int x) = .int x) (K : Q (.inl (some (.int x)), h)) : c_Ev X k pc L [.int x] h Q := by
  obtain ⟨md2, h1, h2⟩ := c_q_ok hq
  cases hz.symm.trans h1
  refine ⟨1, _, ?_, K⟩
  rw [c_go, h1]
  simp only [h2, hd, ht, hx, if_true]
theorem e_ret {q : c_I} {md : c_M} (hq : c_q k pc = some q) (hd : c_kd q = 2) (hz : c_P[k]? = some md) (ht : c_mr md = none) (K : Q (.inl none, h)) : c_Ev X k pc L [] h Q := by
  obtain ⟨md2, h1, h2⟩ := c_q_ok hq
  cases hz.symm.trans h1
  refine ⟨1, _, ?_, K⟩
  rw [c_go, h1]
  simp only [h2, hd, ht]
theorem e_thr {q : c_I} {md : c_M} (hq : c_q k pc = some q) (hd : c_kd q = 5) (hz : c_P[k]? = some md) (he : (c_mh md).isEmpty = true) (hs : (st.map fun v => v.category).sum ≤ 8) (K : Q (.inr q.2.1, h ++ [none])) : c_Ev X k pc L st h Q := by
  obtain ⟨md2, h1, h2⟩ := c_q_ok hq
  cases hz.symm.trans h1
  refine ⟨1, _, ?_, K⟩
  rw [c_go, h1]
  simp only [h2, hd, he, hs, decide_true, Bool.and_self, if_true]
/-! whole numbers -/
theorem n_add (a b : Int) : Int32.ofInt a + Int32.ofInt b = Int32.ofInt (a + b) := (Int32.ofInt_add a b).symm
theorem n_sub (a b : Int) : Int32.ofInt a - Int32.ofInt b = Int32.ofInt (a - b) := (Int32.ofInt_sub a b).symm
theorem n_mul (a b : Int) : Int32.ofInt a * Int32.ofInt b = Int32.ofInt (a * b) := (Int32.ofInt_mul a b).symm
def n_r (a : Int) : Prop := -2147483648 ≤ a ∧ a < 2147483648
theorem n_toInt {a : Int} (h : n_r a) : (Int32.ofInt a).toInt = a := Int32.toInt_ofInt_of_le h.1 h.2
theorem n_lt {a b : Int} (ha : n_r a) (hb : n_r b) : Int32.ofInt a < Int32.ofInt b ↔ a < b := by
  rw [Int32.lt_iff_toInt_lt, n_toInt ha, n_toInt hb]
theorem n_le {a b : Int} (ha : n_r a) (hb : n_r b) : Int32.ofInt a ≤ Int32.ofInt b ↔ a ≤ b := by
  rw [Int32.le_iff_toInt_le, n_toInt ha, n_toInt hb]
theorem n_eq {a b : Int} (ha : n_r a) (hb : n_r b) : Int32.ofInt a = Int32.ofInt b ↔ a = b := by
  rw [← Int32.toInt_inj, n_toInt ha, n_toInt hb]
def n_cmp (cd : Jvm.ClassFile.Cond) (a b : Int) : Bool := match cd with
  | .eq => decide (a = b)
  | .ne => decide (¬ a = b)
  | .lt => decide (a < b)
  | .ge => decide (b ≤ a)
  | .gt => decide (b < a)
  | .le => decide (a ≤ b)
theorem n_cmp_ok {cd : Jvm.ClassFile.Cond} {a b : Int} (ha : n_r a) (hb : n_r b) : c_cmp cd (Int32.ofInt a) (Int32.ofInt b) = n_cmp cd a b := by
  cases cd <;> simp only [c_cmp, n_cmp, n_lt ha hb, n_lt hb ha, n_le ha hb, n_le hb ha, n_eq ha hb]
theorem e_add {a b : Int} {x y z} (hq : c_q k pc = some (.iadd, x, y, z)) (K : c_Ev X k (pc + 1) L (n_v (a + b) :: st) h Q) : c_Ev X k pc L (n_v b :: n_v a :: st) h Q := e_st hq rfl (by show some (pc + 1, L, Value.int (Int32.ofInt a + Int32.ofInt b) :: st, h) = _; rw [n_add]) K
theorem e_sub {a b : Int} {x y z} (hq : c_q k pc = some (.isub, x, y, z)) (K : c_Ev X k (pc + 1) L (n_v (a - b) :: st) h Q) : c_Ev X k pc L (n_v b :: n_v a :: st) h Q := e_st hq rfl (by show some (pc + 1, L, Value.int (Int32.ofInt a - Int32.ofInt b) :: st, h) = _; rw [n_sub]) K
theorem e_inc {a : Int} {i : Nat} {n : Int} {L2 : c_Ls} {x y z} (hq : c_q k pc = some (.iinc i n, x, y, z)) (hL : L[i]? = some (some (n_v a))) (hS : c_set L i (n_v (a + n)) = L2) (K : c_Ev X k (pc + 3) L2 st h Q) : c_Ev X k pc L st h Q := by
  refine e_st hq rfl ?_ K
  show (match L[i]? with
    | some (some (.int x)) => some (pc + 3, c_set L i (.int (x + Int32.ofInt n)), st, h)
    | _ => none) = _
  rw [hL]
  simp only
  rw [n_add, hS]
theorem e_cmp {a b : Int} {cd : Jvm.ClassFile.Cond} {o : Int} {x y z} (c : Bool) (hq : c_q k pc = some (.if_icmp cd o, x, y, z)) (ha : n_r a) (hb : n_r b) (hc : n_cmp cd a b = c) (K : c_Ev X k (if c then x else pc + 3) L st h Q) : c_Ev X k pc L (n_v b :: n_v a :: st) h Q := by
  refine e_st hq rfl ?_ K
  show some (if c_cmp cd (Int32.ofInt a) (Int32.ofInt b) then x else pc + 3, L, st, h) = _
  rw [n_cmp_ok ha hb, hc]
theorem e_if {a : Int} {cd : Jvm.ClassFile.Cond} {o : Int} {x y z} (c : Bool) (hq : c_q k pc = some (.ifCond cd o, x, y, z)) (ha : n_r a) (hc : n_cmp cd a 0 = c) (K : c_Ev X k (if c then x else pc + 3) L st h Q) : c_Ev X k pc L (n_v a :: st) h Q := by
  refine e_st hq rfl ?_ K
  show some (if c_cmp cd (Int32.ofInt a) (Int32.ofInt 0) then x else pc + 3, L, st, h) = _
  rw [n_cmp_ok ha ⟨by omega, by omega⟩, hc]
theorem e_max {a b : Int} {i : Nat} {x y} (hq : c_q k pc = some (.invokestatic i, x, y, 7)) (ha : n_r a) (hb : n_r b) (hs : (st.map fun v => v.category).sum ≤ 8) (K : c_Ev X k (pc + 3) L (n_v (max a b) :: st) h Q) : c_Ev X k pc L (n_v b :: n_v a :: st) h Q := by
  refine e_st hq rfl ?_ K
  show (if (st.map fun v => v.category).sum ≤ 8 then some (pc + 3, L, Value.int (if Int32.ofInt a < Int32.ofInt b then Int32.ofInt b else Int32.ofInt a) :: st, h) else none) = _
  rw [if_pos hs]
  simp only [n_lt ha hb]
  by_cases e : a < b
  · rw [if_pos e, show max a b = b by omega]
  · rw [if_neg e, show max a b = a by omega]
theorem e_min {a b : Int} {i : Nat} {x y} (hq : c_q k pc = some (.invokestatic i, x, y, 8)) (ha : n_r a) (hb : n_r b) (hs : (st.map fun v => v.category).sum ≤ 8) (K : c_Ev X k (pc + 3) L (n_v (min a b) :: st) h Q) : c_Ev X k pc L (n_v b :: n_v a :: st) h Q := by
  refine e_st hq rfl ?_ K
  show (if (st.map fun v => v.category).sum ≤ 8 then some (pc + 3, L, Value.int (if Int32.ofInt b < Int32.ofInt a then Int32.ofInt b else Int32.ofInt a) :: st, h) else none) = _
  rw [if_pos hs]
  simp only [n_lt hb ha]
  by_cases e : b < a
  · rw [if_pos e, show min a b = b by omega]
  · rw [if_neg e, show min a b = a by omega]
/-! the heap -/
def n_arr (n : Nat) (f : Nat → Int) : c_Cell := some (.inr (0, (List.range n).map (fun t => n_v (f t))))
/-- at b lies a row of n numbers f -/
def c_ar (h : c_Hp) (b n : Nat) (f : Nat → Int) : Prop := h[b]? = some (n_arr n f)
/-- at a lies an object of the class k with the fields fs -/
def c_ob (h : c_Hp) (a k : Nat) (fs : List Value) : Prop := h[a]? = some (some (.inl (k, fs)))
/-- h2 is h but for the cell at a, which is c -/
def c_up (h h2 : c_Hp) (a : Nat) (c : c_Cell) : Prop := h2.length = h.length ∧ h2[a]? = some c ∧ (∀ q, q ≠ a → h2[q]? = h[q]?) ∧ c_msz h2 = c_msz h
theorem c_ob.fs {a k : Nat} {fs : List Value} (o : c_ob h a k fs) : c_fs h a k = some fs := by
  unfold c_fs
  rw [show h[a]? = _ from o]
  simp
theorem c_ar.vs {b n : Nat} {f : Nat → Int} (o : c_ar h b n f) : c_vs h b 0 = some ((List.range n).map (fun t => n_v (f t))) := by
  unfold c_vs
  rw [show h[b]? = _ from o]
  rfl
theorem c_ar.up {b n a : Nat} {f : Nat → Int} {c : c_Cell} {h2 : c_Hp} (o : c_ar h b n f) (u : c_up h h2 a c) (hne : b ≠ a) : c_ar h2 b n f := by
  unfold c_ar
  rw [u.2.2.1 b hne]
  exact o
theorem c_ob.up {b k a : Nat} {fs : List Value} {c : c_Cell} {h2 : c_Hp} (o : c_ob h b k fs) (u : c_up h h2 a c) (hne : b ≠ a) : c_ob h2 b k fs := by
  unfold c_ob
  rw [u.2.2.1 b hne]
  exact o
theorem c_up.tr {h2 h3 : c_Hp} {a : Nat} {c c2 : c_Cell} (u : c_up h h2 a c) (v : c_up h2 h3 a c2) : c_up h h3 a c2 := ⟨v.1.trans u.1, v.2.1, fun q hq => (v.2.2.1 q hq).trans (u.2.2.1 q hq), v.2.2.2.trans u.2.2.2⟩
theorem c_up.mk {a : Nat} {c c0 : c_Cell} (h0 : h[a]? = some c0) (hc : c_sz c0 = c_sz c) : c_up h (h.set a c) a c := by
  have hl : a < h.length := (List.getElem?_eq_some_iff.mp h0).1
  refine ⟨List.length_set, ?_, fun q hq => ?_, c_msz_set h0 hc⟩
  · rw [List.getElem?_set]; simp [hl]
  · rw [List.getElem?_set_ne (fun e => hq e.symm)]
theorem c_up.rf {a : Nat} {c : c_Cell} (h0 : h[a]? = some c) : c_up h h a c := ⟨rfl, h0, fun _ _ => rfl, rfl⟩
theorem n_arr_sz (n : Nat) (f : Nat → Int) : c_sz (n_arr n f) = n := by simp [n_arr, c_sz]
theorem n_arr_set (n j : Nat) (f : Nat → Int) (x : Int) : ((List.range n).map (fun t => n_v (f t))).set j (n_v x) = (List.range n).map (fun t => n_v (if t = j then x else f t)) := by
  refine List.ext_getElem? fun i => ?_
  rw [List.getElem?_set]
  by_cases e : j = i
  · subst e
    by_cases h1 : j < n
    · rw [if_pos rfl, if_pos (by simpa using h1), List.getElem?_map, List.getElem?_range h1]
      simp
    · rw [if_pos rfl, if_neg (by simpa using h1), List.getElem?_eq_none (by simpa using h1)]
  · rw [if_neg e, List.getElem?_map, List.getElem?_map]
    by_cases h1 : i < n
    · have e2 : ¬ i = j := fun z => e z.symm
      rw [List.getElem?_range h1]
      simp [e2]
    · rw [List.getElem?_eq_none (by simpa using h1)]
      rfl
theorem n_ix {j n : Nat} (hj : j < n) (hn : n ≤ 100000) : c_ix (Int32.ofInt (j : Int)) n = some j := by
  have hr : n_r (j : Int) := ⟨by omega, by omega⟩
  have h0 : ¬ Int32.ofInt (j : Int) < 0 := by
    rw [show (0 : Int32) = Int32.ofInt 0 from rfl, n_lt hr ⟨by omega, by omega⟩]
    omega
  have h1 : (Int32.ofInt (j : Int)).toNatClampNeg = j := by
    show (Int32.ofInt (j : Int)).toInt.toNat = j
    rw [n_toInt hr]
    rfl
  unfold c_ix
  rw [if_neg h0, h1, if_pos hj]
theorem e_getf {i a kc j : Nat} {z : Nat} {fs : List Value} {v : Value} (hq : c_q k pc = some (.getfield i, kc, j, z)) (o : c_ob h a kc fs) (hv : fs[j]? = some v) (K : c_Ev X k (pc + 3) L (v :: st) h Q) : c_Ev X k pc L (.ref a :: st) h Q := by
  refine e_st hq rfl ?_ K
  show c_getf (.getfield i, kc, j, z) pc L (.ref a :: st) h = _
  unfold c_getf
  simp only [o.fs, hv]
theorem e_putf {i a kc j : Nat} {z : Nat} {fs fs2 : List Value} {v : Value} (hq : c_q k pc = some (.putfield i, kc, j, z)) (o : c_ob h a kc fs) (hv : c_okv (c_ty kc j) v = true) (hj : j < fs.length) (hf : fs.set j v = fs2) (K : ∀ h2, c_up h h2 a (some (.inl (kc, fs2))) → c_Ev X k (pc + 3) L st h2 Q) : c_Ev X k pc L (v :: .ref a :: st) h Q := by
  subst hf
  refine e_st hq rfl ?_ (K _ (c_up.mk o (by simp [c_sz])))
  show c_putf c_ty (.putfield i, kc, j, z) pc L (v :: .ref a :: st) h = _
  unfold c_putf
  simp only [o.fs, hv, hj, if_true]
theorem e_ald {b n j : Nat} {e : Int} {f : Nat → Int} {x y z} (hq : c_q k pc = some (.iaload, x, y, z)) (o : c_ar h b n f) (he : e = (j : Int)) (hj : j < n) (hn : n ≤ 100000) (K : c_Ev X k (pc + 1) L (n_v (f j) :: st) h Q) : c_Ev X k pc L (n_v e :: .ref b :: st) h Q := by
  subst he
  refine e_st hq rfl ?_ K
  show c_iald X pc L (n_v (j : Int) :: .ref b :: st) h = _
  unfold c_iald
  simp only [o.vs, List.length_map, List.length_range, n_ix hj hn, List.getElem?_map, List.getElem?_range hj, Option.map_some]
theorem e_ast {b n j : Nat} {e v : Int} {f : Nat → Int} {x y z} (hq : c_q k pc = some (.iastore, x, y, z)) (o : c_ar h b n f) (he : e = (j : Int)) (hj : j < n) (hn : n ≤ 100000) (K : ∀ h2, c_up h h2 b (n_arr n (fun t => if t = j then v else f t)) → c_Ev X k (pc + 1) L st h2 Q) : c_Ev X k pc L (n_v v :: n_v e :: .ref b :: st) h Q := by
  subst he
  refine e_st hq rfl ?_ (K (h.set b (n_arr n (fun t => if t = j then v else f t))) (c_up.mk o (by rw [n_arr_sz, n_arr_sz])))
  show c_iast pc L (n_v v :: n_v (j : Int) :: .ref b :: st) h = _
  unfold c_iast
  simp only [o.vs, List.length_map, List.length_range, n_ix hj hn]
  rw [n_arr_set]
  rfl
theorem e_len {b n : Nat} {f : Nat → Int} {i : Nat} (hq : c_q k pc = some (.arraylength, 0, i, 0)) (o : c_ar h b n f) (K : c_Ev X k (pc + 1) L (n_v (n : Int) :: st) h Q) : c_Ev X k pc L (.ref b :: st) h Q := by
  refine e_st hq rfl ?_ K
  show c_alen X (.arraylength, 0, i, 0) pc L (.ref b :: st) h = _
  unfold c_alen
  simp only [o.vs, List.length_map, List.length_range]
  rfl
end Rules
end
section
section Rules2
variable {X : List Int32} {k pc : Nat} {L : c_Ls} {st : List Value} {h : c_Hp} {Q : c_O × c_Hp → Prop}
theorem e_cst {q : c_I} {v : Int} {len : Nat} {x : Int32} (hq : c_q k pc = some q) (hd : c_kd q = 0) (hs : c_stp c_ty c_nf X q pc L st h = some (pc + len, L, .int x :: st, h)) (hx : x = Int32.ofInt v) (K : c_Ev X k (pc + len) L (n_v v :: st) h Q) : c_Ev X k pc L st h Q := by
  subst hx
  exact e_st hq hd hs K
theorem e_callS {q : c_I} {mz : c_M} {as rest : List Value} {L0 : c_Ls} (hq : c_q k pc = some q) (hd : c_kd q = 4) (hz : c_P[q.2.1]? = some mz) (hs : c_isS q = true) (hn : Nat.ble (c_cn q) st.length = true) (ht : (st.take (c_cn q)).reverse = as) (hr : st.drop (c_cn q) = rest) (h8 : Nat.ble (rest.map fun v => v.category).sum 8 = true) (hL : c_ent as (c_mL mz) = L0)
    (he : L0.length = c_mL mz) (K : c_Ev X q.2.1 0 L0 [] h (c_after X k pc L rest Q)) : c_Ev X k pc L st h Q := by
  subst ht hr hL
  refine e_call hq hd hz ?_ rfl K
  unfold c_prt
  rw [if_neg (Nat.not_lt.mpr (Nat.le_of_ble_eq_true hn))]
  simp only
  rw [if_pos (Nat.le_of_ble_eq_true h8), hs]
  simp only [c_rcv, if_true]
  rw [if_pos he]
theorem e_callV {q : c_I} {mz : c_M} {a : Nat} {as rest fs : List Value} {L0 : c_Ls} (hq : c_q k pc = some q) (hd : c_kd q = 4) (hz : c_P[q.2.1]? = some mz) (hs : c_isS q = false) (hn : Nat.ble (c_cn q) st.length = true) (ht : (st.take (c_cn q)).reverse = .ref a :: as) (hr : st.drop (c_cn q) = rest) (h8 : Nat.ble (rest.map fun v => v.category).sum 8 = true) (o : c_ob h a (c_mk mz) fs) (hL : c_ent (.ref a :: as) (c_mL mz) = L0)
    (he : L0.length = c_mL mz) (K : c_Ev X q.2.1 0 L0 [] h (c_after X k pc L rest Q)) : c_Ev X k pc L st h Q := by
  subst hr hL
  refine e_call hq hd hz ?_ rfl K
  unfold c_prt
  rw [if_neg (Nat.not_lt.mpr (Nat.le_of_ble_eq_true hn))]
  simp only
  rw [if_pos (Nat.le_of_ble_eq_true h8), hs, ht]
  simp only [c_rcv, o.fs, Option.isSome_some]
  rw [if_pos (show (if false = true then true else true) = true from rfl), if_pos he]
theorem e_k {v : Value} {rest : List Value} {h1 : c_Hp} (K : c_Ev X k (pc + 3) L (v :: rest) h1 Q) : c_after X k pc L rest Q (.inl (some v), h1) := K
theorem e_k0 {rest : List Value} {h1 : c_Hp} (K : c_Ev X k (pc + 3) L rest h1 Q) : c_after X k pc L rest Q (.inl none, h1) := K
end Rules2
theorem n_t_eq {a b : Int} (h : a = b) : n_cmp .eq a b = true := decide_eq_true h
theorem n_f_eq {a b : Int} (h : ¬ (a = b)) : n_cmp .eq a b = false := decide_eq_false h
theorem n_t_ne {a b : Int} (h : ¬ a = b) : n_cmp .ne a b = true := decide_eq_true h
theorem n_f_ne {a b : Int} (h : ¬ (¬ a = b)) : n_cmp .ne a b = false := decide_eq_false h
theorem n_t_lt {a b : Int} (h : a < b) : n_cmp .lt a b = true := decide_eq_true h
theorem n_f_lt {a b : Int} (h : ¬ (a < b)) : n_cmp .lt a b = false := decide_eq_false h
theorem n_t_ge {a b : Int} (h : b ≤ a) : n_cmp .ge a b = true := decide_eq_true h
theorem n_f_ge {a b : Int} (h : ¬ (b ≤ a)) : n_cmp .ge a b = false := decide_eq_false h
theorem n_t_gt {a b : Int} (h : b < a) : n_cmp .gt a b = true := decide_eq_true h
theorem n_f_gt {a b : Int} (h : ¬ (b < a)) : n_cmp .gt a b = false := decide_eq_false h
theorem n_t_le {a b : Int} (h : a ≤ b) : n_cmp .le a b = true := decide_eq_true h
theorem n_f_le {a b : Int} (h : ¬ (a ≤ b)) : n_cmp .le a b = false := decide_eq_false h
end
section
theorem q0_0 : c_q 0 0 = some (.aload_n 0, 0, 0, 0) := by decide +kernel
theorem q0_1 : c_q 0 1 = some (.invokespecial 1, 0, 0, 6) := by decide +kernel
theorem q0_4 : c_q 0 4 = some (.aload_n 0, 0, 0, 0) := by decide +kernel
theorem q0_5 : c_q 0 5 = some (.new 7, 6, 0, 0) := by decide +kernel
theorem q0_8 : c_q 0 8 = some (.dup, 0, 0, 0) := by decide +kernel
theorem q0_9 : c_q 0 9 = some (.invokespecial 9, 49, 0, 5) := by decide +kernel
theorem q0_12 : c_q 0 12 = some (.putfield 10, 10, 0, 0) := by decide +kernel
theorem q0_15 : c_q 0 15 = some (.aload_n 0, 0, 0, 0) := by decide +kernel
theorem q0_16 : c_q 0 16 = some (.new 16, 4, 0, 0) := by decide +kernel
theorem q0_19 : c_q 0 19 = some (.dup, 0, 0, 0) := by decide +kernel
theorem q0_20 : c_q 0 20 = some (.invokespecial 18, 38, 0, 5) := by decide +kernel
theorem q0_23 : c_q 0 23 = some (.putfield 19, 10, 1, 0) := by decide +kernel
theorem q0_26 : c_q 0 26 = some (.aload_n 0, 0, 0, 0) := by decide +kernel
theorem q0_27 : c_q 0 27 = some (.new 23, 0, 0, 0) := by decide +kernel
theorem q0_30 : c_q 0 30 = some (.dup, 0, 0, 0) := by decide +kernel
theorem q0_31 : c_q 0 31 = some (.invokespecial 25, 24, 0, 5) := by decide +kernel
theorem q0_34 : c_q 0 34 = some (.putfield 26, 10, 2, 0) := by decide +kernel
theorem q0_37 : c_q 0 37 = some (.aload_n 0, 0, 0, 0) := by decide +kernel
theorem q0_38 : c_q 0 38 = some (.new 30, 3, 0, 0) := by decide +kernel
theorem q0_41 : c_q 0 41 = some (.dup, 0, 0, 0) := by decide +kernel
theorem q0_42 : c_q 0 42 = some (.invokespecial 32, 30, 0, 5) := by decide +kernel
theorem q0_45 : c_q 0 45 = some (.putfield 33, 10, 3, 0) := by decide +kernel
theorem q0_48 : c_q 0 48 = some (.aload_n 0, 0, 0, 0) := by decide +kernel
theorem q0_49 : c_q 0 49 = some (.new 37, 7, 0, 0) := by decide +kernel
theorem q0_52 : c_q 0 52 = some (.dup, 0, 0, 0) := by decide +kernel
theorem q0_53 : c_q 0 53 = some (.invokespecial 39, 58, 0, 5) := by decide +kernel
theorem q0_56 : c_q 0 56 = some (.putfield 40, 10, 4, 0) := by decide +kernel
theorem q0_59 : c_q 0 59 = some (.aload_n 0, 0, 0, 0) := by decide +kernel
theorem q0_60 : c_q 0 60 = some (.new 44, 8, 0, 0) := by decide +kernel
theorem q0_63 : c_q 0 63 = some (.dup, 0, 0, 0) := by decide +kernel
theorem q0_64 : c_q 0 64 = some (.invokespecial 46, 66, 0, 5) := by decide +kernel
theorem q0_67 : c_q 0 67 = some (.putfield 47, 10, 5, 0) := by decide +kernel
theorem q0_70 : c_q 0 70 = some (.aload_n 0, 0, 0, 0) := by decide +kernel
theorem q0_71 : c_q 0 71 = some (.new 51, 1, 0, 0) := by decide +kernel
theorem q0_74 : c_q 0 74 = some (.dup, 0, 0, 0) := by decide +kernel
theorem q0_75 : c_q 0 75 = some (.invokespecial 53, 28, 0, 5) := by decide +kernel
theorem q0_78 : c_q 0 78 = some (.putfield 54, 10, 6, 0) := by decide +kernel
theorem q0_81 : c_q 0 81 = some (.aload_n 0, 0, 0, 0) := by decide +kernel
theorem q0_82 : c_q 0 82 = some (.new 58, 9, 0, 0) := by decide +kernel
theorem q0_85 : c_q 0 85 = some (.dup, 0, 0, 0) := by decide +kernel
theorem q0_86 : c_q 0 86 = some (.invokespecial 60, 67, 0, 5) := by decide +kernel
theorem q0_89 : c_q 0 89 = some (.putfield 61, 10, 7, 0) := by decide +kernel
theorem q0_92 : c_q 0 92 = some (.aload_n 0, 0, 0, 0) := by decide +kernel
theorem q0_93 : c_q 0 93 = some (.new 65, 2, 0, 0) := by decide +kernel
theorem q0_96 : c_q 0 96 = some (.dup, 0, 0, 0) := by decide +kernel
theorem q0_97 : c_q 0 97 = some (.invokespecial 67, 29, 0, 5) := by decide +kernel
theorem q0_100 : c_q 0 100 = some (.putfield 68, 10, 8, 0) := by decide +kernel
theorem q0_103 : c_q 0 103 = some (.aload_n 0, 0, 0, 0) := by decide +kernel
theorem q0_104 : c_q 0 104 = some (.new 72, 5, 0, 0) := by decide +kernel
theorem q0_107 : c_q 0 107 = some (.dup, 0, 0, 0) := by decide +kernel
theorem q0_108 : c_q 0 108 = some (.invokespecial 74, 45, 0, 5) := by decide +kernel
theorem q0_111 : c_q 0 111 = some (.putfield 75, 10, 9, 0) := by decide +kernel
theorem q0_114 : c_q 0 114 = some (.aload_n 0, 0, 0, 0) := by decide +kernel
theorem q0_115 : c_q 0 115 = some (.new 7, 6, 0, 0) := by decide +kernel
theorem q0_118 : c_q 0 118 = some (.dup, 0, 0, 0) := by decide +kernel
theorem q0_119 : c_q 0 119 = some (.invokespecial 9, 49, 0, 5) := by decide +kernel
theorem q0_122 : c_q 0 122 = some (.putfield 79, 10, 10, 0) := by decide +kernel
theorem q0_125 : c_q 0 125 = some (.aload_n 0, 0, 0, 0) := by decide +kernel
theorem q0_126 : c_q 0 126 = some (.new 7, 6, 0, 0) := by decide +kernel
theorem q0_129 : c_q 0 129 = some (.dup, 0, 0, 0) := by decide +kernel
theorem q0_130 : c_q 0 130 = some (.invokespecial 9, 49, 0, 5) := by decide +kernel
theorem q0_133 : c_q 0 133 = some (.putfield 82, 10, 11, 0) := by decide +kernel
theorem q0_136 : c_q 0 136 = some (.aload_n 0, 0, 0, 0) := by decide +kernel
theorem q0_137 : c_q 0 137 = some (.getfield 10, 10, 0, 0) := by decide +kernel
theorem q0_140 : c_q 0 140 = some (.bipush (10), 0, 0, 0) := by decide +kernel
theorem q0_142 : c_q 0 142 = some (.iconst 1, 0, 0, 0) := by decide +kernel
theorem q0_143 : c_q 0 143 = some (.iconst 0, 0, 0, 0) := by decide +kernel
theorem q0_144 : c_q 0 144 = some (.invokevirtual 85, 50, 3, 3) := by decide +kernel
theorem q0_147 : c_q 0 147 = some (.return_, 0, 0, 0) := by decide +kernel
theorem q1_0 : c_q 1 0 = some (.iload_n 1, 0, 0, 0) := by decide +kernel
theorem q1_1 : c_q 1 1 = some (.iconst 1, 0, 0, 0) := by decide +kernel
theorem q1_2 : c_q 1 2 = some (.bipush (60), 0, 0, 0) := by decide +kernel
theorem q1_4 : c_q 1 4 = some (.invokestatic 89, 14, 3, 0) := by decide +kernel
theorem q1_7 : c_q 1 7 = some (.iload_n 2, 0, 0, 0) := by decide +kernel
theorem q1_8 : c_q 1 8 = some (.iconst 1, 0, 0, 0) := by decide +kernel
theorem q1_9 : c_q 1 9 = some (.iconst 4, 0, 0, 0) := by decide +kernel
theorem q1_10 : c_q 1 10 = some (.invokestatic 89, 14, 3, 0) := by decide +kernel
theorem q1_13 : c_q 1 13 = some (.aload_n 0, 0, 0, 0) := by decide +kernel
theorem q1_14 : c_q 1 14 = some (.getfield 10, 10, 0, 0) := by decide +kernel
theorem q1_17 : c_q 1 17 = some (.getfield 93, 6, 2, 1) := by decide +kernel
theorem q1_20 : c_q 1 20 = some (.istore 4, 0, 0, 0) := by decide +kernel
theorem q1_22 : c_q 1 22 = some (.aload_n 0, 0, 0, 0) := by decide +kernel
theorem q1_23 : c_q 1 23 = some (.getfield 10, 10, 0, 0) := by decide +kernel
theorem q1_26 : c_q 1 26 = some (.iload_n 1, 0, 0, 0) := by decide +kernel
theorem q1_27 : c_q 1 27 = some (.iload_n 2, 0, 0, 0) := by decide +kernel
theorem q1_28 : c_q 1 28 = some (.iload_n 3, 0, 0, 0) := by decide +kernel
theorem q1_29 : c_q 1 29 = some (.invokevirtual 85, 50, 3, 3) := by decide +kernel
theorem q1_32 : c_q 1 32 = some (.aload_n 0, 0, 0, 0) := by decide +kernel
theorem q1_33 : c_q 1 33 = some (.getfield 19, 10, 1, 0) := by decide +kernel
theorem q1_36 : c_q 1 36 = some (.invokevirtual 97, 39, 0, 3) := by decide +kernel
theorem q1_39 : c_q 1 39 = some (.iload 4, 0, 0, 0) := by decide +kernel
theorem q1_41 : c_q 1 41 = some (.ireturn, 0, 0, 0) := by decide +kernel
theorem q2_0 : c_q 2 0 = some (.aload_n 0, 0, 0, 0) := by decide +kernel
theorem q2_1 : c_q 2 1 = some (.iload_n 1, 0, 0, 0) := by decide +kernel
theorem q2_2 : c_q 2 2 = some (.invokevirtual 100, 15, 1, 2) := by decide +kernel
theorem q2_5 : c_q 2 5 = some (.iload_n 2, 0, 0, 0) := by decide +kernel
theorem q2_6 : c_q 2 6 = some (.iconst 1, 0, 0, 0) := by decide +kernel
theorem q2_7 : c_q 2 7 = some (.iconst 4, 0, 0, 0) := by decide +kernel
theorem q2_8 : c_q 2 8 = some (.invokestatic 89, 14, 3, 0) := by decide +kernel
theorem q2_11 : c_q 2 11 = some (.aload_n 0, 0, 0, 0) := by decide +kernel
theorem q2_12 : c_q 2 12 = some (.getfield 10, 10, 0, 0) := by decide +kernel
theorem q2_15 : c_q 2 15 = some (.getfield 104, 6, 0, 1) := by decide +kernel
theorem q2_18 : c_q 2 18 = some (.iload_n 1, 0, 0, 0) := by decide +kernel
theorem q2_19 : c_q 2 19 = some (.iaload, 0, 0, 0) := by decide +kernel
theorem q2_20 : c_q 2 20 = some (.istore_n 3, 0, 0, 0) := by decide +kernel
theorem q2_21 : c_q 2 21 = some (.aload_n 0, 0, 0, 0) := by decide +kernel
theorem q2_22 : c_q 2 22 = some (.getfield 10, 10, 0, 0) := by decide +kernel
theorem q2_25 : c_q 2 25 = some (.getfield 104, 6, 0, 1) := by decide +kernel
theorem q2_28 : c_q 2 28 = some (.iload_n 1, 0, 0, 0) := by decide +kernel
theorem q2_29 : c_q 2 29 = some (.iload_n 2, 0, 0, 0) := by decide +kernel
theorem q2_30 : c_q 2 30 = some (.iastore, 0, 0, 0) := by decide +kernel
theorem q2_31 : c_q 2 31 = some (.aload_n 0, 0, 0, 0) := by decide +kernel
theorem q2_32 : c_q 2 32 = some (.getfield 10, 10, 0, 0) := by decide +kernel
theorem q2_35 : c_q 2 35 = some (.getfield 108, 6, 1, 1) := by decide +kernel
theorem q2_38 : c_q 2 38 = some (.iload_n 1, 0, 0, 0) := by decide +kernel
theorem q2_39 : c_q 2 39 = some (.aload_n 0, 0, 0, 0) := by decide +kernel
theorem q2_40 : c_q 2 40 = some (.getfield 10, 10, 0, 0) := by decide +kernel
theorem q2_43 : c_q 2 43 = some (.getfield 108, 6, 1, 1) := by decide +kernel
theorem q2_46 : c_q 2 46 = some (.iload_n 1, 0, 0, 0) := by decide +kernel
theorem q2_47 : c_q 2 47 = some (.iaload, 0, 0, 0) := by decide +kernel
theorem q2_48 : c_q 2 48 = some (.iload_n 2, 0, 0, 0) := by decide +kernel
theorem q2_49 : c_q 2 49 = some (.invokestatic 111, 0, 0, 8) := by decide +kernel
theorem q2_52 : c_q 2 52 = some (.iastore, 0, 0, 0) := by decide +kernel
theorem q2_53 : c_q 2 53 = some (.iload_n 3, 0, 0, 0) := by decide +kernel
theorem q2_54 : c_q 2 54 = some (.ireturn, 0, 0, 0) := by decide +kernel
theorem q3_0 : c_q 3 0 = some (.aload_n 0, 0, 0, 0) := by decide +kernel
theorem q3_1 : c_q 3 1 = some (.iload_n 1, 0, 0, 0) := by decide +kernel
theorem q3_2 : c_q 3 2 = some (.invokevirtual 100, 15, 1, 2) := by decide +kernel
theorem q3_5 : c_q 3 5 = some (.iload_n 2, 0, 0, 0) := by decide +kernel
theorem q3_6 : c_q 3 6 = some (.iconst 0, 0, 0, 0) := by decide +kernel
theorem q3_7 : c_q 3 7 = some (.aload_n 0, 0, 0, 0) := by decide +kernel
theorem q3_8 : c_q 3 8 = some (.getfield 10, 10, 0, 0) := by decide +kernel
theorem q3_11 : c_q 3 11 = some (.getfield 104, 6, 0, 1) := by decide +kernel
theorem q3_14 : c_q 3 14 = some (.iload_n 1, 0, 0, 0) := by decide +kernel
theorem q3_15 : c_q 3 15 = some (.iaload, 0, 0, 0) := by decide +kernel
theorem q3_16 : c_q 3 16 = some (.invokestatic 89, 14, 3, 0) := by decide +kernel
theorem q3_19 : c_q 3 19 = some (.aload_n 0, 0, 0, 0) := by decide +kernel
theorem q3_20 : c_q 3 20 = some (.getfield 10, 10, 0, 0) := by decide +kernel
theorem q3_23 : c_q 3 23 = some (.getfield 108, 6, 1, 1) := by decide +kernel
theorem q3_26 : c_q 3 26 = some (.iload_n 1, 0, 0, 0) := by decide +kernel
theorem q3_27 : c_q 3 27 = some (.iaload, 0, 0, 0) := by decide +kernel
theorem q3_28 : c_q 3 28 = some (.istore_n 3, 0, 0, 0) := by decide +kernel
theorem q3_29 : c_q 3 29 = some (.aload_n 0, 0, 0, 0) := by decide +kernel
theorem q3_30 : c_q 3 30 = some (.getfield 10, 10, 0, 0) := by decide +kernel
theorem q3_33 : c_q 3 33 = some (.getfield 108, 6, 1, 1) := by decide +kernel
theorem q3_36 : c_q 3 36 = some (.iload_n 1, 0, 0, 0) := by decide +kernel
theorem q3_37 : c_q 3 37 = some (.iload_n 2, 0, 0, 0) := by decide +kernel
theorem q3_38 : c_q 3 38 = some (.iastore, 0, 0, 0) := by decide +kernel
theorem q3_39 : c_q 3 39 = some (.iload_n 3, 0, 0, 0) := by decide +kernel
theorem q3_40 : c_q 3 40 = some (.ireturn, 0, 0, 0) := by decide +kernel
theorem q4_0 : c_q 4 0 = some (.aload_n 0, 0, 0, 0) := by decide +kernel
theorem q4_1 : c_q 4 1 = some (.iload_n 1, 0, 0, 0) := by decide +kernel
theorem q4_2 : c_q 4 2 = some (.invokevirtual 100, 15, 1, 2) := by decide +kernel
theorem q4_5 : c_q 4 5 = some (.aload_n 0, 0, 0, 0) := by decide +kernel
theorem q4_6 : c_q 4 6 = some (.getfield 10, 10, 0, 0) := by decide +kernel
theorem q4_9 : c_q 4 9 = some (.getfield 108, 6, 1, 1) := by decide +kernel
theorem q4_12 : c_q 4 12 = some (.iload_n 1, 0, 0, 0) := by decide +kernel
theorem q4_13 : c_q 4 13 = some (.iaload, 0, 0, 0) := by decide +kernel
theorem q4_14 : c_q 4 14 = some (.ireturn, 0, 0, 0) := by decide +kernel
theorem q5_0 : c_q 5 0 = some (.aload_n 0, 0, 0, 0) := by decide +kernel
theorem q5_1 : c_q 5 1 = some (.getfield 10, 10, 0, 0) := by decide +kernel
theorem q5_4 : c_q 5 4 = some (.invokevirtual 117, 56, 0, 3) := by decide +kernel
theorem q5_7 : c_q 5 7 = some (.ireturn, 0, 0, 0) := by decide +kernel
theorem q6_0 : c_q 6 0 = some (.aload_n 0, 0, 0, 0) := by decide +kernel
theorem q6_1 : c_q 6 1 = some (.iload_n 1, 0, 0, 0) := by decide +kernel
theorem q6_2 : c_q 6 2 = some (.iconst 1, 0, 0, 0) := by decide +kernel
theorem q6_3 : c_q 6 3 = some (.invokevirtual 121, 16, 2, 2) := by decide +kernel
theorem q6_6 : c_q 6 6 = some (.ireturn, 0, 0, 0) := by decide +kernel
theorem q7_0 : c_q 7 0 = some (.aload_n 0, 0, 0, 0) := by decide +kernel
theorem q7_1 : c_q 7 1 = some (.iload_n 1, 0, 0, 0) := by decide +kernel
theorem q7_2 : c_q 7 2 = some (.iconst 0, 0, 0, 0) := by decide +kernel
theorem q7_3 : c_q 7 3 = some (.invokevirtual 121, 16, 2, 2) := by decide +kernel
theorem q7_6 : c_q 7 6 = some (.ireturn, 0, 0, 0) := by decide +kernel
theorem q8_0 : c_q 8 0 = some (.iload_n 1, 0, 0, 0) := by decide +kernel
theorem q8_1 : c_q 8 1 = some (.iconst 1, 0, 0, 0) := by decide +kernel
theorem q8_2 : c_q 8 2 = some (.bipush (99), 0, 0, 0) := by decide +kernel
theorem q8_4 : c_q 8 4 = some (.invokestatic 89, 14, 3, 0) := by decide +kernel
theorem q8_7 : c_q 8 7 = some (.iload_n 2, 0, 0, 0) := by decide +kernel
theorem q8_8 : c_q 8 8 = some (.iconst 1, 0, 0, 0) := by decide +kernel
theorem q8_9 : c_q 8 9 = some (.bipush (99), 0, 0, 0) := by decide +kernel
theorem q8_11 : c_q 8 11 = some (.invokestatic 89, 14, 3, 0) := by decide +kernel
theorem q8_14 : c_q 8 14 = some (.iconst 0, 0, 0, 0) := by decide +kernel
theorem q8_15 : c_q 8 15 = some (.istore_n 3, 0, 0, 0) := by decide +kernel
theorem q8_16 : c_q 8 16 = some (.iload_n 3, 0, 0, 0) := by decide +kernel
theorem q8_17 : c_q 8 17 = some (.iload_n 1, 0, 0, 0) := by decide +kernel
theorem q8_18 : c_q 8 18 = some (.if_icmp .ge (29), 47, 0, 0) := by decide +kernel
theorem q8_21 : c_q 8 21 = some (.aload_n 0, 0, 0, 0) := by decide +kernel
theorem q8_22 : c_q 8 22 = some (.getfield 26, 10, 2, 0) := by decide +kernel
theorem q8_25 : c_q 8 25 = some (.aload_n 0, 0, 0, 0) := by decide +kernel
theorem q8_26 : c_q 8 26 = some (.getfield 10, 10, 0, 0) := by decide +kernel
theorem q8_29 : c_q 8 29 = some (.iload_n 2, 0, 0, 0) := by decide +kernel
theorem q8_30 : c_q 8 30 = some (.iconst 1, 0, 0, 0) := by decide +kernel
theorem q8_31 : c_q 8 31 = some (.invokevirtual 125, 25, 3, 3) := by decide +kernel
theorem q8_34 : c_q 8 34 = some (.ifCond .eq (13), 47, 0, 0) := by decide +kernel
theorem q8_37 : c_q 8 37 = some (.aload_n 0, 0, 0, 0) := by decide +kernel
theorem q8_38 : c_q 8 38 = some (.invokevirtual 129, 17, 0, 2) := by decide +kernel
theorem q8_41 : c_q 8 41 = some (.iinc 3 (1), 0, 0, 0) := by decide +kernel
theorem q8_44 : c_q 8 44 = some (.goto (-28), 16, 0, 0) := by decide +kernel
theorem q8_47 : c_q 8 47 = some (.iload_n 3, 0, 0, 0) := by decide +kernel
theorem q8_48 : c_q 8 48 = some (.ireturn, 0, 0, 0) := by decide +kernel
theorem q9_0 : c_q 9 0 = some (.aload_n 0, 0, 0, 0) := by decide +kernel
theorem q9_1 : c_q 9 1 = some (.getfield 19, 10, 1, 0) := by decide +kernel
theorem q9_4 : c_q 9 4 = some (.getfield 132, 4, 2, 1) := by decide +kernel
theorem q9_7 : c_q 9 7 = some (.ireturn, 0, 0, 0) := by decide +kernel
theorem q10_0 : c_q 10 0 = some (.aload_n 0, 0, 0, 0) := by decide +kernel
theorem q10_1 : c_q 10 1 = some (.getfield 19, 10, 1, 0) := by decide +kernel
theorem q10_4 : c_q 10 4 = some (.iload_n 1, 0, 0, 0) := by decide +kernel
theorem q10_5 : c_q 10 5 = some (.invokevirtual 135, 40, 1, 3) := by decide +kernel
theorem q10_8 : c_q 10 8 = some (.ifCond .ne (13), 21, 0, 0) := by decide +kernel
theorem q10_11 : c_q 10 11 = some (.new 139, 3, 0, 1) := by decide +kernel
theorem q10_21 : c_q 10 21 = some (.aload_n 0, 0, 0, 0) := by decide +kernel
theorem q10_22 : c_q 10 22 = some (.iload_n 2, 0, 0, 0) := by decide +kernel
theorem q10_23 : c_q 10 23 = some (.invokevirtual 100, 15, 1, 2) := by decide +kernel
theorem q10_26 : c_q 10 26 = some (.aload_n 0, 0, 0, 0) := by decide +kernel
theorem q10_27 : c_q 10 27 = some (.getfield 19, 10, 1, 0) := by decide +kernel
theorem q10_30 : c_q 10 30 = some (.iload_n 1, 0, 0, 0) := by decide +kernel
theorem q10_31 : c_q 10 31 = some (.iload_n 2, 0, 0, 0) := by decide +kernel
theorem q10_32 : c_q 10 32 = some (.invokevirtual 146, 42, 2, 3) := by decide +kernel
theorem q10_35 : c_q 10 35 = some (.ireturn, 0, 0, 0) := by decide +kernel
theorem q11_0 : c_q 11 0 = some (.aload_n 0, 0, 0, 0) := by decide +kernel
theorem q11_1 : c_q 11 1 = some (.getfield 19, 10, 1, 0) := by decide +kernel
theorem q11_4 : c_q 11 4 = some (.iconst 1, 0, 0, 0) := by decide +kernel
theorem q11_5 : c_q 11 5 = some (.invokevirtual 135, 40, 1, 3) := by decide +kernel
theorem q11_8 : c_q 11 8 = some (.ifCond .ne (13), 21, 0, 0) := by decide +kernel
theorem q11_11 : c_q 11 11 = some (.new 139, 3, 0, 1) := by decide +kernel
theorem q11_21 : c_q 11 21 = some (.aload_n 0, 0, 0, 0) := by decide +kernel
theorem q11_22 : c_q 11 22 = some (.getfield 19, 10, 1, 0) := by decide +kernel
theorem q11_25 : c_q 11 25 = some (.aload_n 0, 0, 0, 0) := by decide +kernel
theorem q11_26 : c_q 11 26 = some (.getfield 10, 10, 0, 0) := by decide +kernel
theorem q11_29 : c_q 11 29 = some (.invokevirtual 151, 44, 1, 3) := by decide +kernel
theorem q11_32 : c_q 11 32 = some (.aload_n 0, 0, 0, 0) := by decide +kernel
theorem q11_33 : c_q 11 33 = some (.getfield 19, 10, 1, 0) := by decide +kernel
theorem q11_36 : c_q 11 36 = some (.getfield 132, 4, 2, 1) := by decide +kernel
theorem q11_39 : c_q 11 39 = some (.ireturn, 0, 0, 0) := by decide +kernel
theorem q12_0 : c_q 12 0 = some (.aload_n 0, 0, 0, 0) := by decide +kernel
theorem q12_1 : c_q 12 1 = some (.getfield 10, 10, 0, 0) := by decide +kernel
theorem q12_4 : c_q 12 4 = some (.invokevirtual 316, 57, 0, 3) := by decide +kernel
theorem q12_7 : c_q 12 7 = some (.i2f, 0, 0, 0) := by decide +kernel
theorem q12_8 : c_q 12 8 = some (.aload_n 0, 0, 0, 0) := by decide +kernel
theorem q12_9 : c_q 12 9 = some (.getfield 10, 10, 0, 0) := by decide +kernel
theorem q12_12 : c_q 12 12 = some (.getfield 93, 6, 2, 1) := by decide +kernel
theorem q12_15 : c_q 12 15 = some (.i2f, 0, 0, 0) := by decide +kernel
theorem q12_16 : c_q 12 16 = some (.fdiv, 0, 0, 0) := by decide +kernel
theorem q12_17 : c_q 12 17 = some (.fstore_n 1, 0, 0, 0) := by decide +kernel
theorem q12_18 : c_q 12 18 = some (.fload_n 1, 0, 0, 0) := by decide +kernel
theorem q12_19 : c_q 12 19 = some (.invokestatic 319, 23, 1, 0) := by decide +kernel
theorem q12_22 : c_q 12 22 = some (.ireturn, 0, 0, 0) := by decide +kernel
theorem q13_0 : c_q 13 0 = some (.aload_n 0, 0, 0, 0) := by decide +kernel
theorem q13_1 : c_q 13 1 = some (.invokevirtual 335, 18, 0, 2) := by decide +kernel
theorem q13_4 : c_q 13 4 = some (.ifCond .eq (24), 28, 0, 0) := by decide +kernel
theorem q13_7 : c_q 13 7 = some (.aload_n 0, 0, 0, 0) := by decide +kernel
theorem q13_8 : c_q 13 8 = some (.invokevirtual 338, 19, 0, 2) := by decide +kernel
theorem q13_11 : c_q 13 11 = some (.ifCond .eq (17), 28, 0, 0) := by decide +kernel
theorem q13_14 : c_q 13 14 = some (.aload_n 0, 0, 0, 0) := by decide +kernel
theorem q13_15 : c_q 13 15 = some (.getfield 75, 10, 9, 0) := by decide +kernel
theorem q13_18 : c_q 13 18 = some (.invokevirtual 341, 47, 0, 3) := by decide +kernel
theorem q13_21 : c_q 13 21 = some (.ifCond .eq (7), 28, 0, 0) := by decide +kernel
theorem q13_24 : c_q 13 24 = some (.iconst 1, 0, 0, 0) := by decide +kernel
theorem q13_25 : c_q 13 25 = some (.goto (4), 29, 0, 0) := by decide +kernel
theorem q13_28 : c_q 13 28 = some (.iconst 0, 0, 0, 0) := by decide +kernel
theorem q13_29 : c_q 13 29 = some (.ireturn, 0, 0, 0) := by decide +kernel
theorem q14_0 : c_q 14 0 = some (.iload_n 0, 0, 0, 0) := by decide +kernel
theorem q14_1 : c_q 14 1 = some (.iload_n 1, 0, 0, 0) := by decide +kernel
theorem q14_2 : c_q 14 2 = some (.if_icmp .lt (8), 10, 0, 0) := by decide +kernel
theorem q14_5 : c_q 14 5 = some (.iload_n 0, 0, 0, 0) := by decide +kernel
theorem q14_6 : c_q 14 6 = some (.iload_n 2, 0, 0, 0) := by decide +kernel
theorem q14_7 : c_q 14 7 = some (.if_icmp .le (14), 21, 0, 0) := by decide +kernel
theorem q14_10 : c_q 14 10 = some (.new 177, 0, 0, 1) := by decide +kernel
theorem q14_21 : c_q 14 21 = some (.return_, 0, 0, 0) := by decide +kernel
theorem q15_0 : c_q 15 0 = some (.iload_n 1, 0, 0, 0) := by decide +kernel
theorem q15_1 : c_q 15 1 = some (.ifCond .lt (14), 15, 0, 0) := by decide +kernel
theorem q15_4 : c_q 15 4 = some (.iload_n 1, 0, 0, 0) := by decide +kernel
theorem q15_5 : c_q 15 5 = some (.aload_n 0, 0, 0, 0) := by decide +kernel
theorem q15_6 : c_q 15 6 = some (.getfield 10, 10, 0, 0) := by decide +kernel
theorem q15_9 : c_q 15 9 = some (.getfield 93, 6, 2, 1) := by decide +kernel
theorem q15_12 : c_q 15 12 = some (.if_icmp .lt (14), 26, 0, 0) := by decide +kernel
theorem q15_15 : c_q 15 15 = some (.new 346, 1, 0, 1) := by decide +kernel
theorem q15_26 : c_q 15 26 = some (.return_, 0, 0, 0) := by decide +kernel
theorem q16_0 : c_q 16 0 = some (.iload_n 1, 0, 0, 0) := by decide +kernel
theorem q16_1 : c_q 16 1 = some (.iconst 1, 0, 0, 0) := by decide +kernel
theorem q16_2 : c_q 16 2 = some (.bipush (99), 0, 0, 0) := by decide +kernel
theorem q16_4 : c_q 16 4 = some (.invokestatic 89, 14, 3, 0) := by decide +kernel
theorem q16_7 : c_q 16 7 = some (.aload_n 0, 0, 0, 0) := by decide +kernel
theorem q16_8 : c_q 16 8 = some (.getfield 26, 10, 2, 0) := by decide +kernel
theorem q16_11 : c_q 16 11 = some (.aload_n 0, 0, 0, 0) := by decide +kernel
theorem q16_12 : c_q 16 12 = some (.getfield 10, 10, 0, 0) := by decide +kernel
theorem q16_15 : c_q 16 15 = some (.iload_n 1, 0, 0, 0) := by decide +kernel
theorem q16_16 : c_q 16 16 = some (.iload_n 2, 0, 0, 0) := by decide +kernel
theorem q16_17 : c_q 16 17 = some (.invokevirtual 125, 25, 3, 3) := by decide +kernel
theorem q16_20 : c_q 16 20 = some (.ifCond .ne (14), 34, 0, 0) := by decide +kernel
theorem q16_23 : c_q 16 23 = some (.new 170, 2, 0, 1) := by decide +kernel
theorem q16_34 : c_q 16 34 = some (.aload_n 0, 0, 0, 0) := by decide +kernel
theorem q16_35 : c_q 16 35 = some (.invokevirtual 129, 17, 0, 2) := by decide +kernel
theorem q16_38 : c_q 16 38 = some (.aload_n 0, 0, 0, 0) := by decide +kernel
theorem q16_39 : c_q 16 39 = some (.getfield 26, 10, 2, 0) := by decide +kernel
theorem q16_42 : c_q 16 42 = some (.getfield 357, 0, 1, 1) := by decide +kernel
theorem q16_45 : c_q 16 45 = some (.ireturn, 0, 0, 0) := by decide +kernel
theorem q17_0 : c_q 17 0 = some (.aload_n 0, 0, 0, 0) := by decide +kernel
theorem q17_1 : c_q 17 1 = some (.getfield 19, 10, 1, 0) := by decide +kernel
theorem q17_4 : c_q 17 4 = some (.aload_n 0, 0, 0, 0) := by decide +kernel
theorem q17_5 : c_q 17 5 = some (.getfield 10, 10, 0, 0) := by decide +kernel
theorem q17_8 : c_q 17 8 = some (.invokevirtual 360, 43, 1, 3) := by decide +kernel
theorem q17_11 : c_q 17 11 = some (.aload_n 0, 0, 0, 0) := by decide +kernel
theorem q17_12 : c_q 17 12 = some (.getfield 10, 10, 0, 0) := by decide +kernel
theorem q17_15 : c_q 17 15 = some (.aload_n 0, 0, 0, 0) := by decide +kernel
theorem q17_16 : c_q 17 16 = some (.getfield 26, 10, 2, 0) := by decide +kernel
theorem q17_19 : c_q 17 19 = some (.getfield 363, 0, 0, 1) := by decide +kernel
theorem q17_22 : c_q 17 22 = some (.invokevirtual 366, 53, 1, 3) := by decide +kernel
theorem q17_25 : c_q 17 25 = some (.return_, 0, 0, 0) := by decide +kernel
theorem q18_0 : c_q 18 0 = some (.aload_n 0, 0, 0, 0) := by decide +kernel
theorem q18_1 : c_q 18 1 = some (.getfield 10, 10, 0, 0) := by decide +kernel
theorem q18_4 : c_q 18 4 = some (.getfield 166, 6, 3, 1) := by decide +kernel
theorem q18_7 : c_q 18 7 = some (.ifCond .ne (19), 26, 0, 0) := by decide +kernel
theorem q18_10 : c_q 18 10 = some (.aload_n 0, 0, 0, 0) := by decide +kernel
theorem q18_11 : c_q 18 11 = some (.getfield 26, 10, 2, 0) := by decide +kernel
theorem q18_14 : c_q 18 14 = some (.aload_n 0, 0, 0, 0) := by decide +kernel
theorem q18_15 : c_q 18 15 = some (.getfield 10, 10, 0, 0) := by decide +kernel
theorem q18_18 : c_q 18 18 = some (.iconst 3, 0, 0, 0) := by decide +kernel
theorem q18_19 : c_q 18 19 = some (.iconst 1, 0, 0, 0) := by decide +kernel
theorem q18_20 : c_q 18 20 = some (.invokevirtual 125, 25, 3, 3) := by decide +kernel
theorem q18_23 : c_q 18 23 = some (.ifCond .ne (5), 28, 0, 0) := by decide +kernel
theorem q18_26 : c_q 18 26 = some (.iconst 1, 0, 0, 0) := by decide +kernel
theorem q18_27 : c_q 18 27 = some (.ireturn, 0, 0, 0) := by decide +kernel
theorem q18_28 : c_q 18 28 = some (.aload_n 0, 0, 0, 0) := by decide +kernel
theorem q18_29 : c_q 18 29 = some (.getfield 79, 10, 10, 0) := by decide +kernel
theorem q18_32 : c_q 18 32 = some (.aload_n 0, 0, 0, 0) := by decide +kernel
theorem q18_33 : c_q 18 33 = some (.getfield 10, 10, 0, 0) := by decide +kernel
theorem q18_36 : c_q 18 36 = some (.invokevirtual 155, 51, 1, 3) := by decide +kernel
theorem q18_39 : c_q 18 39 = some (.aload_n 0, 0, 0, 0) := by decide +kernel
theorem q18_40 : c_q 18 40 = some (.getfield 79, 10, 10, 0) := by decide +kernel
theorem q18_43 : c_q 18 43 = some (.aload_n 0, 0, 0, 0) := by decide +kernel
theorem q18_44 : c_q 18 44 = some (.getfield 26, 10, 2, 0) := by decide +kernel
theorem q18_47 : c_q 18 47 = some (.getfield 363, 0, 0, 1) := by decide +kernel
theorem q18_50 : c_q 18 50 = some (.invokevirtual 366, 53, 1, 3) := by decide +kernel
theorem q18_53 : c_q 18 53 = some (.aload_n 0, 0, 0, 0) := by decide +kernel
theorem q18_54 : c_q 18 54 = some (.getfield 26, 10, 2, 0) := by decide +kernel
theorem q18_57 : c_q 18 57 = some (.aload_n 0, 0, 0, 0) := by decide +kernel
theorem q18_58 : c_q 18 58 = some (.getfield 79, 10, 10, 0) := by decide +kernel
theorem q18_61 : c_q 18 61 = some (.iconst 3, 0, 0, 0) := by decide +kernel
theorem q18_62 : c_q 18 62 = some (.iconst 0, 0, 0, 0) := by decide +kernel
theorem q18_63 : c_q 18 63 = some (.invokevirtual 125, 25, 3, 3) := by decide +kernel
theorem q18_66 : c_q 18 66 = some (.ifCond .ne (5), 71, 0, 0) := by decide +kernel
theorem q18_69 : c_q 18 69 = some (.iconst 0, 0, 0, 0) := by decide +kernel
theorem q18_70 : c_q 18 70 = some (.ireturn, 0, 0, 0) := by decide +kernel
theorem q18_71 : c_q 18 71 = some (.aload_n 0, 0, 0, 0) := by decide +kernel
theorem q18_72 : c_q 18 72 = some (.getfield 79, 10, 10, 0) := by decide +kernel
theorem q18_75 : c_q 18 75 = some (.aload_n 0, 0, 0, 0) := by decide +kernel
theorem q18_76 : c_q 18 76 = some (.getfield 26, 10, 2, 0) := by decide +kernel
theorem q18_79 : c_q 18 79 = some (.getfield 363, 0, 0, 1) := by decide +kernel
theorem q18_82 : c_q 18 82 = some (.invokevirtual 366, 53, 1, 3) := by decide +kernel
theorem q18_85 : c_q 18 85 = some (.aload_n 0, 0, 0, 0) := by decide +kernel
theorem q18_86 : c_q 18 86 = some (.getfield 79, 10, 10, 0) := by decide +kernel
theorem q18_89 : c_q 18 89 = some (.aload_n 0, 0, 0, 0) := by decide +kernel
theorem q18_90 : c_q 18 90 = some (.getfield 10, 10, 0, 0) := by decide +kernel
theorem q18_93 : c_q 18 93 = some (.invokevirtual 162, 54, 1, 3) := by decide +kernel
theorem q18_96 : c_q 18 96 = some (.ireturn, 0, 0, 0) := by decide +kernel
theorem q19_0 : c_q 19 0 = some (.aload_n 0, 0, 0, 0) := by decide +kernel
theorem q19_1 : c_q 19 1 = some (.getfield 10, 10, 0, 0) := by decide +kernel
theorem q19_4 : c_q 19 4 = some (.getfield 166, 6, 3, 1) := by decide +kernel
theorem q19_7 : c_q 19 7 = some (.ifCond .ne (13), 20, 0, 0) := by decide +kernel
theorem q19_10 : c_q 19 10 = some (.aload_n 0, 0, 0, 0) := by decide +kernel
theorem q19_11 : c_q 19 11 = some (.getfield 10, 10, 0, 0) := by decide +kernel
theorem q19_14 : c_q 19 14 = some (.invokevirtual 271, 55, 0, 3) := by decide +kernel
theorem q19_17 : c_q 19 17 = some (.ifCond .ne (5), 22, 0, 0) := by decide +kernel
theorem q19_20 : c_q 19 20 = some (.iconst 1, 0, 0, 0) := by decide +kernel
theorem q19_21 : c_q 19 21 = some (.ireturn, 0, 0, 0) := by decide +kernel
theorem q19_22 : c_q 19 22 = some (.aload_n 0, 0, 0, 0) := by decide +kernel
theorem q19_23 : c_q 19 23 = some (.getfield 33, 10, 3, 0) := by decide +kernel
theorem q19_26 : c_q 19 26 = some (.aload_n 0, 0, 0, 0) := by decide +kernel
theorem q19_27 : c_q 19 27 = some (.getfield 10, 10, 0, 0) := by decide +kernel
theorem q19_30 : c_q 19 30 = some (.invokevirtual 372, 31, 1, 3) := by decide +kernel
theorem q19_33 : c_q 19 33 = some (.aload_n 0, 0, 0, 0) := by decide +kernel
theorem q19_34 : c_q 19 34 = some (.invokevirtual 388, 20, 0, 2) := by decide +kernel
theorem q19_37 : c_q 19 37 = some (.ifCond .eq (14), 51, 0, 0) := by decide +kernel
theorem q19_40 : c_q 19 40 = some (.aload_n 0, 0, 0, 0) := by decide +kernel
theorem q19_41 : c_q 19 41 = some (.invokevirtual 391, 21, 0, 2) := by decide +kernel
theorem q19_44 : c_q 19 44 = some (.ifCond .eq (7), 51, 0, 0) := by decide +kernel
theorem q19_47 : c_q 19 47 = some (.iconst 1, 0, 0, 0) := by decide +kernel
theorem q19_48 : c_q 19 48 = some (.goto (4), 52, 0, 0) := by decide +kernel
theorem q19_51 : c_q 19 51 = some (.iconst 0, 0, 0, 0) := by decide +kernel
theorem q19_52 : c_q 19 52 = some (.ireturn, 0, 0, 0) := by decide +kernel
theorem q20_0 : c_q 20 0 = some (.iconst 1, 0, 0, 0) := by decide +kernel
theorem q20_1 : c_q 20 1 = some (.istore_n 1, 0, 0, 0) := by decide +kernel
theorem q20_2 : c_q 20 2 = some (.iload_n 1, 0, 0, 0) := by decide +kernel
theorem q20_3 : c_q 20 3 = some (.bipush (99), 0, 0, 0) := by decide +kernel
theorem q20_5 : c_q 20 5 = some (.if_icmp .gt (34), 39, 0, 0) := by decide +kernel
theorem q20_8 : c_q 20 8 = some (.aload_n 0, 0, 0, 0) := by decide +kernel
theorem q20_9 : c_q 20 9 = some (.getfield 26, 10, 2, 0) := by decide +kernel
theorem q20_12 : c_q 20 12 = some (.aload_n 0, 0, 0, 0) := by decide +kernel
theorem q20_13 : c_q 20 13 = some (.getfield 10, 10, 0, 0) := by decide +kernel
theorem q20_16 : c_q 20 16 = some (.iload_n 1, 0, 0, 0) := by decide +kernel
theorem q20_17 : c_q 20 17 = some (.invokevirtual 200, 27, 2, 3) := by decide +kernel
theorem q20_20 : c_q 20 20 = some (.aload_n 0, 0, 0, 0) := by decide +kernel
theorem q20_21 : c_q 20 21 = some (.getfield 33, 10, 3, 0) := by decide +kernel
theorem q20_24 : c_q 20 24 = some (.iload_n 1, 0, 0, 0) := by decide +kernel
theorem q20_25 : c_q 20 25 = some (.invokevirtual 328, 37, 1, 3) := by decide +kernel
theorem q20_28 : c_q 20 28 = some (.if_icmp .eq (5), 33, 0, 0) := by decide +kernel
theorem q20_31 : c_q 20 31 = some (.iconst 0, 0, 0, 0) := by decide +kernel
theorem q20_32 : c_q 20 32 = some (.ireturn, 0, 0, 0) := by decide +kernel
theorem q20_33 : c_q 20 33 = some (.iinc 1 (1), 0, 0, 0) := by decide +kernel
theorem q20_36 : c_q 20 36 = some (.goto (-34), 2, 0, 0) := by decide +kernel
theorem q20_39 : c_q 20 39 = some (.iconst 1, 0, 0, 0) := by decide +kernel
theorem q20_40 : c_q 20 40 = some (.ireturn, 0, 0, 0) := by decide +kernel
theorem q21_0 : c_q 21 0 = some (.aload_n 0, 0, 0, 0) := by decide +kernel
theorem q21_1 : c_q 21 1 = some (.getfield 40, 10, 4, 0) := by decide +kernel
theorem q21_4 : c_q 21 4 = some (.aload_n 0, 0, 0, 0) := by decide +kernel
theorem q21_5 : c_q 21 5 = some (.getfield 10, 10, 0, 0) := by decide +kernel
theorem q21_8 : c_q 21 8 = some (.bipush (90), 0, 0, 0) := by decide +kernel
theorem q21_10 : c_q 21 10 = some (.invokevirtual 375, 59, 2, 3) := by decide +kernel
theorem q21_13 : c_q 21 13 = some (.aload_n 0, 0, 0, 0) := by decide +kernel
theorem q21_14 : c_q 21 14 = some (.getfield 33, 10, 3, 0) := by decide +kernel
theorem q21_17 : c_q 21 17 = some (.invokevirtual 189, 35, 0, 3) := by decide +kernel
theorem q21_20 : c_q 21 20 = some (.istore_n 1, 0, 0, 0) := by decide +kernel
theorem q21_21 : c_q 21 21 = some (.aload_n 0, 0, 0, 0) := by decide +kernel
theorem q21_22 : c_q 21 22 = some (.getfield 40, 10, 4, 0) := by decide +kernel
theorem q21_25 : c_q 21 25 = some (.invokevirtual 207, 63, 0, 3) := by decide +kernel
theorem q21_28 : c_q 21 28 = some (.iload_n 1, 0, 0, 0) := by decide +kernel
theorem q21_29 : c_q 21 29 = some (.if_icmp .eq (5), 34, 0, 0) := by decide +kernel
theorem q21_32 : c_q 21 32 = some (.iconst 0, 0, 0, 0) := by decide +kernel
theorem q21_33 : c_q 21 33 = some (.ireturn, 0, 0, 0) := by decide +kernel
theorem q21_34 : c_q 21 34 = some (.iconst 0, 0, 0, 0) := by decide +kernel
theorem q21_35 : c_q 21 35 = some (.istore_n 2, 0, 0, 0) := by decide +kernel
theorem q21_36 : c_q 21 36 = some (.iload_n 2, 0, 0, 0) := by decide +kernel
theorem q21_37 : c_q 21 37 = some (.iload_n 1, 0, 0, 0) := by decide +kernel
theorem q21_38 : c_q 21 38 = some (.if_icmp .ge (41), 79, 0, 0) := by decide +kernel
theorem q21_41 : c_q 21 41 = some (.aload_n 0, 0, 0, 0) := by decide +kernel
theorem q21_42 : c_q 21 42 = some (.getfield 40, 10, 4, 0) := by decide +kernel
theorem q21_45 : c_q 21 45 = some (.aload_n 0, 0, 0, 0) := by decide +kernel
theorem q21_46 : c_q 21 46 = some (.getfield 40, 10, 4, 0) := by decide +kernel
theorem q21_49 : c_q 21 49 = some (.iload_n 2, 0, 0, 0) := by decide +kernel
theorem q21_50 : c_q 21 50 = some (.invokevirtual 378, 64, 1, 3) := by decide +kernel
theorem q21_53 : c_q 21 53 = some (.invokevirtual 211, 65, 1, 3) := by decide +kernel
theorem q21_56 : c_q 21 56 = some (.aload_n 0, 0, 0, 0) := by decide +kernel
theorem q21_57 : c_q 21 57 = some (.getfield 33, 10, 3, 0) := by decide +kernel
theorem q21_60 : c_q 21 60 = some (.iload_n 1, 0, 0, 0) := by decide +kernel
theorem q21_61 : c_q 21 61 = some (.iconst 1, 0, 0, 0) := by decide +kernel
theorem q21_62 : c_q 21 62 = some (.isub, 0, 0, 0) := by decide +kernel
theorem q21_63 : c_q 21 63 = some (.iload_n 2, 0, 0, 0) := by decide +kernel
theorem q21_64 : c_q 21 64 = some (.isub, 0, 0, 0) := by decide +kernel
theorem q21_65 : c_q 21 65 = some (.invokevirtual 194, 36, 1, 3) := by decide +kernel
theorem q21_68 : c_q 21 68 = some (.if_icmp .eq (5), 73, 0, 0) := by decide +kernel
theorem q21_71 : c_q 21 71 = some (.iconst 0, 0, 0, 0) := by decide +kernel
theorem q21_72 : c_q 21 72 = some (.ireturn, 0, 0, 0) := by decide +kernel
theorem q21_73 : c_q 21 73 = some (.iinc 2 (1), 0, 0, 0) := by decide +kernel
theorem q21_76 : c_q 21 76 = some (.goto (-40), 36, 0, 0) := by decide +kernel
theorem q21_79 : c_q 21 79 = some (.iconst 1, 0, 0, 0) := by decide +kernel
theorem q21_80 : c_q 21 80 = some (.ireturn, 0, 0, 0) := by decide +kernel
theorem q22_0 : c_q 22 0 = some (.iload_n 1, 0, 0, 0) := by decide +kernel
theorem q22_1 : c_q 22 1 = some (.iload_n 2, 0, 0, 0) := by decide +kernel
theorem q22_2 : c_q 22 2 = some (.iload_n 3, 0, 0, 0) := by decide +kernel
theorem q22_3 : c_q 22 3 = some (.isub, 0, 0, 0) := by decide +kernel
theorem q22_4 : c_q 22 4 = some (.invokestatic 111, 0, 0, 8) := by decide +kernel
theorem q22_7 : c_q 22 7 = some (.iconst 0, 0, 0, 0) := by decide +kernel
theorem q22_8 : c_q 22 8 = some (.iload_n 1, 0, 0, 0) := by decide +kernel
theorem q22_9 : c_q 22 9 = some (.iload_n 3, 0, 0, 0) := by decide +kernel
theorem q22_10 : c_q 22 10 = some (.iadd, 0, 0, 0) := by decide +kernel
theorem q22_11 : c_q 22 11 = some (.iload_n 0, 0, 0, 0) := by decide +kernel
theorem q22_12 : c_q 22 12 = some (.isub, 0, 0, 0) := by decide +kernel
theorem q22_13 : c_q 22 13 = some (.invokestatic 394, 0, 0, 7) := by decide +kernel
theorem q22_16 : c_q 22 16 = some (.iadd, 0, 0, 0) := by decide +kernel
theorem q22_17 : c_q 22 17 = some (.ireturn, 0, 0, 0) := by decide +kernel
theorem q23_0 : c_q 23 0 = some (.fload_n 0, 0, 0, 0) := by decide +kernel
theorem q23_1 : c_q 23 1 = some (.fconst 0, 0, 0, 0) := by decide +kernel
theorem q23_2 : c_q 23 2 = some (.fcmp .g, 0, 0, 0) := by decide +kernel
theorem q23_3 : c_q 23 3 = some (.ifCond .gt (5), 8, 0, 0) := by decide +kernel
theorem q23_6 : c_q 23 6 = some (.iconst 0, 0, 0, 0) := by decide +kernel
theorem q23_7 : c_q 23 7 = some (.ireturn, 0, 0, 0) := by decide +kernel
theorem q23_8 : c_q 23 8 = some (.bipush (127), 0, 0, 0) := by decide +kernel
theorem q23_10 : c_q 23 10 = some (.istore_n 1, 0, 0, 0) := by decide +kernel
theorem q23_11 : c_q 23 11 = some (.fload_n 0, 0, 0, 0) := by decide +kernel
theorem q23_12 : c_q 23 12 = some (.fstore_n 2, 0, 0, 0) := by decide +kernel
theorem q23_13 : c_q 23 13 = some (.fload_n 2, 0, 0, 0) := by decide +kernel
theorem q23_14 : c_q 23 14 = some (.fconst 1, 0, 0, 0) := by decide +kernel
theorem q23_15 : c_q 23 15 = some (.fcmp .g, 0, 0, 0) := by decide +kernel
theorem q23_16 : c_q 23 16 = some (.ifCond .ge (18), 34, 0, 0) := by decide +kernel
theorem q23_19 : c_q 23 19 = some (.iload_n 1, 0, 0, 0) := by decide +kernel
theorem q23_20 : c_q 23 20 = some (.iconst 1, 0, 0, 0) := by decide +kernel
theorem q23_21 : c_q 23 21 = some (.if_icmp .le (13), 34, 0, 0) := by decide +kernel
theorem q23_24 : c_q 23 24 = some (.fload_n 2, 0, 0, 0) := by decide +kernel
theorem q23_25 : c_q 23 25 = some (.fconst 2, 0, 0, 0) := by decide +kernel
theorem q23_26 : c_q 23 26 = some (.fmul, 0, 0, 0) := by decide +kernel
theorem q23_27 : c_q 23 27 = some (.fstore_n 2, 0, 0, 0) := by decide +kernel
theorem q23_28 : c_q 23 28 = some (.iinc 1 (-1), 0, 0, 0) := by decide +kernel
theorem q23_31 : c_q 23 31 = some (.goto (-18), 13, 0, 0) := by decide +kernel
theorem q23_34 : c_q 23 34 = some (.iload_n 1, 0, 0, 0) := by decide +kernel
theorem q23_35 : c_q 23 35 = some (.bipush (23), 0, 0, 0) := by decide +kernel
theorem q23_37 : c_q 23 37 = some (.ishl, 0, 0, 0) := by decide +kernel
theorem q23_38 : c_q 23 38 = some (.fload_n 2, 0, 0, 0) := by decide +kernel
theorem q23_39 : c_q 23 39 = some (.fconst 1, 0, 0, 0) := by decide +kernel
theorem q23_40 : c_q 23 40 = some (.fsub, 0, 0, 0) := by decide +kernel
theorem q23_41 : c_q 23 41 = some (.ldc_w 397, 1258291200, 0, 1) := by decide +kernel
theorem q23_44 : c_q 23 44 = some (.fmul, 0, 0, 0) := by decide +kernel
theorem q23_45 : c_q 23 45 = some (.f2i, 0, 0, 0) := by decide +kernel
theorem q23_46 : c_q 23 46 = some (.ior, 0, 0, 0) := by decide +kernel
theorem q23_47 : c_q 23 47 = some (.ireturn, 0, 0, 0) := by decide +kernel
theorem q24_0 : c_q 24 0 = some (.aload_n 0, 0, 0, 0) := by decide +kernel
theorem q24_1 : c_q 24 1 = some (.invokespecial 3, 0, 0, 6) := by decide +kernel
theorem q24_4 : c_q 24 4 = some (.aload_n 0, 0, 0, 0) := by decide +kernel
theorem q24_5 : c_q 24 5 = some (.bipush (60), 0, 0, 0) := by decide +kernel
theorem q24_7 : c_q 24 7 = some (.newarray .int, 0, 0, 0) := by decide +kernel
theorem q24_9 : c_q 24 9 = some (.putfield 9, 0, 0, 0) := by decide +kernel
theorem q24_12 : c_q 24 12 = some (.return_, 0, 0, 0) := by decide +kernel
theorem q25_0 : c_q 25 0 = some (.aload_n 1, 0, 0, 0) := by decide +kernel
theorem q25_1 : c_q 25 1 = some (.getfield 15, 6, 3, 1) := by decide +kernel
theorem q25_4 : c_q 25 4 = some (.ifCond .eq (14), 18, 0, 0) := by decide +kernel
theorem q25_7 : c_q 25 7 = some (.aload_n 0, 0, 0, 0) := by decide +kernel
theorem q25_8 : c_q 25 8 = some (.aload_n 1, 0, 0, 0) := by decide +kernel
theorem q25_9 : c_q 25 9 = some (.iload_n 2, 0, 0, 0) := by decide +kernel
theorem q25_10 : c_q 25 10 = some (.iconst 0, 0, 0, 0) := by decide +kernel
theorem q25_11 : c_q 25 11 = some (.iload_n 3, 0, 0, 0) := by decide +kernel
theorem q25_12 : c_q 25 12 = some (.invokevirtual 21, 26, 4, 2) := by decide +kernel
theorem q25_15 : c_q 25 15 = some (.goto (4), 19, 0, 0) := by decide +kernel
theorem q25_18 : c_q 25 18 = some (.iconst 0, 0, 0, 0) := by decide +kernel
theorem q25_19 : c_q 25 19 = some (.istore 4, 0, 0, 0) := by decide +kernel
theorem q25_21 : c_q 25 21 = some (.aload_n 0, 0, 0, 0) := by decide +kernel
theorem q25_22 : c_q 25 22 = some (.aload_n 1, 0, 0, 0) := by decide +kernel
theorem q25_23 : c_q 25 23 = some (.iload_n 2, 0, 0, 0) := by decide +kernel
theorem q25_24 : c_q 25 24 = some (.iload 4, 0, 0, 0) := by decide +kernel
theorem q25_26 : c_q 25 26 = some (.iload_n 3, 0, 0, 0) := by decide +kernel
theorem q25_27 : c_q 25 27 = some (.invokevirtual 21, 26, 4, 2) := by decide +kernel
theorem q25_30 : c_q 25 30 = some (.iload 4, 0, 0, 0) := by decide +kernel
theorem q25_32 : c_q 25 32 = some (.if_icmp .ne (7), 39, 0, 0) := by decide +kernel
theorem q25_35 : c_q 25 35 = some (.iconst 1, 0, 0, 0) := by decide +kernel
theorem q25_36 : c_q 25 36 = some (.goto (4), 40, 0, 0) := by decide +kernel
theorem q25_39 : c_q 25 39 = some (.iconst 0, 0, 0, 0) := by decide +kernel
theorem q25_40 : c_q 25 40 = some (.ireturn, 0, 0, 0) := by decide +kernel
theorem q26_0 : c_q 26 0 = some (.iload_n 3, 0, 0, 0) := by decide +kernel
theorem q26_1 : c_q 26 1 = some (.istore 5, 0, 0, 0) := by decide +kernel
theorem q26_3 : c_q 26 3 = some (.aload_n 0, 0, 0, 0) := by decide +kernel
theorem q26_4 : c_q 26 4 = some (.iload_n 3, 0, 0, 0) := by decide +kernel
theorem q26_5 : c_q 26 5 = some (.putfield 25, 0, 1, 0) := by decide +kernel
theorem q26_8 : c_q 26 8 = some (.iconst 0, 0, 0, 0) := by decide +kernel
theorem q26_9 : c_q 26 9 = some (.istore 6, 0, 0, 0) := by decide +kernel
theorem q26_11 : c_q 26 11 = some (.iload 6, 0, 0, 0) := by decide +kernel
theorem q26_13 : c_q 26 13 = some (.aload_n 1, 0, 0, 0) := by decide +kernel
theorem q26_14 : c_q 26 14 = some (.getfield 29, 6, 2, 1) := by decide +kernel
theorem q26_17 : c_q 26 17 = some (.if_icmp .ge (90), 107, 0, 0) := by decide +kernel
theorem q26_20 : c_q 26 20 = some (.iload 4, 0, 0, 0) := by decide +kernel
theorem q26_22 : c_q 26 22 = some (.ifCond .eq (8), 30, 0, 0) := by decide +kernel
theorem q26_25 : c_q 26 25 = some (.iload 6, 0, 0, 0) := by decide +kernel
theorem q26_27 : c_q 26 27 = some (.goto (12), 39, 0, 0) := by decide +kernel
theorem q26_30 : c_q 26 30 = some (.aload_n 1, 0, 0, 0) := by decide +kernel
theorem q26_31 : c_q 26 31 = some (.getfield 29, 6, 2, 1) := by decide +kernel
theorem q26_34 : c_q 26 34 = some (.iconst 1, 0, 0, 0) := by decide +kernel
theorem q26_35 : c_q 26 35 = some (.isub, 0, 0, 0) := by decide +kernel
theorem q26_36 : c_q 26 36 = some (.iload 6, 0, 0, 0) := by decide +kernel
theorem q26_38 : c_q 26 38 = some (.isub, 0, 0, 0) := by decide +kernel
theorem q26_39 : c_q 26 39 = some (.istore 7, 0, 0, 0) := by decide +kernel
theorem q26_41 : c_q 26 41 = some (.aload_n 0, 0, 0, 0) := by decide +kernel
theorem q26_42 : c_q 26 42 = some (.getfield 9, 0, 0, 0) := by decide +kernel
theorem q26_45 : c_q 26 45 = some (.iload 7, 0, 0, 0) := by decide +kernel
theorem q26_47 : c_q 26 47 = some (.iload_n 2, 0, 0, 0) := by decide +kernel
theorem q26_48 : c_q 26 48 = some (.iload 5, 0, 0, 0) := by decide +kernel
theorem q26_50 : c_q 26 50 = some (.aload_n 1, 0, 0, 0) := by decide +kernel
theorem q26_51 : c_q 26 51 = some (.getfield 32, 6, 0, 1) := by decide +kernel
theorem q26_54 : c_q 26 54 = some (.iload 7, 0, 0, 0) := by decide +kernel
theorem q26_56 : c_q 26 56 = some (.iaload, 0, 0, 0) := by decide +kernel
theorem q26_57 : c_q 26 57 = some (.aload_n 1, 0, 0, 0) := by decide +kernel
theorem q26_58 : c_q 26 58 = some (.getfield 35, 6, 1, 1) := by decide +kernel
theorem q26_61 : c_q 26 61 = some (.iload 7, 0, 0, 0) := by decide +kernel
theorem q26_63 : c_q 26 63 = some (.iaload, 0, 0, 0) := by decide +kernel
theorem q26_64 : c_q 26 64 = some (.invokestatic 38, 22, 4, 1) := by decide +kernel
theorem q26_67 : c_q 26 67 = some (.iastore, 0, 0, 0) := by decide +kernel
theorem q26_68 : c_q 26 68 = some (.iload 5, 0, 0, 0) := by decide +kernel
theorem q26_70 : c_q 26 70 = some (.aload_n 1, 0, 0, 0) := by decide +kernel
theorem q26_71 : c_q 26 71 = some (.getfield 35, 6, 1, 1) := by decide +kernel
theorem q26_74 : c_q 26 74 = some (.iload 7, 0, 0, 0) := by decide +kernel
theorem q26_76 : c_q 26 76 = some (.iaload, 0, 0, 0) := by decide +kernel
theorem q26_77 : c_q 26 77 = some (.aload_n 0, 0, 0, 0) := by decide +kernel
theorem q26_78 : c_q 26 78 = some (.getfield 9, 0, 0, 0) := by decide +kernel
theorem q26_81 : c_q 26 81 = some (.iload 7, 0, 0, 0) := by decide +kernel
theorem q26_83 : c_q 26 83 = some (.iaload, 0, 0, 0) := by decide +kernel
theorem q26_84 : c_q 26 84 = some (.isub, 0, 0, 0) := by decide +kernel
theorem q26_85 : c_q 26 85 = some (.iadd, 0, 0, 0) := by decide +kernel
theorem q26_86 : c_q 26 86 = some (.istore 5, 0, 0, 0) := by decide +kernel
theorem q26_88 : c_q 26 88 = some (.aload_n 0, 0, 0, 0) := by decide +kernel
theorem q26_89 : c_q 26 89 = some (.aload_n 0, 0, 0, 0) := by decide +kernel
theorem q26_90 : c_q 26 90 = some (.getfield 25, 0, 1, 0) := by decide +kernel
theorem q26_93 : c_q 26 93 = some (.iload 5, 0, 0, 0) := by decide +kernel
theorem q26_95 : c_q 26 95 = some (.invokestatic 42, 0, 0, 7) := by decide +kernel
theorem q26_98 : c_q 26 98 = some (.putfield 25, 0, 1, 0) := by decide +kernel
theorem q26_101 : c_q 26 101 = some (.iinc 6 (1), 0, 0, 0) := by decide +kernel
theorem q26_104 : c_q 26 104 = some (.goto (-93), 11, 0, 0) := by decide +kernel
theorem q26_107 : c_q 26 107 = some (.iload 5, 0, 0, 0) := by decide +kernel
theorem q26_109 : c_q 26 109 = some (.ireturn, 0, 0, 0) := by decide +kernel
theorem q27_0 : c_q 27 0 = some (.aload_n 0, 0, 0, 0) := by decide +kernel
theorem q27_1 : c_q 27 1 = some (.aload_n 1, 0, 0, 0) := by decide +kernel
theorem q27_2 : c_q 27 2 = some (.iload_n 2, 0, 0, 0) := by decide +kernel
theorem q27_3 : c_q 27 3 = some (.iconst 0, 0, 0, 0) := by decide +kernel
theorem q27_4 : c_q 27 4 = some (.iconst 1, 0, 0, 0) := by decide +kernel
theorem q27_5 : c_q 27 5 = some (.invokevirtual 21, 26, 4, 2) := by decide +kernel
theorem q27_8 : c_q 27 8 = some (.pop, 0, 0, 0) := by decide +kernel
theorem q27_9 : c_q 27 9 = some (.iconst 0, 0, 0, 0) := by decide +kernel
theorem q27_10 : c_q 27 10 = some (.istore_n 3, 0, 0, 0) := by decide +kernel
theorem q27_11 : c_q 27 11 = some (.iconst 0, 0, 0, 0) := by decide +kernel
theorem q27_12 : c_q 27 12 = some (.istore 4, 0, 0, 0) := by decide +kernel
theorem q27_14 : c_q 27 14 = some (.iload 4, 0, 0, 0) := by decide +kernel
theorem q27_16 : c_q 27 16 = some (.aload_n 1, 0, 0, 0) := by decide +kernel
theorem q27_17 : c_q 27 17 = some (.getfield 29, 6, 2, 1) := by decide +kernel
theorem q27_20 : c_q 27 20 = some (.if_icmp .ge (32), 52, 0, 0) := by decide +kernel
theorem q27_23 : c_q 27 23 = some (.aload_n 1, 0, 0, 0) := by decide +kernel
theorem q27_24 : c_q 27 24 = some (.getfield 35, 6, 1, 1) := by decide +kernel
theorem q27_27 : c_q 27 27 = some (.iload 4, 0, 0, 0) := by decide +kernel
theorem q27_29 : c_q 27 29 = some (.iaload, 0, 0, 0) := by decide +kernel
theorem q27_30 : c_q 27 30 = some (.ifCond .le (16), 46, 0, 0) := by decide +kernel
theorem q27_33 : c_q 27 33 = some (.aload_n 0, 0, 0, 0) := by decide +kernel
theorem q27_34 : c_q 27 34 = some (.getfield 9, 0, 0, 0) := by decide +kernel
theorem q27_37 : c_q 27 37 = some (.iload 4, 0, 0, 0) := by decide +kernel
theorem q27_39 : c_q 27 39 = some (.iaload, 0, 0, 0) := by decide +kernel
theorem q27_40 : c_q 27 40 = some (.ifCond .ne (6), 46, 0, 0) := by decide +kernel
theorem q27_43 : c_q 27 43 = some (.iinc 3 (1), 0, 0, 0) := by decide +kernel
theorem q27_46 : c_q 27 46 = some (.iinc 4 (1), 0, 0, 0) := by decide +kernel
theorem q27_49 : c_q 27 49 = some (.goto (-35), 14, 0, 0) := by decide +kernel
theorem q27_52 : c_q 27 52 = some (.iload_n 3, 0, 0, 0) := by decide +kernel
theorem q27_53 : c_q 27 53 = some (.ireturn, 0, 0, 0) := by decide +kernel
theorem q28_0 : c_q 28 0 = some (.aload_n 0, 0, 0, 0) := by decide +kernel
theorem q28_1 : c_q 28 1 = some (.invokespecial 3, 0, 0, 6) := by decide +kernel
theorem q28_4 : c_q 28 4 = some (.aload_n 0, 0, 0, 0) := by decide +kernel
theorem q28_5 : c_q 28 5 = some (.iconst 5, 0, 0, 0) := by decide +kernel
theorem q28_6 : c_q 28 6 = some (.newarray .int, 0, 0, 0) := by decide +kernel
theorem q28_8 : c_q 28 8 = some (.putfield 9, 1, 0, 0) := by decide +kernel
theorem q28_11 : c_q 28 11 = some (.aload_n 0, 0, 0, 0) := by decide +kernel
theorem q28_12 : c_q 28 12 = some (.iconst 5, 0, 0, 0) := by decide +kernel
theorem q28_13 : c_q 28 13 = some (.newarray .int, 0, 0, 0) := by decide +kernel
theorem q28_15 : c_q 28 15 = some (.putfield 15, 1, 1, 0) := by decide +kernel
theorem q28_18 : c_q 28 18 = some (.return_, 0, 0, 0) := by decide +kernel
theorem q29_0 : c_q 29 0 = some (.aload_n 0, 0, 0, 0) := by decide +kernel
theorem q29_1 : c_q 29 1 = some (.invokespecial 3, 0, 0, 6) := by decide +kernel
theorem q29_4 : c_q 29 4 = some (.aload_n 0, 0, 0, 0) := by decide +kernel
theorem q29_5 : c_q 29 5 = some (.bipush (64), 0, 0, 0) := by decide +kernel
theorem q29_7 : c_q 29 7 = some (.newarray .long, 1, 0, 0) := by decide +kernel
theorem q29_9 : c_q 29 9 = some (.putfield 9, 2, 0, 0) := by decide +kernel
theorem q29_12 : c_q 29 12 = some (.return_, 0, 0, 0) := by decide +kernel
theorem q30_0 : c_q 30 0 = some (.aload_n 0, 0, 0, 0) := by decide +kernel
theorem q30_1 : c_q 30 1 = some (.invokespecial 3, 0, 0, 6) := by decide +kernel
theorem q30_4 : c_q 30 4 = some (.aload_n 0, 0, 0, 0) := by decide +kernel
theorem q30_5 : c_q 30 5 = some (.bipush (120), 0, 0, 0) := by decide +kernel
theorem q30_7 : c_q 30 7 = some (.newarray .int, 0, 0, 0) := by decide +kernel
theorem q30_9 : c_q 30 9 = some (.putfield 9, 3, 0, 0) := by decide +kernel
theorem q30_12 : c_q 30 12 = some (.aload_n 0, 0, 0, 0) := by decide +kernel
theorem q30_13 : c_q 30 13 = some (.bipush (60), 0, 0, 0) := by decide +kernel
theorem q30_15 : c_q 30 15 = some (.newarray .int, 0, 0, 0) := by decide +kernel
theorem q30_17 : c_q 30 17 = some (.putfield 15, 3, 1, 0) := by decide +kernel
theorem q30_20 : c_q 30 20 = some (.return_, 0, 0, 0) := by decide +kernel
theorem q31_0 : c_q 31 0 = some (.aload_n 0, 0, 0, 0) := by decide +kernel
theorem q31_1 : c_q 31 1 = some (.aload_n 1, 0, 0, 0) := by decide +kernel
theorem q31_2 : c_q 31 2 = some (.invokevirtual 18, 32, 1, 2) := by decide +kernel
theorem q31_5 : c_q 31 5 = some (.istore_n 2, 0, 0, 0) := by decide +kernel
theorem q31_6 : c_q 31 6 = some (.aload_n 0, 0, 0, 0) := by decide +kernel
theorem q31_7 : c_q 31 7 = some (.iconst 0, 0, 0, 0) := by decide +kernel
theorem q31_8 : c_q 31 8 = some (.putfield 22, 3, 2, 0) := by decide +kernel
theorem q31_11 : c_q 31 11 = some (.aload_n 0, 0, 0, 0) := by decide +kernel
theorem q31_12 : c_q 31 12 = some (.getfield 22, 3, 2, 0) := by decide +kernel
theorem q31_15 : c_q 31 15 = some (.bipush (60), 0, 0, 0) := by decide +kernel
theorem q31_17 : c_q 31 17 = some (.if_icmp .ge (43), 60, 0, 0) := by decide +kernel
theorem q31_20 : c_q 31 20 = some (.aload_n 0, 0, 0, 0) := by decide +kernel
theorem q31_21 : c_q 31 21 = some (.iload_n 2, 0, 0, 0) := by decide +kernel
theorem q31_22 : c_q 31 22 = some (.invokevirtual 26, 33, 1, 2) := by decide +kernel
theorem q31_25 : c_q 31 25 = some (.istore_n 3, 0, 0, 0) := by decide +kernel
theorem q31_26 : c_q 31 26 = some (.iload_n 3, 0, 0, 0) := by decide +kernel
theorem q31_27 : c_q 31 27 = some (.ifCond .ne (4), 31, 0, 0) := by decide +kernel
theorem q31_30 : c_q 31 30 = some (.return_, 0, 0, 0) := by decide +kernel
theorem q31_31 : c_q 31 31 = some (.aload_n 0, 0, 0, 0) := by decide +kernel
theorem q31_32 : c_q 31 32 = some (.getfield 15, 3, 1, 0) := by decide +kernel
theorem q31_35 : c_q 31 35 = some (.aload_n 0, 0, 0, 0) := by decide +kernel
theorem q31_36 : c_q 31 36 = some (.getfield 22, 3, 2, 0) := by decide +kernel
theorem q31_39 : c_q 31 39 = some (.iload_n 3, 0, 0, 0) := by decide +kernel
theorem q31_40 : c_q 31 40 = some (.iastore, 0, 0, 0) := by decide +kernel
theorem q31_41 : c_q 31 41 = some (.aload_n 0, 0, 0, 0) := by decide +kernel
theorem q31_42 : c_q 31 42 = some (.dup, 0, 0, 0) := by decide +kernel
theorem q31_43 : c_q 31 43 = some (.getfield 22, 3, 2, 0) := by decide +kernel
theorem q31_46 : c_q 31 46 = some (.iconst 1, 0, 0, 0) := by decide +kernel
theorem q31_47 : c_q 31 47 = some (.iadd, 0, 0, 0) := by decide +kernel
theorem q31_48 : c_q 31 48 = some (.putfield 22, 3, 2, 0) := by decide +kernel
theorem q31_51 : c_q 31 51 = some (.iload_n 2, 0, 0, 0) := by decide +kernel
theorem q31_52 : c_q 31 52 = some (.iconst 2, 0, 0, 0) := by decide +kernel
theorem q31_53 : c_q 31 53 = some (.iload_n 3, 0, 0, 0) := by decide +kernel
theorem q31_54 : c_q 31 54 = some (.imul, 0, 0, 0) := by decide +kernel
theorem q31_55 : c_q 31 55 = some (.isub, 0, 0, 0) := by decide +kernel
theorem q31_56 : c_q 31 56 = some (.istore_n 2, 0, 0, 0) := by decide +kernel
theorem q31_57 : c_q 31 57 = some (.goto (-46), 11, 0, 0) := by decide +kernel
theorem q31_60 : c_q 31 60 = some (.return_, 0, 0, 0) := by decide +kernel
theorem q32_0 : c_q 32 0 = some (.aload_n 0, 0, 0, 0) := by decide +kernel
theorem q32_1 : c_q 32 1 = some (.getfield 9, 3, 0, 0) := by decide +kernel
theorem q32_4 : c_q 32 4 = some (.iconst 0, 0, 0, 0) := by decide +kernel
theorem q32_5 : c_q 32 5 = some (.invokestatic 30, 82, 2, 0) := by decide +kernel
theorem q32_8 : c_q 32 8 = some (.iconst 0, 0, 0, 0) := by decide +kernel
theorem q32_9 : c_q 32 9 = some (.istore_n 2, 0, 0, 0) := by decide +kernel
theorem q32_10 : c_q 32 10 = some (.iload_n 2, 0, 0, 0) := by decide +kernel
theorem q32_11 : c_q 32 11 = some (.aload_n 1, 0, 0, 0) := by decide +kernel
theorem q32_12 : c_q 32 12 = some (.getfield 36, 6, 2, 1) := by decide +kernel
theorem q32_15 : c_q 32 15 = some (.if_icmp .ge (21), 36, 0, 0) := by decide +kernel
theorem q32_18 : c_q 32 18 = some (.aload_n 0, 0, 0, 0) := by decide +kernel
theorem q32_19 : c_q 32 19 = some (.getfield 9, 3, 0, 0) := by decide +kernel
theorem q32_22 : c_q 32 22 = some (.iload_n 2, 0, 0, 0) := by decide +kernel
theorem q32_23 : c_q 32 23 = some (.aload_n 1, 0, 0, 0) := by decide +kernel
theorem q32_24 : c_q 32 24 = some (.getfield 41, 6, 1, 1) := by decide +kernel
theorem q32_27 : c_q 32 27 = some (.iload_n 2, 0, 0, 0) := by decide +kernel
theorem q32_28 : c_q 32 28 = some (.iaload, 0, 0, 0) := by decide +kernel
theorem q32_29 : c_q 32 29 = some (.iastore, 0, 0, 0) := by decide +kernel
theorem q32_30 : c_q 32 30 = some (.iinc 2 (1), 0, 0, 0) := by decide +kernel
theorem q32_33 : c_q 32 33 = some (.goto (-23), 10, 0, 0) := by decide +kernel
theorem q32_36 : c_q 32 36 = some (.aload_n 1, 0, 0, 0) := by decide +kernel
theorem q32_37 : c_q 32 37 = some (.getfield 36, 6, 2, 1) := by decide +kernel
theorem q32_40 : c_q 32 40 = some (.aload_n 1, 0, 0, 0) := by decide +kernel
theorem q32_41 : c_q 32 41 = some (.invokevirtual 44, 56, 0, 3) := by decide +kernel
theorem q32_44 : c_q 32 44 = some (.iadd, 0, 0, 0) := by decide +kernel
theorem q32_45 : c_q 32 45 = some (.ireturn, 0, 0, 0) := by decide +kernel
theorem q33_0 : c_q 33 0 = some (.iconst 0, 0, 0, 0) := by decide +kernel
theorem q33_1 : c_q 33 1 = some (.istore_n 2, 0, 0, 0) := by decide +kernel
theorem q33_2 : c_q 33 2 = some (.iconst 0, 0, 0, 0) := by decide +kernel
theorem q33_3 : c_q 33 3 = some (.istore_n 3, 0, 0, 0) := by decide +kernel
theorem q33_4 : c_q 33 4 = some (.iconst 0, 0, 0, 0) := by decide +kernel
theorem q33_5 : c_q 33 5 = some (.istore 4, 0, 0, 0) := by decide +kernel
theorem q33_7 : c_q 33 7 = some (.iload 4, 0, 0, 0) := by decide +kernel
theorem q33_9 : c_q 33 9 = some (.iload_n 1, 0, 0, 0) := by decide +kernel
theorem q33_10 : c_q 33 10 = some (.if_icmp .ge (99), 109, 0, 0) := by decide +kernel
theorem q33_13 : c_q 33 13 = some (.iload 4, 0, 0, 0) := by decide +kernel
theorem q33_15 : c_q 33 15 = some (.aload_n 0, 0, 0, 0) := by decide +kernel
theorem q33_16 : c_q 33 16 = some (.getfield 9, 3, 0, 0) := by decide +kernel
theorem q33_19 : c_q 33 19 = some (.arraylength, 0, 0, 0) := by decide +kernel
theorem q33_20 : c_q 33 20 = some (.if_icmp .ge (89), 109, 0, 0) := by decide +kernel
theorem q33_23 : c_q 33 23 = some (.iload 4, 0, 0, 0) := by decide +kernel
theorem q33_25 : c_q 33 25 = some (.iconst 1, 0, 0, 0) := by decide +kernel
theorem q33_26 : c_q 33 26 = some (.iadd, 0, 0, 0) := by decide +kernel
theorem q33_27 : c_q 33 27 = some (.iload_n 1, 0, 0, 0) := by decide +kernel
theorem q33_28 : c_q 33 28 = some (.if_icmp .ge (19), 47, 0, 0) := by decide +kernel
theorem q33_31 : c_q 33 31 = some (.iload 4, 0, 0, 0) := by decide +kernel
theorem q33_33 : c_q 33 33 = some (.iconst 1, 0, 0, 0) := by decide +kernel
theorem q33_34 : c_q 33 34 = some (.iadd, 0, 0, 0) := by decide +kernel
theorem q33_35 : c_q 33 35 = some (.aload_n 0, 0, 0, 0) := by decide +kernel
theorem q33_36 : c_q 33 36 = some (.getfield 9, 3, 0, 0) := by decide +kernel
theorem q33_39 : c_q 33 39 = some (.arraylength, 0, 0, 0) := by decide +kernel
theorem q33_40 : c_q 33 40 = some (.if_icmp .ge (7), 47, 0, 0) := by decide +kernel
theorem q33_43 : c_q 33 43 = some (.iconst 1, 0, 0, 0) := by decide +kernel
theorem q33_44 : c_q 33 44 = some (.goto (4), 48, 0, 0) := by decide +kernel
theorem q33_47 : c_q 33 47 = some (.iconst 0, 0, 0, 0) := by decide +kernel
theorem q33_48 : c_q 33 48 = some (.istore 5, 0, 0, 0) := by decide +kernel
theorem q33_50 : c_q 33 50 = some (.iload 5, 0, 0, 0) := by decide +kernel
theorem q33_52 : c_q 33 52 = some (.ifCond .eq (35), 87, 0, 0) := by decide +kernel
theorem q33_55 : c_q 33 55 = some (.aload_n 0, 0, 0, 0) := by decide +kernel
theorem q33_56 : c_q 33 56 = some (.getfield 9, 3, 0, 0) := by decide +kernel
theorem q33_59 : c_q 33 59 = some (.iload 4, 0, 0, 0) := by decide +kernel
theorem q33_61 : c_q 33 61 = some (.iaload, 0, 0, 0) := by decide +kernel
theorem q33_62 : c_q 33 62 = some (.iconst 1, 0, 0, 0) := by decide +kernel
theorem q33_63 : c_q 33 63 = some (.if_icmp .ne (24), 87, 0, 0) := by decide +kernel
theorem q33_66 : c_q 33 66 = some (.aload_n 0, 0, 0, 0) := by decide +kernel
theorem q33_67 : c_q 33 67 = some (.getfield 9, 3, 0, 0) := by decide +kernel
theorem q33_70 : c_q 33 70 = some (.iload 4, 0, 0, 0) := by decide +kernel
theorem q33_72 : c_q 33 72 = some (.iconst 1, 0, 0, 0) := by decide +kernel
theorem q33_73 : c_q 33 73 = some (.iadd, 0, 0, 0) := by decide +kernel
theorem q33_74 : c_q 33 74 = some (.iaload, 0, 0, 0) := by decide +kernel
theorem q33_75 : c_q 33 75 = some (.ifCond .ne (12), 87, 0, 0) := by decide +kernel
theorem q33_78 : c_q 33 78 = some (.iinc 2 (1), 0, 0, 0) := by decide +kernel
theorem q33_81 : c_q 33 81 = some (.iinc 4 (2), 0, 0, 0) := by decide +kernel
theorem q33_84 : c_q 33 84 = some (.goto (22), 106, 0, 0) := by decide +kernel
theorem q33_87 : c_q 33 87 = some (.aload_n 0, 0, 0, 0) := by decide +kernel
theorem q33_88 : c_q 33 88 = some (.getfield 9, 3, 0, 0) := by decide +kernel
theorem q33_91 : c_q 33 91 = some (.iload_n 3, 0, 0, 0) := by decide +kernel
theorem q33_92 : c_q 33 92 = some (.aload_n 0, 0, 0, 0) := by decide +kernel
theorem q33_93 : c_q 33 93 = some (.getfield 9, 3, 0, 0) := by decide +kernel
theorem q33_96 : c_q 33 96 = some (.iload 4, 0, 0, 0) := by decide +kernel
theorem q33_98 : c_q 33 98 = some (.iaload, 0, 0, 0) := by decide +kernel
theorem q33_99 : c_q 33 99 = some (.iastore, 0, 0, 0) := by decide +kernel
theorem q33_100 : c_q 33 100 = some (.iinc 3 (1), 0, 0, 0) := by decide +kernel
theorem q33_103 : c_q 33 103 = some (.iinc 4 (1), 0, 0, 0) := by decide +kernel
theorem q33_106 : c_q 33 106 = some (.goto (-99), 7, 0, 0) := by decide +kernel
theorem q33_109 : c_q 33 109 = some (.iload_n 2, 0, 0, 0) := by decide +kernel
theorem q33_110 : c_q 33 110 = some (.ireturn, 0, 0, 0) := by decide +kernel
theorem q34_0 : c_q 34 0 = some (.iload_n 1, 0, 0, 0) := by decide +kernel
theorem q34_1 : c_q 34 1 = some (.iconst 1, 0, 0, 0) := by decide +kernel
theorem q34_2 : c_q 34 2 = some (.if_icmp .lt (22), 24, 0, 0) := by decide +kernel
theorem q34_5 : c_q 34 5 = some (.iload_n 1, 0, 0, 0) := by decide +kernel
theorem q34_6 : c_q 34 6 = some (.aload_n 0, 0, 0, 0) := by decide +kernel
theorem q34_7 : c_q 34 7 = some (.getfield 22, 3, 2, 0) := by decide +kernel
theorem q34_10 : c_q 34 10 = some (.if_icmp .gt (14), 24, 0, 0) := by decide +kernel
theorem q34_13 : c_q 34 13 = some (.aload_n 0, 0, 0, 0) := by decide +kernel
theorem q34_14 : c_q 34 14 = some (.getfield 15, 3, 1, 0) := by decide +kernel
theorem q34_17 : c_q 34 17 = some (.iload_n 1, 0, 0, 0) := by decide +kernel
theorem q34_18 : c_q 34 18 = some (.iconst 1, 0, 0, 0) := by decide +kernel
theorem q34_19 : c_q 34 19 = some (.isub, 0, 0, 0) := by decide +kernel
theorem q34_20 : c_q 34 20 = some (.iaload, 0, 0, 0) := by decide +kernel
theorem q34_21 : c_q 34 21 = some (.goto (4), 25, 0, 0) := by decide +kernel
theorem q34_24 : c_q 34 24 = some (.iconst 0, 0, 0, 0) := by decide +kernel
theorem q34_25 : c_q 34 25 = some (.ireturn, 0, 0, 0) := by decide +kernel
theorem q35_0 : c_q 35 0 = some (.aload_n 0, 0, 0, 0) := by decide +kernel
theorem q35_1 : c_q 35 1 = some (.iconst 1, 0, 0, 0) := by decide +kernel
theorem q35_2 : c_q 35 2 = some (.invokevirtual 48, 34, 1, 2) := by decide +kernel
theorem q35_5 : c_q 35 5 = some (.ireturn, 0, 0, 0) := by decide +kernel
theorem q36_0 : c_q 36 0 = some (.iconst 0, 0, 0, 0) := by decide +kernel
theorem q36_1 : c_q 36 1 = some (.istore_n 2, 0, 0, 0) := by decide +kernel
theorem q36_2 : c_q 36 2 = some (.iconst 0, 0, 0, 0) := by decide +kernel
theorem q36_3 : c_q 36 3 = some (.istore_n 3, 0, 0, 0) := by decide +kernel
theorem q36_4 : c_q 36 4 = some (.iload_n 3, 0, 0, 0) := by decide +kernel
theorem q36_5 : c_q 36 5 = some (.aload_n 0, 0, 0, 0) := by decide +kernel
theorem q36_6 : c_q 36 6 = some (.getfield 22, 3, 2, 0) := by decide +kernel
theorem q36_9 : c_q 36 9 = some (.if_icmp .ge (22), 31, 0, 0) := by decide +kernel
theorem q36_12 : c_q 36 12 = some (.aload_n 0, 0, 0, 0) := by decide +kernel
theorem q36_13 : c_q 36 13 = some (.getfield 15, 3, 1, 0) := by decide +kernel
theorem q36_16 : c_q 36 16 = some (.iload_n 3, 0, 0, 0) := by decide +kernel
theorem q36_17 : c_q 36 17 = some (.iaload, 0, 0, 0) := by decide +kernel
theorem q36_18 : c_q 36 18 = some (.iload_n 1, 0, 0, 0) := by decide +kernel
theorem q36_19 : c_q 36 19 = some (.if_icmp .le (6), 25, 0, 0) := by decide +kernel
theorem q36_22 : c_q 36 22 = some (.iinc 2 (1), 0, 0, 0) := by decide +kernel
theorem q36_25 : c_q 36 25 = some (.iinc 3 (1), 0, 0, 0) := by decide +kernel
theorem q36_28 : c_q 36 28 = some (.goto (-24), 4, 0, 0) := by decide +kernel
theorem q36_31 : c_q 36 31 = some (.iload_n 2, 0, 0, 0) := by decide +kernel
theorem q36_32 : c_q 36 32 = some (.ireturn, 0, 0, 0) := by decide +kernel
theorem q37_0 : c_q 37 0 = some (.iconst 0, 0, 0, 0) := by decide +kernel
theorem q37_1 : c_q 37 1 = some (.istore_n 2, 0, 0, 0) := by decide +kernel
theorem q37_2 : c_q 37 2 = some (.iconst 0, 0, 0, 0) := by decide +kernel
theorem q37_3 : c_q 37 3 = some (.istore_n 3, 0, 0, 0) := by decide +kernel
theorem q37_4 : c_q 37 4 = some (.iload_n 3, 0, 0, 0) := by decide +kernel
theorem q37_5 : c_q 37 5 = some (.aload_n 0, 0, 0, 0) := by decide +kernel
theorem q37_6 : c_q 37 6 = some (.invokevirtual 51, 35, 0, 2) := by decide +kernel
theorem q37_9 : c_q 37 9 = some (.if_icmp .ge (21), 30, 0, 0) := by decide +kernel
theorem q37_12 : c_q 37 12 = some (.iload_n 2, 0, 0, 0) := by decide +kernel
theorem q37_13 : c_q 37 13 = some (.aload_n 0, 0, 0, 0) := by decide +kernel
theorem q37_14 : c_q 37 14 = some (.iload_n 3, 0, 0, 0) := by decide +kernel
theorem q37_15 : c_q 37 15 = some (.invokevirtual 54, 36, 1, 2) := by decide +kernel
theorem q37_18 : c_q 37 18 = some (.iload_n 1, 0, 0, 0) := by decide +kernel
theorem q37_19 : c_q 37 19 = some (.invokestatic 57, 0, 0, 8) := by decide +kernel
theorem q37_22 : c_q 37 22 = some (.iadd, 0, 0, 0) := by decide +kernel
theorem q37_23 : c_q 37 23 = some (.istore_n 2, 0, 0, 0) := by decide +kernel
theorem q37_24 : c_q 37 24 = some (.iinc 3 (1), 0, 0, 0) := by decide +kernel
theorem q37_27 : c_q 37 27 = some (.goto (-23), 4, 0, 0) := by decide +kernel
theorem q37_30 : c_q 37 30 = some (.iload_n 2, 0, 0, 0) := by decide +kernel
theorem q37_31 : c_q 37 31 = some (.ireturn, 0, 0, 0) := by decide +kernel
theorem q38_0 : c_q 38 0 = some (.aload_n 0, 0, 0, 0) := by decide +kernel
theorem q38_1 : c_q 38 1 = some (.invokespecial 3, 0, 0, 6) := by decide +kernel
theorem q38_4 : c_q 38 4 = some (.aload_n 0, 0, 0, 0) := by decide +kernel
theorem q38_5 : c_q 38 5 = some (.bipush (8), 0, 0, 0) := by decide +kernel
theorem q38_7 : c_q 38 7 = some (.bipush (60), 0, 0, 0) := by decide +kernel
theorem q38_9 : c_q 38 9 = some (.multianewarray 9 2, 0, 0, 0) := by decide +kernel
theorem q38_13 : c_q 38 13 = some (.putfield 11, 4, 0, 0) := by decide +kernel
theorem q38_16 : c_q 38 16 = some (.aload_n 0, 0, 0, 0) := by decide +kernel
theorem q38_17 : c_q 38 17 = some (.bipush (8), 0, 0, 0) := by decide +kernel
theorem q38_19 : c_q 38 19 = some (.bipush (60), 0, 0, 0) := by decide +kernel
theorem q38_21 : c_q 38 21 = some (.multianewarray 9 2, 0, 0, 0) := by decide +kernel
theorem q38_25 : c_q 38 25 = some (.putfield 16, 4, 1, 0) := by decide +kernel
theorem q38_28 : c_q 38 28 = some (.return_, 0, 0, 0) := by decide +kernel
theorem q39_0 : c_q 39 0 = some (.aload_n 0, 0, 0, 0) := by decide +kernel
theorem q39_1 : c_q 39 1 = some (.iconst 0, 0, 0, 0) := by decide +kernel
theorem q39_2 : c_q 39 2 = some (.putfield 19, 4, 2, 0) := by decide +kernel
theorem q39_5 : c_q 39 5 = some (.return_, 0, 0, 0) := by decide +kernel
theorem q40_0 : c_q 40 0 = some (.iload_n 1, 0, 0, 0) := by decide +kernel
theorem q40_1 : c_q 40 1 = some (.iconst 1, 0, 0, 0) := by decide +kernel
theorem q40_2 : c_q 40 2 = some (.if_icmp .lt (15), 17, 0, 0) := by decide +kernel
theorem q40_5 : c_q 40 5 = some (.iload_n 1, 0, 0, 0) := by decide +kernel
theorem q40_6 : c_q 40 6 = some (.aload_n 0, 0, 0, 0) := by decide +kernel
theorem q40_7 : c_q 40 7 = some (.getfield 19, 4, 2, 0) := by decide +kernel
theorem q40_10 : c_q 40 10 = some (.if_icmp .gt (7), 17, 0, 0) := by decide +kernel
theorem q40_13 : c_q 40 13 = some (.iconst 1, 0, 0, 0) := by decide +kernel
theorem q40_14 : c_q 40 14 = some (.goto (4), 18, 0, 0) := by decide +kernel
theorem q40_17 : c_q 40 17 = some (.iconst 0, 0, 0, 0) := by decide +kernel
theorem q40_18 : c_q 40 18 = some (.ireturn, 0, 0, 0) := by decide +kernel
theorem q41_0 : c_q 41 0 = some (.aload_n 0, 0, 0, 0) := by decide +kernel
theorem q41_1 : c_q 41 1 = some (.getfield 23, 4, 3, 0) := by decide +kernel
theorem q41_4 : c_q 41 4 = some (.iload_n 1, 0, 0, 0) := by decide +kernel
theorem q41_5 : c_q 41 5 = some (.isub, 0, 0, 0) := by decide +kernel
theorem q41_6 : c_q 41 6 = some (.bipush (8), 0, 0, 0) := by decide +kernel
theorem q41_8 : c_q 41 8 = some (.invokestatic 26, 81, 2, 0) := by decide +kernel
theorem q41_11 : c_q 41 11 = some (.ireturn, 0, 0, 0) := by decide +kernel
theorem q42_0 : c_q 42 0 = some (.aload_n 0, 0, 0, 0) := by decide +kernel
theorem q42_1 : c_q 42 1 = some (.getfield 16, 4, 1, 0) := by decide +kernel
theorem q42_4 : c_q 42 4 = some (.aload_n 0, 0, 0, 0) := by decide +kernel
theorem q42_5 : c_q 42 5 = some (.iload_n 1, 0, 0, 0) := by decide +kernel
theorem q42_6 : c_q 42 6 = some (.invokevirtual 32, 41, 1, 2) := by decide +kernel
theorem q42_9 : c_q 42 9 = some (.aaload, 0, 0, 0) := by decide +kernel
theorem q42_10 : c_q 42 10 = some (.iload_n 2, 0, 0, 0) := by decide +kernel
theorem q42_11 : c_q 42 11 = some (.iaload, 0, 0, 0) := by decide +kernel
theorem q42_12 : c_q 42 12 = some (.ireturn, 0, 0, 0) := by decide +kernel
theorem q43_0 : c_q 43 0 = some (.iconst 0, 0, 0, 0) := by decide +kernel
theorem q43_1 : c_q 43 1 = some (.istore_n 2, 0, 0, 0) := by decide +kernel
theorem q43_2 : c_q 43 2 = some (.iload_n 2, 0, 0, 0) := by decide +kernel
theorem q43_3 : c_q 43 3 = some (.aload_n 1, 0, 0, 0) := by decide +kernel
theorem q43_4 : c_q 43 4 = some (.getfield 36, 6, 2, 1) := by decide +kernel
theorem q43_7 : c_q 43 7 = some (.if_icmp .ge (43), 50, 0, 0) := by decide +kernel
theorem q43_10 : c_q 43 10 = some (.aload_n 0, 0, 0, 0) := by decide +kernel
theorem q43_11 : c_q 43 11 = some (.getfield 11, 4, 0, 0) := by decide +kernel
theorem q43_14 : c_q 43 14 = some (.aload_n 0, 0, 0, 0) := by decide +kernel
theorem q43_15 : c_q 43 15 = some (.getfield 23, 4, 3, 0) := by decide +kernel
theorem q43_18 : c_q 43 18 = some (.aaload, 0, 0, 0) := by decide +kernel
theorem q43_19 : c_q 43 19 = some (.iload_n 2, 0, 0, 0) := by decide +kernel
theorem q43_20 : c_q 43 20 = some (.aload_n 1, 0, 0, 0) := by decide +kernel
theorem q43_21 : c_q 43 21 = some (.getfield 41, 6, 0, 1) := by decide +kernel
theorem q43_24 : c_q 43 24 = some (.iload_n 2, 0, 0, 0) := by decide +kernel
theorem q43_25 : c_q 43 25 = some (.iaload, 0, 0, 0) := by decide +kernel
theorem q43_26 : c_q 43 26 = some (.iastore, 0, 0, 0) := by decide +kernel
theorem q43_27 : c_q 43 27 = some (.aload_n 0, 0, 0, 0) := by decide +kernel
theorem q43_28 : c_q 43 28 = some (.getfield 16, 4, 1, 0) := by decide +kernel
theorem q43_31 : c_q 43 31 = some (.aload_n 0, 0, 0, 0) := by decide +kernel
theorem q43_32 : c_q 43 32 = some (.getfield 23, 4, 3, 0) := by decide +kernel
theorem q43_35 : c_q 43 35 = some (.aaload, 0, 0, 0) := by decide +kernel
theorem q43_36 : c_q 43 36 = some (.iload_n 2, 0, 0, 0) := by decide +kernel
theorem q43_37 : c_q 43 37 = some (.aload_n 1, 0, 0, 0) := by decide +kernel
theorem q43_38 : c_q 43 38 = some (.getfield 44, 6, 1, 1) := by decide +kernel
theorem q43_41 : c_q 43 41 = some (.iload_n 2, 0, 0, 0) := by decide +kernel
theorem q43_42 : c_q 43 42 = some (.iaload, 0, 0, 0) := by decide +kernel
theorem q43_43 : c_q 43 43 = some (.iastore, 0, 0, 0) := by decide +kernel
theorem q43_44 : c_q 43 44 = some (.iinc 2 (1), 0, 0, 0) := by decide +kernel
theorem q43_47 : c_q 43 47 = some (.goto (-45), 2, 0, 0) := by decide +kernel
theorem q43_50 : c_q 43 50 = some (.aload_n 0, 0, 0, 0) := by decide +kernel
theorem q43_51 : c_q 43 51 = some (.aload_n 0, 0, 0, 0) := by decide +kernel
theorem q43_52 : c_q 43 52 = some (.iconst (-1), 0, 0, 0) := by decide +kernel
theorem q43_53 : c_q 43 53 = some (.invokevirtual 32, 41, 1, 2) := by decide +kernel
theorem q43_56 : c_q 43 56 = some (.putfield 23, 4, 3, 0) := by decide +kernel
theorem q43_59 : c_q 43 59 = some (.aload_n 0, 0, 0, 0) := by decide +kernel
theorem q43_60 : c_q 43 60 = some (.aload_n 0, 0, 0, 0) := by decide +kernel
theorem q43_61 : c_q 43 61 = some (.getfield 19, 4, 2, 0) := by decide +kernel
theorem q43_64 : c_q 43 64 = some (.iconst 1, 0, 0, 0) := by decide +kernel
theorem q43_65 : c_q 43 65 = some (.iadd, 0, 0, 0) := by decide +kernel
theorem q43_66 : c_q 43 66 = some (.bipush (8), 0, 0, 0) := by decide +kernel
theorem q43_68 : c_q 43 68 = some (.invokestatic 46, 0, 0, 8) := by decide +kernel
theorem q43_71 : c_q 43 71 = some (.putfield 19, 4, 2, 0) := by decide +kernel
theorem q43_74 : c_q 43 74 = some (.return_, 0, 0, 0) := by decide +kernel
theorem q44_0 : c_q 44 0 = some (.aload_n 0, 0, 0, 0) := by decide +kernel
theorem q44_1 : c_q 44 1 = some (.aload_n 0, 0, 0, 0) := by decide +kernel
theorem q44_2 : c_q 44 2 = some (.iconst 1, 0, 0, 0) := by decide +kernel
theorem q44_3 : c_q 44 3 = some (.invokevirtual 32, 41, 1, 2) := by decide +kernel
theorem q44_6 : c_q 44 6 = some (.putfield 23, 4, 3, 0) := by decide +kernel
theorem q44_9 : c_q 44 9 = some (.aload_n 0, 0, 0, 0) := by decide +kernel
theorem q44_10 : c_q 44 10 = some (.aload_n 0, 0, 0, 0) := by decide +kernel
theorem q44_11 : c_q 44 11 = some (.getfield 19, 4, 2, 0) := by decide +kernel
theorem q44_14 : c_q 44 14 = some (.iconst 1, 0, 0, 0) := by decide +kernel
theorem q44_15 : c_q 44 15 = some (.isub, 0, 0, 0) := by decide +kernel
theorem q44_16 : c_q 44 16 = some (.iconst 0, 0, 0, 0) := by decide +kernel
theorem q44_17 : c_q 44 17 = some (.invokestatic 49, 0, 0, 7) := by decide +kernel
theorem q44_20 : c_q 44 20 = some (.putfield 19, 4, 2, 0) := by decide +kernel
theorem q44_23 : c_q 44 23 = some (.aload_n 1, 0, 0, 0) := by decide +kernel
theorem q44_24 : c_q 44 24 = some (.aload_n 0, 0, 0, 0) := by decide +kernel
theorem q44_25 : c_q 44 25 = some (.getfield 11, 4, 0, 0) := by decide +kernel
theorem q44_28 : c_q 44 28 = some (.aload_n 0, 0, 0, 0) := by decide +kernel
theorem q44_29 : c_q 44 29 = some (.getfield 23, 4, 3, 0) := by decide +kernel
theorem q44_32 : c_q 44 32 = some (.aaload, 0, 0, 0) := by decide +kernel
theorem q44_33 : c_q 44 33 = some (.invokevirtual 52, 52, 1, 3) := by decide +kernel
theorem q44_36 : c_q 44 36 = some (.aload_n 1, 0, 0, 0) := by decide +kernel
theorem q44_37 : c_q 44 37 = some (.aload_n 0, 0, 0, 0) := by decide +kernel
theorem q44_38 : c_q 44 38 = some (.getfield 16, 4, 1, 0) := by decide +kernel
theorem q44_41 : c_q 44 41 = some (.aload_n 0, 0, 0, 0) := by decide +kernel
theorem q44_42 : c_q 44 42 = some (.getfield 23, 4, 3, 0) := by decide +kernel
theorem q44_45 : c_q 44 45 = some (.aaload, 0, 0, 0) := by decide +kernel
theorem q44_46 : c_q 44 46 = some (.invokevirtual 56, 53, 1, 3) := by decide +kernel
theorem q44_49 : c_q 44 49 = some (.return_, 0, 0, 0) := by decide +kernel
theorem q45_0 : c_q 45 0 = some (.aload_n 0, 0, 0, 0) := by decide +kernel
theorem q45_1 : c_q 45 1 = some (.invokespecial 3, 0, 0, 6) := by decide +kernel
theorem q45_4 : c_q 45 4 = some (.aload_n 0, 0, 0, 0) := by decide +kernel
theorem q45_5 : c_q 45 5 = some (.bipush (8), 0, 0, 0) := by decide +kernel
theorem q45_7 : c_q 45 7 = some (.bipush (6), 0, 0, 0) := by decide +kernel
theorem q45_9 : c_q 45 9 = some (.multianewarray 9 2, 0, 0, 0) := by decide +kernel
theorem q45_13 : c_q 45 13 = some (.putfield 11, 5, 0, 0) := by decide +kernel
theorem q45_16 : c_q 45 16 = some (.aload_n 0, 0, 0, 0) := by decide +kernel
theorem q45_17 : c_q 45 17 = some (.bipush (6), 0, 0, 0) := by decide +kernel
theorem q45_19 : c_q 45 19 = some (.newarray .int, 0, 0, 0) := by decide +kernel
theorem q45_21 : c_q 45 21 = some (.putfield 16, 5, 1, 0) := by decide +kernel
theorem q45_24 : c_q 45 24 = some (.return_, 0, 0, 0) := by decide +kernel
theorem q46_0 : c_q 46 0 = some (.aload_n 0, 0, 0, 0) := by decide +kernel
theorem q46_1 : c_q 46 1 = some (.getfield 16, 5, 1, 0) := by decide +kernel
theorem q46_4 : c_q 46 4 = some (.iconst 0, 0, 0, 0) := by decide +kernel
theorem q46_5 : c_q 46 5 = some (.invokestatic 20, 82, 2, 0) := by decide +kernel
theorem q46_8 : c_q 46 8 = some (.iconst 0, 0, 0, 0) := by decide +kernel
theorem q46_9 : c_q 46 9 = some (.istore_n 3, 0, 0, 0) := by decide +kernel
theorem q46_10 : c_q 46 10 = some (.iload_n 3, 0, 0, 0) := by decide +kernel
theorem q46_11 : c_q 46 11 = some (.iload_n 1, 0, 0, 0) := by decide +kernel
theorem q46_12 : c_q 46 12 = some (.if_icmp .gt (92), 104, 0, 0) := by decide +kernel
theorem q46_15 : c_q 46 15 = some (.iload_n 3, 0, 0, 0) := by decide +kernel
theorem q46_16 : c_q 46 16 = some (.bipush (8), 0, 0, 0) := by decide +kernel
theorem q46_18 : c_q 46 18 = some (.if_icmp .ge (86), 104, 0, 0) := by decide +kernel
theorem q46_21 : c_q 46 21 = some (.iconst 0, 0, 0, 0) := by decide +kernel
theorem q46_22 : c_q 46 22 = some (.istore 4, 0, 0, 0) := by decide +kernel
theorem q46_24 : c_q 46 24 = some (.iload 4, 0, 0, 0) := by decide +kernel
theorem q46_26 : c_q 46 26 = some (.iload_n 2, 0, 0, 0) := by decide +kernel
theorem q46_27 : c_q 46 27 = some (.if_icmp .gt (71), 98, 0, 0) := by decide +kernel
theorem q46_30 : c_q 46 30 = some (.iload 4, 0, 0, 0) := by decide +kernel
theorem q46_32 : c_q 46 32 = some (.bipush (6), 0, 0, 0) := by decide +kernel
theorem q46_34 : c_q 46 34 = some (.if_icmp .ge (64), 98, 0, 0) := by decide +kernel
theorem q46_37 : c_q 46 37 = some (.iload 4, 0, 0, 0) := by decide +kernel
theorem q46_39 : c_q 46 39 = some (.ifCond .le (25), 64, 0, 0) := by decide +kernel
theorem q46_42 : c_q 46 42 = some (.aload_n 0, 0, 0, 0) := by decide +kernel
theorem q46_43 : c_q 46 43 = some (.getfield 16, 5, 1, 0) := by decide +kernel
theorem q46_46 : c_q 46 46 = some (.iload 4, 0, 0, 0) := by decide +kernel
theorem q46_48 : c_q 46 48 = some (.iaload, 0, 0, 0) := by decide +kernel
theorem q46_49 : c_q 46 49 = some (.aload_n 0, 0, 0, 0) := by decide +kernel
theorem q46_50 : c_q 46 50 = some (.getfield 16, 5, 1, 0) := by decide +kernel
theorem q46_53 : c_q 46 53 = some (.iload 4, 0, 0, 0) := by decide +kernel
theorem q46_55 : c_q 46 55 = some (.iconst 1, 0, 0, 0) := by decide +kernel
theorem q46_56 : c_q 46 56 = some (.isub, 0, 0, 0) := by decide +kernel
theorem q46_57 : c_q 46 57 = some (.iaload, 0, 0, 0) := by decide +kernel
theorem q46_58 : c_q 46 58 = some (.invokestatic 26, 0, 0, 7) := by decide +kernel
theorem q46_61 : c_q 46 61 = some (.goto (10), 71, 0, 0) := by decide +kernel
theorem q46_64 : c_q 46 64 = some (.aload_n 0, 0, 0, 0) := by decide +kernel
theorem q46_65 : c_q 46 65 = some (.getfield 16, 5, 1, 0) := by decide +kernel
theorem q46_68 : c_q 46 68 = some (.iload 4, 0, 0, 0) := by decide +kernel
theorem q46_70 : c_q 46 70 = some (.iaload, 0, 0, 0) := by decide +kernel
theorem q46_71 : c_q 46 71 = some (.istore 5, 0, 0, 0) := by decide +kernel
theorem q46_73 : c_q 46 73 = some (.aload_n 0, 0, 0, 0) := by decide +kernel
theorem q46_74 : c_q 46 74 = some (.getfield 16, 5, 1, 0) := by decide +kernel
theorem q46_77 : c_q 46 77 = some (.iload 4, 0, 0, 0) := by decide +kernel
theorem q46_79 : c_q 46 79 = some (.iload 5, 0, 0, 0) := by decide +kernel
theorem q46_81 : c_q 46 81 = some (.aload_n 0, 0, 0, 0) := by decide +kernel
theorem q46_82 : c_q 46 82 = some (.getfield 11, 5, 0, 0) := by decide +kernel
theorem q46_85 : c_q 46 85 = some (.iload_n 3, 0, 0, 0) := by decide +kernel
theorem q46_86 : c_q 46 86 = some (.aaload, 0, 0, 0) := by decide +kernel
theorem q46_87 : c_q 46 87 = some (.iload 4, 0, 0, 0) := by decide +kernel
theorem q46_89 : c_q 46 89 = some (.iaload, 0, 0, 0) := by decide +kernel
theorem q46_90 : c_q 46 90 = some (.iadd, 0, 0, 0) := by decide +kernel
theorem q46_91 : c_q 46 91 = some (.iastore, 0, 0, 0) := by decide +kernel
theorem q46_92 : c_q 46 92 = some (.iinc 4 (1), 0, 0, 0) := by decide +kernel
theorem q46_95 : c_q 46 95 = some (.goto (-71), 24, 0, 0) := by decide +kernel
theorem q46_98 : c_q 46 98 = some (.iinc 3 (1), 0, 0, 0) := by decide +kernel
theorem q46_101 : c_q 46 101 = some (.goto (-91), 10, 0, 0) := by decide +kernel
theorem q46_104 : c_q 46 104 = some (.aload_n 0, 0, 0, 0) := by decide +kernel
theorem q46_105 : c_q 46 105 = some (.getfield 16, 5, 1, 0) := by decide +kernel
theorem q46_108 : c_q 46 108 = some (.iload_n 2, 0, 0, 0) := by decide +kernel
theorem q46_109 : c_q 46 109 = some (.iaload, 0, 0, 0) := by decide +kernel
theorem q46_110 : c_q 46 110 = some (.ireturn, 0, 0, 0) := by decide +kernel
theorem q47_0 : c_q 47 0 = some (.iconst 0, 0, 0, 0) := by decide +kernel
theorem q47_1 : c_q 47 1 = some (.istore_n 1, 0, 0, 0) := by decide +kernel
theorem q47_2 : c_q 47 2 = some (.iload_n 1, 0, 0, 0) := by decide +kernel
theorem q47_3 : c_q 47 3 = some (.bipush (8), 0, 0, 0) := by decide +kernel
theorem q47_5 : c_q 47 5 = some (.if_icmp .ge (40), 45, 0, 0) := by decide +kernel
theorem q47_8 : c_q 47 8 = some (.iconst 0, 0, 0, 0) := by decide +kernel
theorem q47_9 : c_q 47 9 = some (.istore_n 2, 0, 0, 0) := by decide +kernel
theorem q47_10 : c_q 47 10 = some (.iload_n 2, 0, 0, 0) := by decide +kernel
theorem q47_11 : c_q 47 11 = some (.bipush (6), 0, 0, 0) := by decide +kernel
theorem q47_13 : c_q 47 13 = some (.if_icmp .ge (26), 39, 0, 0) := by decide +kernel
theorem q47_16 : c_q 47 16 = some (.aload_n 0, 0, 0, 0) := by decide +kernel
theorem q47_17 : c_q 47 17 = some (.iload_n 1, 0, 0, 0) := by decide +kernel
theorem q47_18 : c_q 47 18 = some (.iload_n 2, 0, 0, 0) := by decide +kernel
theorem q47_19 : c_q 47 19 = some (.invokevirtual 32, 46, 2, 2) := by decide +kernel
theorem q47_22 : c_q 47 22 = some (.aload_n 0, 0, 0, 0) := by decide +kernel
theorem q47_23 : c_q 47 23 = some (.iload_n 1, 0, 0, 0) := by decide +kernel
theorem q47_24 : c_q 47 24 = some (.iload_n 2, 0, 0, 0) := by decide +kernel
theorem q47_25 : c_q 47 25 = some (.invokevirtual 35, 48, 2, 2) := by decide +kernel
theorem q47_28 : c_q 47 28 = some (.if_icmp .eq (5), 33, 0, 0) := by decide +kernel
theorem q47_31 : c_q 47 31 = some (.iconst 0, 0, 0, 0) := by decide +kernel
theorem q47_32 : c_q 47 32 = some (.ireturn, 0, 0, 0) := by decide +kernel
theorem q47_33 : c_q 47 33 = some (.iinc 2 (1), 0, 0, 0) := by decide +kernel
theorem q47_36 : c_q 47 36 = some (.goto (-26), 10, 0, 0) := by decide +kernel
theorem q47_39 : c_q 47 39 = some (.iinc 1 (1), 0, 0, 0) := by decide +kernel
theorem q47_42 : c_q 47 42 = some (.goto (-40), 2, 0, 0) := by decide +kernel
theorem q47_45 : c_q 47 45 = some (.iconst 1, 0, 0, 0) := by decide +kernel
theorem q47_46 : c_q 47 46 = some (.ireturn, 0, 0, 0) := by decide +kernel
theorem q48_0 : c_q 48 0 = some (.aload_n 0, 0, 0, 0) := by decide +kernel
theorem q48_1 : c_q 48 1 = some (.getfield 16, 5, 1, 0) := by decide +kernel
theorem q48_4 : c_q 48 4 = some (.iconst 0, 0, 0, 0) := by decide +kernel
theorem q48_5 : c_q 48 5 = some (.invokestatic 20, 82, 2, 0) := by decide +kernel
theorem q48_8 : c_q 48 8 = some (.iload_n 1, 0, 0, 0) := by decide +kernel
theorem q48_9 : c_q 48 9 = some (.istore_n 3, 0, 0, 0) := by decide +kernel
theorem q48_10 : c_q 48 10 = some (.iload_n 3, 0, 0, 0) := by decide +kernel
theorem q48_11 : c_q 48 11 = some (.ifCond .lt (79), 90, 0, 0) := by decide +kernel
theorem q48_14 : c_q 48 14 = some (.iload_n 2, 0, 0, 0) := by decide +kernel
theorem q48_15 : c_q 48 15 = some (.istore 4, 0, 0, 0) := by decide +kernel
theorem q48_17 : c_q 48 17 = some (.iload 4, 0, 0, 0) := by decide +kernel
theorem q48_19 : c_q 48 19 = some (.ifCond .lt (65), 84, 0, 0) := by decide +kernel
theorem q48_22 : c_q 48 22 = some (.iload 4, 0, 0, 0) := by decide +kernel
theorem q48_24 : c_q 48 24 = some (.iload_n 2, 0, 0, 0) := by decide +kernel
theorem q48_25 : c_q 48 25 = some (.if_icmp .ge (25), 50, 0, 0) := by decide +kernel
theorem q48_28 : c_q 48 28 = some (.aload_n 0, 0, 0, 0) := by decide +kernel
theorem q48_29 : c_q 48 29 = some (.getfield 16, 5, 1, 0) := by decide +kernel
theorem q48_32 : c_q 48 32 = some (.iload 4, 0, 0, 0) := by decide +kernel
theorem q48_34 : c_q 48 34 = some (.iaload, 0, 0, 0) := by decide +kernel
theorem q48_35 : c_q 48 35 = some (.aload_n 0, 0, 0, 0) := by decide +kernel
theorem q48_36 : c_q 48 36 = some (.getfield 16, 5, 1, 0) := by decide +kernel
theorem q48_39 : c_q 48 39 = some (.iload 4, 0, 0, 0) := by decide +kernel
theorem q48_41 : c_q 48 41 = some (.iconst 1, 0, 0, 0) := by decide +kernel
theorem q48_42 : c_q 48 42 = some (.iadd, 0, 0, 0) := by decide +kernel
theorem q48_43 : c_q 48 43 = some (.iaload, 0, 0, 0) := by decide +kernel
theorem q48_44 : c_q 48 44 = some (.invokestatic 26, 0, 0, 7) := by decide +kernel
theorem q48_47 : c_q 48 47 = some (.goto (10), 57, 0, 0) := by decide +kernel
theorem q48_50 : c_q 48 50 = some (.aload_n 0, 0, 0, 0) := by decide +kernel
theorem q48_51 : c_q 48 51 = some (.getfield 16, 5, 1, 0) := by decide +kernel
theorem q48_54 : c_q 48 54 = some (.iload 4, 0, 0, 0) := by decide +kernel
theorem q48_56 : c_q 48 56 = some (.iaload, 0, 0, 0) := by decide +kernel
theorem q48_57 : c_q 48 57 = some (.istore 5, 0, 0, 0) := by decide +kernel
theorem q48_59 : c_q 48 59 = some (.aload_n 0, 0, 0, 0) := by decide +kernel
theorem q48_60 : c_q 48 60 = some (.getfield 16, 5, 1, 0) := by decide +kernel
theorem q48_63 : c_q 48 63 = some (.iload 4, 0, 0, 0) := by decide +kernel
theorem q48_65 : c_q 48 65 = some (.iload 5, 0, 0, 0) := by decide +kernel
theorem q48_67 : c_q 48 67 = some (.aload_n 0, 0, 0, 0) := by decide +kernel
theorem q48_68 : c_q 48 68 = some (.getfield 11, 5, 0, 0) := by decide +kernel
theorem q48_71 : c_q 48 71 = some (.iload_n 3, 0, 0, 0) := by decide +kernel
theorem q48_72 : c_q 48 72 = some (.aaload, 0, 0, 0) := by decide +kernel
theorem q48_73 : c_q 48 73 = some (.iload 4, 0, 0, 0) := by decide +kernel
theorem q48_75 : c_q 48 75 = some (.iaload, 0, 0, 0) := by decide +kernel
theorem q48_76 : c_q 48 76 = some (.iadd, 0, 0, 0) := by decide +kernel
theorem q48_77 : c_q 48 77 = some (.iastore, 0, 0, 0) := by decide +kernel
theorem q48_78 : c_q 48 78 = some (.iinc 4 (-1), 0, 0, 0) := by decide +kernel
theorem q48_81 : c_q 48 81 = some (.goto (-64), 17, 0, 0) := by decide +kernel
theorem q48_84 : c_q 48 84 = some (.iinc 3 (-1), 0, 0, 0) := by decide +kernel
theorem q48_87 : c_q 48 87 = some (.goto (-77), 10, 0, 0) := by decide +kernel
theorem q48_90 : c_q 48 90 = some (.aload_n 0, 0, 0, 0) := by decide +kernel
theorem q48_91 : c_q 48 91 = some (.getfield 16, 5, 1, 0) := by decide +kernel
theorem q48_94 : c_q 48 94 = some (.iconst 0, 0, 0, 0) := by decide +kernel
theorem q48_95 : c_q 48 95 = some (.iaload, 0, 0, 0) := by decide +kernel
theorem q48_96 : c_q 48 96 = some (.ireturn, 0, 0, 0) := by decide +kernel
theorem q49_0 : c_q 49 0 = some (.aload_n 0, 0, 0, 0) := by decide +kernel
theorem q49_1 : c_q 49 1 = some (.invokespecial 3, 0, 0, 6) := by decide +kernel
theorem q49_4 : c_q 49 4 = some (.aload_n 0, 0, 0, 0) := by decide +kernel
theorem q49_5 : c_q 49 5 = some (.bipush (60), 0, 0, 0) := by decide +kernel
theorem q49_7 : c_q 49 7 = some (.newarray .int, 0, 0, 0) := by decide +kernel
theorem q49_9 : c_q 49 9 = some (.putfield 9, 6, 0, 0) := by decide +kernel
theorem q49_12 : c_q 49 12 = some (.aload_n 0, 0, 0, 0) := by decide +kernel
theorem q49_13 : c_q 49 13 = some (.bipush (60), 0, 0, 0) := by decide +kernel
theorem q49_15 : c_q 49 15 = some (.newarray .int, 0, 0, 0) := by decide +kernel
theorem q49_17 : c_q 49 17 = some (.putfield 15, 6, 1, 0) := by decide +kernel
theorem q49_20 : c_q 49 20 = some (.aload_n 0, 0, 0, 0) := by decide +kernel
theorem q49_21 : c_q 49 21 = some (.iconst 1, 0, 0, 0) := by decide +kernel
theorem q49_22 : c_q 49 22 = some (.putfield 18, 6, 2, 0) := by decide +kernel
theorem q49_25 : c_q 49 25 = some (.return_, 0, 0, 0) := by decide +kernel
theorem q50_0 : c_q 50 0 = some (.aload_n 0, 0, 0, 0) := by decide +kernel
theorem q50_1 : c_q 50 1 = some (.iconst 1, 0, 0, 0) := by decide +kernel
theorem q50_2 : c_q 50 2 = some (.iload_n 1, 0, 0, 0) := by decide +kernel
theorem q50_3 : c_q 50 3 = some (.bipush (60), 0, 0, 0) := by decide +kernel
theorem q50_5 : c_q 50 5 = some (.invokestatic 22, 0, 0, 8) := by decide +kernel
theorem q50_8 : c_q 50 8 = some (.invokestatic 28, 0, 0, 7) := by decide +kernel
theorem q50_11 : c_q 50 11 = some (.putfield 18, 6, 2, 0) := by decide +kernel
theorem q50_14 : c_q 50 14 = some (.aload_n 0, 0, 0, 0) := by decide +kernel
theorem q50_15 : c_q 50 15 = some (.iload_n 3, 0, 0, 0) := by decide +kernel
theorem q50_16 : c_q 50 16 = some (.putfield 31, 6, 3, 0) := by decide +kernel
theorem q50_19 : c_q 50 19 = some (.aload_n 0, 0, 0, 0) := by decide +kernel
theorem q50_20 : c_q 50 20 = some (.getfield 9, 6, 0, 0) := by decide +kernel
theorem q50_23 : c_q 50 23 = some (.iload_n 2, 0, 0, 0) := by decide +kernel
theorem q50_24 : c_q 50 24 = some (.invokestatic 35, 82, 2, 0) := by decide +kernel
theorem q50_27 : c_q 50 27 = some (.aload_n 0, 0, 0, 0) := by decide +kernel
theorem q50_28 : c_q 50 28 = some (.getfield 15, 6, 1, 0) := by decide +kernel
theorem q50_31 : c_q 50 31 = some (.iconst 0, 0, 0, 0) := by decide +kernel
theorem q50_32 : c_q 50 32 = some (.invokestatic 35, 82, 2, 0) := by decide +kernel
theorem q50_35 : c_q 50 35 = some (.return_, 0, 0, 0) := by decide +kernel
theorem q51_0 : c_q 51 0 = some (.aload_n 0, 0, 0, 0) := by decide +kernel
theorem q51_1 : c_q 51 1 = some (.aload_n 1, 0, 0, 0) := by decide +kernel
theorem q51_2 : c_q 51 2 = some (.getfield 18, 6, 2, 0) := by decide +kernel
theorem q51_5 : c_q 51 5 = some (.putfield 18, 6, 2, 0) := by decide +kernel
theorem q51_8 : c_q 51 8 = some (.aload_n 0, 0, 0, 0) := by decide +kernel
theorem q51_9 : c_q 51 9 = some (.aload_n 1, 0, 0, 0) := by decide +kernel
theorem q51_10 : c_q 51 10 = some (.getfield 31, 6, 3, 0) := by decide +kernel
theorem q51_13 : c_q 51 13 = some (.putfield 31, 6, 3, 0) := by decide +kernel
theorem q51_16 : c_q 51 16 = some (.aload_n 0, 0, 0, 0) := by decide +kernel
theorem q51_17 : c_q 51 17 = some (.aload_n 1, 0, 0, 0) := by decide +kernel
theorem q51_18 : c_q 51 18 = some (.getfield 9, 6, 0, 0) := by decide +kernel
theorem q51_21 : c_q 51 21 = some (.invokevirtual 41, 52, 1, 2) := by decide +kernel
theorem q51_24 : c_q 51 24 = some (.aload_n 0, 0, 0, 0) := by decide +kernel
theorem q51_25 : c_q 51 25 = some (.aload_n 1, 0, 0, 0) := by decide +kernel
theorem q51_26 : c_q 51 26 = some (.getfield 15, 6, 1, 0) := by decide +kernel
theorem q51_29 : c_q 51 29 = some (.invokevirtual 45, 53, 1, 2) := by decide +kernel
theorem q51_32 : c_q 51 32 = some (.return_, 0, 0, 0) := by decide +kernel
theorem q52_0 : c_q 52 0 = some (.iconst 0, 0, 0, 0) := by decide +kernel
theorem q52_1 : c_q 52 1 = some (.istore_n 2, 0, 0, 0) := by decide +kernel
theorem q52_2 : c_q 52 2 = some (.iload_n 2, 0, 0, 0) := by decide +kernel
theorem q52_3 : c_q 52 3 = some (.aload_n 0, 0, 0, 0) := by decide +kernel
theorem q52_4 : c_q 52 4 = some (.getfield 18, 6, 2, 0) := by decide +kernel
theorem q52_7 : c_q 52 7 = some (.if_icmp .ge (24), 31, 0, 0) := by decide +kernel
theorem q52_10 : c_q 52 10 = some (.iload_n 2, 0, 0, 0) := by decide +kernel
theorem q52_11 : c_q 52 11 = some (.aload_n 1, 0, 0, 0) := by decide +kernel
theorem q52_12 : c_q 52 12 = some (.arraylength, 0, 0, 0) := by decide +kernel
theorem q52_13 : c_q 52 13 = some (.if_icmp .ge (18), 31, 0, 0) := by decide +kernel
theorem q52_16 : c_q 52 16 = some (.aload_n 0, 0, 0, 0) := by decide +kernel
theorem q52_17 : c_q 52 17 = some (.getfield 9, 6, 0, 0) := by decide +kernel
theorem q52_20 : c_q 52 20 = some (.iload_n 2, 0, 0, 0) := by decide +kernel
theorem q52_21 : c_q 52 21 = some (.aload_n 1, 0, 0, 0) := by decide +kernel
theorem q52_22 : c_q 52 22 = some (.iload_n 2, 0, 0, 0) := by decide +kernel
theorem q52_23 : c_q 52 23 = some (.iaload, 0, 0, 0) := by decide +kernel
theorem q52_24 : c_q 52 24 = some (.iastore, 0, 0, 0) := by decide +kernel
theorem q52_25 : c_q 52 25 = some (.iinc 2 (1), 0, 0, 0) := by decide +kernel
theorem q52_28 : c_q 52 28 = some (.goto (-26), 2, 0, 0) := by decide +kernel
theorem q52_31 : c_q 52 31 = some (.return_, 0, 0, 0) := by decide +kernel
theorem q53_0 : c_q 53 0 = some (.iconst 0, 0, 0, 0) := by decide +kernel
theorem q53_1 : c_q 53 1 = some (.istore_n 2, 0, 0, 0) := by decide +kernel
theorem q53_2 : c_q 53 2 = some (.iload_n 2, 0, 0, 0) := by decide +kernel
theorem q53_3 : c_q 53 3 = some (.aload_n 0, 0, 0, 0) := by decide +kernel
theorem q53_4 : c_q 53 4 = some (.getfield 18, 6, 2, 0) := by decide +kernel
theorem q53_7 : c_q 53 7 = some (.if_icmp .ge (24), 31, 0, 0) := by decide +kernel
theorem q53_10 : c_q 53 10 = some (.iload_n 2, 0, 0, 0) := by decide +kernel
theorem q53_11 : c_q 53 11 = some (.aload_n 1, 0, 0, 0) := by decide +kernel
theorem q53_12 : c_q 53 12 = some (.arraylength, 0, 0, 0) := by decide +kernel
theorem q53_13 : c_q 53 13 = some (.if_icmp .ge (18), 31, 0, 0) := by decide +kernel
theorem q53_16 : c_q 53 16 = some (.aload_n 0, 0, 0, 0) := by decide +kernel
theorem q53_17 : c_q 53 17 = some (.getfield 15, 6, 1, 0) := by decide +kernel
theorem q53_20 : c_q 53 20 = some (.iload_n 2, 0, 0, 0) := by decide +kernel
theorem q53_21 : c_q 53 21 = some (.aload_n 1, 0, 0, 0) := by decide +kernel
theorem q53_22 : c_q 53 22 = some (.iload_n 2, 0, 0, 0) := by decide +kernel
theorem q53_23 : c_q 53 23 = some (.iaload, 0, 0, 0) := by decide +kernel
theorem q53_24 : c_q 53 24 = some (.iastore, 0, 0, 0) := by decide +kernel
theorem q53_25 : c_q 53 25 = some (.iinc 2 (1), 0, 0, 0) := by decide +kernel
theorem q53_28 : c_q 53 28 = some (.goto (-26), 2, 0, 0) := by decide +kernel
theorem q53_31 : c_q 53 31 = some (.return_, 0, 0, 0) := by decide +kernel
theorem q54_0 : c_q 54 0 = some (.iconst 0, 0, 0, 0) := by decide +kernel
theorem q54_1 : c_q 54 1 = some (.istore_n 2, 0, 0, 0) := by decide +kernel
theorem q54_2 : c_q 54 2 = some (.iload_n 2, 0, 0, 0) := by decide +kernel
theorem q54_3 : c_q 54 3 = some (.aload_n 0, 0, 0, 0) := by decide +kernel
theorem q54_4 : c_q 54 4 = some (.getfield 18, 6, 2, 0) := by decide +kernel
theorem q54_7 : c_q 54 7 = some (.if_icmp .ge (26), 33, 0, 0) := by decide +kernel
theorem q54_10 : c_q 54 10 = some (.aload_n 0, 0, 0, 0) := by decide +kernel
theorem q54_11 : c_q 54 11 = some (.getfield 15, 6, 1, 0) := by decide +kernel
theorem q54_14 : c_q 54 14 = some (.iload_n 2, 0, 0, 0) := by decide +kernel
theorem q54_15 : c_q 54 15 = some (.iaload, 0, 0, 0) := by decide +kernel
theorem q54_16 : c_q 54 16 = some (.aload_n 1, 0, 0, 0) := by decide +kernel
theorem q54_17 : c_q 54 17 = some (.getfield 15, 6, 1, 0) := by decide +kernel
theorem q54_20 : c_q 54 20 = some (.iload_n 2, 0, 0, 0) := by decide +kernel
theorem q54_21 : c_q 54 21 = some (.iaload, 0, 0, 0) := by decide +kernel
theorem q54_22 : c_q 54 22 = some (.if_icmp .eq (5), 27, 0, 0) := by decide +kernel
theorem q54_25 : c_q 54 25 = some (.iconst 0, 0, 0, 0) := by decide +kernel
theorem q54_26 : c_q 54 26 = some (.ireturn, 0, 0, 0) := by decide +kernel
theorem q54_27 : c_q 54 27 = some (.iinc 2 (1), 0, 0, 0) := by decide +kernel
theorem q54_30 : c_q 54 30 = some (.goto (-28), 2, 0, 0) := by decide +kernel
theorem q54_33 : c_q 54 33 = some (.iconst 1, 0, 0, 0) := by decide +kernel
theorem q54_34 : c_q 54 34 = some (.ireturn, 0, 0, 0) := by decide +kernel
theorem q55_0 : c_q 55 0 = some (.iconst 0, 0, 0, 0) := by decide +kernel
theorem q55_1 : c_q 55 1 = some (.istore_n 1, 0, 0, 0) := by decide +kernel
theorem q55_2 : c_q 55 2 = some (.iload_n 1, 0, 0, 0) := by decide +kernel
theorem q55_3 : c_q 55 3 = some (.aload_n 0, 0, 0, 0) := by decide +kernel
theorem q55_4 : c_q 55 4 = some (.getfield 18, 6, 2, 0) := by decide +kernel
theorem q55_7 : c_q 55 7 = some (.if_icmp .ge (21), 28, 0, 0) := by decide +kernel
theorem q55_10 : c_q 55 10 = some (.aload_n 0, 0, 0, 0) := by decide +kernel
theorem q55_11 : c_q 55 11 = some (.getfield 9, 6, 0, 0) := by decide +kernel
theorem q55_14 : c_q 55 14 = some (.iload_n 1, 0, 0, 0) := by decide +kernel
theorem q55_15 : c_q 55 15 = some (.iaload, 0, 0, 0) := by decide +kernel
theorem q55_16 : c_q 55 16 = some (.iconst 1, 0, 0, 0) := by decide +kernel
theorem q55_17 : c_q 55 17 = some (.if_icmp .eq (5), 22, 0, 0) := by decide +kernel
theorem q55_20 : c_q 55 20 = some (.iconst 0, 0, 0, 0) := by decide +kernel
theorem q55_21 : c_q 55 21 = some (.ireturn, 0, 0, 0) := by decide +kernel
theorem q55_22 : c_q 55 22 = some (.iinc 1 (1), 0, 0, 0) := by decide +kernel
theorem q55_25 : c_q 55 25 = some (.goto (-23), 2, 0, 0) := by decide +kernel
theorem q55_28 : c_q 55 28 = some (.iconst 1, 0, 0, 0) := by decide +kernel
theorem q55_29 : c_q 55 29 = some (.ireturn, 0, 0, 0) := by decide +kernel
theorem q56_0 : c_q 56 0 = some (.iconst 0, 0, 0, 0) := by decide +kernel
theorem q56_1 : c_q 56 1 = some (.istore_n 1, 0, 0, 0) := by decide +kernel
theorem q56_2 : c_q 56 2 = some (.iconst 0, 0, 0, 0) := by decide +kernel
theorem q56_3 : c_q 56 3 = some (.istore_n 2, 0, 0, 0) := by decide +kernel
theorem q56_4 : c_q 56 4 = some (.iload_n 2, 0, 0, 0) := by decide +kernel
theorem q56_5 : c_q 56 5 = some (.aload_n 0, 0, 0, 0) := by decide +kernel
theorem q56_6 : c_q 56 6 = some (.getfield 18, 6, 2, 0) := by decide +kernel
theorem q56_9 : c_q 56 9 = some (.if_icmp .ge (18), 27, 0, 0) := by decide +kernel
theorem q56_12 : c_q 56 12 = some (.iload_n 1, 0, 0, 0) := by decide +kernel
theorem q56_13 : c_q 56 13 = some (.aload_n 0, 0, 0, 0) := by decide +kernel
theorem q56_14 : c_q 56 14 = some (.getfield 15, 6, 1, 0) := by decide +kernel
theorem q56_17 : c_q 56 17 = some (.iload_n 2, 0, 0, 0) := by decide +kernel
theorem q56_18 : c_q 56 18 = some (.iaload, 0, 0, 0) := by decide +kernel
theorem q56_19 : c_q 56 19 = some (.iadd, 0, 0, 0) := by decide +kernel
theorem q56_20 : c_q 56 20 = some (.istore_n 1, 0, 0, 0) := by decide +kernel
theorem q56_21 : c_q 56 21 = some (.iinc 2 (1), 0, 0, 0) := by decide +kernel
theorem q56_24 : c_q 56 24 = some (.goto (-20), 4, 0, 0) := by decide +kernel
theorem q56_27 : c_q 56 27 = some (.iload_n 1, 0, 0, 0) := by decide +kernel
theorem q56_28 : c_q 56 28 = some (.ireturn, 0, 0, 0) := by decide +kernel
theorem q57_0 : c_q 57 0 = some (.iconst 0, 0, 0, 0) := by decide +kernel
theorem q57_1 : c_q 57 1 = some (.istore_n 1, 0, 0, 0) := by decide +kernel
theorem q57_2 : c_q 57 2 = some (.iconst 0, 0, 0, 0) := by decide +kernel
theorem q57_3 : c_q 57 3 = some (.istore_n 2, 0, 0, 0) := by decide +kernel
theorem q57_4 : c_q 57 4 = some (.iload_n 2, 0, 0, 0) := by decide +kernel
theorem q57_5 : c_q 57 5 = some (.aload_n 0, 0, 0, 0) := by decide +kernel
theorem q57_6 : c_q 57 6 = some (.getfield 18, 6, 2, 0) := by decide +kernel
theorem q57_9 : c_q 57 9 = some (.if_icmp .ge (21), 30, 0, 0) := by decide +kernel
theorem q57_12 : c_q 57 12 = some (.aload_n 0, 0, 0, 0) := by decide +kernel
theorem q57_13 : c_q 57 13 = some (.getfield 15, 6, 1, 0) := by decide +kernel
theorem q57_16 : c_q 57 16 = some (.iload_n 2, 0, 0, 0) := by decide +kernel
theorem q57_17 : c_q 57 17 = some (.iaload, 0, 0, 0) := by decide +kernel
theorem q57_18 : c_q 57 18 = some (.ifCond .le (6), 24, 0, 0) := by decide +kernel
theorem q57_21 : c_q 57 21 = some (.iinc 1 (1), 0, 0, 0) := by decide +kernel
theorem q57_24 : c_q 57 24 = some (.iinc 2 (1), 0, 0, 0) := by decide +kernel
theorem q57_27 : c_q 57 27 = some (.goto (-23), 4, 0, 0) := by decide +kernel
theorem q57_30 : c_q 57 30 = some (.iload_n 1, 0, 0, 0) := by decide +kernel
theorem q57_31 : c_q 57 31 = some (.ireturn, 0, 0, 0) := by decide +kernel
theorem q58_0 : c_q 58 0 = some (.aload_n 0, 0, 0, 0) := by decide +kernel
theorem q58_1 : c_q 58 1 = some (.invokespecial 3, 0, 0, 6) := by decide +kernel
theorem q58_4 : c_q 58 4 = some (.aload_n 0, 0, 0, 0) := by decide +kernel
theorem q58_5 : c_q 58 5 = some (.bipush (60), 0, 0, 0) := by decide +kernel
theorem q58_7 : c_q 58 7 = some (.newarray .int, 0, 0, 0) := by decide +kernel
theorem q58_9 : c_q 58 9 = some (.putfield 9, 7, 0, 0) := by decide +kernel
theorem q58_12 : c_q 58 12 = some (.aload_n 0, 0, 0, 0) := by decide +kernel
theorem q58_13 : c_q 58 13 = some (.bipush (60), 0, 0, 0) := by decide +kernel
theorem q58_15 : c_q 58 15 = some (.newarray .int, 0, 0, 0) := by decide +kernel
theorem q58_17 : c_q 58 17 = some (.putfield 15, 7, 1, 0) := by decide +kernel
theorem q58_20 : c_q 58 20 = some (.return_, 0, 0, 0) := by decide +kernel
theorem q59_0 : c_q 59 0 = some (.aload_n 0, 0, 0, 0) := by decide +kernel
theorem q59_1 : c_q 59 1 = some (.iconst 0, 0, 0, 0) := by decide +kernel
theorem q59_2 : c_q 59 2 = some (.putfield 18, 7, 2, 0) := by decide +kernel
theorem q59_5 : c_q 59 5 = some (.iconst 0, 0, 0, 0) := by decide +kernel
theorem q59_6 : c_q 59 6 = some (.istore_n 3, 0, 0, 0) := by decide +kernel
theorem q59_7 : c_q 59 7 = some (.iload_n 3, 0, 0, 0) := by decide +kernel
theorem q59_8 : c_q 59 8 = some (.aload_n 1, 0, 0, 0) := by decide +kernel
theorem q59_9 : c_q 59 9 = some (.getfield 22, 6, 2, 1) := by decide +kernel
theorem q59_12 : c_q 59 12 = some (.if_icmp .ge (38), 50, 0, 0) := by decide +kernel
theorem q59_15 : c_q 59 15 = some (.aload_n 1, 0, 0, 0) := by decide +kernel
theorem q59_16 : c_q 59 16 = some (.getfield 27, 6, 1, 1) := by decide +kernel
theorem q59_19 : c_q 59 19 = some (.iload_n 3, 0, 0, 0) := by decide +kernel
theorem q59_20 : c_q 59 20 = some (.iaload, 0, 0, 0) := by decide +kernel
theorem q59_21 : c_q 59 21 = some (.ifCond .le (23), 44, 0, 0) := by decide +kernel
theorem q59_24 : c_q 59 24 = some (.aload_n 0, 0, 0, 0) := by decide +kernel
theorem q59_25 : c_q 59 25 = some (.getfield 9, 7, 0, 0) := by decide +kernel
theorem q59_28 : c_q 59 28 = some (.aload_n 0, 0, 0, 0) := by decide +kernel
theorem q59_29 : c_q 59 29 = some (.getfield 18, 7, 2, 0) := by decide +kernel
theorem q59_32 : c_q 59 32 = some (.iload_n 3, 0, 0, 0) := by decide +kernel
theorem q59_33 : c_q 59 33 = some (.iastore, 0, 0, 0) := by decide +kernel
theorem q59_34 : c_q 59 34 = some (.aload_n 0, 0, 0, 0) := by decide +kernel
theorem q59_35 : c_q 59 35 = some (.dup, 0, 0, 0) := by decide +kernel
theorem q59_36 : c_q 59 36 = some (.getfield 18, 7, 2, 0) := by decide +kernel
theorem q59_39 : c_q 59 39 = some (.iconst 1, 0, 0, 0) := by decide +kernel
theorem q59_40 : c_q 59 40 = some (.iadd, 0, 0, 0) := by decide +kernel
theorem q59_41 : c_q 59 41 = some (.putfield 18, 7, 2, 0) := by decide +kernel
theorem q59_44 : c_q 59 44 = some (.iinc 3 (1), 0, 0, 0) := by decide +kernel
theorem q59_47 : c_q 59 47 = some (.goto (-40), 7, 0, 0) := by decide +kernel
theorem q59_50 : c_q 59 50 = some (.iconst 0, 0, 0, 0) := by decide +kernel
theorem q59_51 : c_q 59 51 = some (.istore_n 3, 0, 0, 0) := by decide +kernel
theorem q59_52 : c_q 59 52 = some (.iload_n 3, 0, 0, 0) := by decide +kernel
theorem q59_53 : c_q 59 53 = some (.iload_n 2, 0, 0, 0) := by decide +kernel
theorem q59_54 : c_q 59 54 = some (.if_icmp .ge (13), 67, 0, 0) := by decide +kernel
theorem q59_57 : c_q 59 57 = some (.aload_n 0, 0, 0, 0) := by decide +kernel
theorem q59_58 : c_q 59 58 = some (.invokevirtual 29, 60, 0, 2) := by decide +kernel
theorem q59_61 : c_q 59 61 = some (.iinc 3 (1), 0, 0, 0) := by decide +kernel
theorem q59_64 : c_q 59 64 = some (.goto (-12), 52, 0, 0) := by decide +kernel
theorem q59_67 : c_q 59 67 = some (.return_, 0, 0, 0) := by decide +kernel
theorem q60_0 : c_q 60 0 = some (.aload_n 0, 0, 0, 0) := by decide +kernel
theorem q60_1 : c_q 60 1 = some (.iconst 0, 0, 0, 0) := by decide +kernel
theorem q60_2 : c_q 60 2 = some (.putfield 32, 7, 3, 0) := by decide +kernel
theorem q60_5 : c_q 60 5 = some (.iconst 0, 0, 0, 0) := by decide +kernel
theorem q60_6 : c_q 60 6 = some (.istore_n 1, 0, 0, 0) := by decide +kernel
theorem q60_7 : c_q 60 7 = some (.iload_n 1, 0, 0, 0) := by decide +kernel
theorem q60_8 : c_q 60 8 = some (.aload_n 0, 0, 0, 0) := by decide +kernel
theorem q60_9 : c_q 60 9 = some (.getfield 18, 7, 2, 0) := by decide +kernel
theorem q60_12 : c_q 60 12 = some (.if_icmp .ge (80), 92, 0, 0) := by decide +kernel
theorem q60_15 : c_q 60 15 = some (.iload_n 1, 0, 0, 0) := by decide +kernel
theorem q60_16 : c_q 60 16 = some (.aload_n 0, 0, 0, 0) := by decide +kernel
theorem q60_17 : c_q 60 17 = some (.getfield 18, 7, 2, 0) := by decide +kernel
theorem q60_20 : c_q 60 20 = some (.iconst 1, 0, 0, 0) := by decide +kernel
theorem q60_21 : c_q 60 21 = some (.isub, 0, 0, 0) := by decide +kernel
theorem q60_22 : c_q 60 22 = some (.if_icmp .ne (7), 29, 0, 0) := by decide +kernel
theorem q60_25 : c_q 60 25 = some (.iconst 1, 0, 0, 0) := by decide +kernel
theorem q60_26 : c_q 60 26 = some (.goto (4), 30, 0, 0) := by decide +kernel
theorem q60_29 : c_q 60 29 = some (.iconst 0, 0, 0, 0) := by decide +kernel
theorem q60_30 : c_q 60 30 = some (.istore_n 2, 0, 0, 0) := by decide +kernel
theorem q60_31 : c_q 60 31 = some (.iload_n 2, 0, 0, 0) := by decide +kernel
theorem q60_32 : c_q 60 32 = some (.ifCond .eq (8), 40, 0, 0) := by decide +kernel
theorem q60_35 : c_q 60 35 = some (.bipush (60), 0, 0, 0) := by decide +kernel
theorem q60_37 : c_q 60 37 = some (.goto (20), 57, 0, 0) := by decide +kernel
theorem q60_40 : c_q 60 40 = some (.aload_n 0, 0, 0, 0) := by decide +kernel
theorem q60_41 : c_q 60 41 = some (.getfield 9, 7, 0, 0) := by decide +kernel
theorem q60_44 : c_q 60 44 = some (.iload_n 1, 0, 0, 0) := by decide +kernel
theorem q60_45 : c_q 60 45 = some (.iconst 1, 0, 0, 0) := by decide +kernel
theorem q60_46 : c_q 60 46 = some (.iadd, 0, 0, 0) := by decide +kernel
theorem q60_47 : c_q 60 47 = some (.iaload, 0, 0, 0) := by decide +kernel
theorem q60_48 : c_q 60 48 = some (.aload_n 0, 0, 0, 0) := by decide +kernel
theorem q60_49 : c_q 60 49 = some (.getfield 9, 7, 0, 0) := by decide +kernel
theorem q60_52 : c_q 60 52 = some (.iload_n 1, 0, 0, 0) := by decide +kernel
theorem q60_53 : c_q 60 53 = some (.iaload, 0, 0, 0) := by decide +kernel
theorem q60_54 : c_q 60 54 = some (.isub, 0, 0, 0) := by decide +kernel
theorem q60_55 : c_q 60 55 = some (.iconst 1, 0, 0, 0) := by decide +kernel
theorem q60_56 : c_q 60 56 = some (.isub, 0, 0, 0) := by decide +kernel
theorem q60_57 : c_q 60 57 = some (.istore_n 3, 0, 0, 0) := by decide +kernel
theorem q60_58 : c_q 60 58 = some (.iload_n 1, 0, 0, 0) := by decide +kernel
theorem q60_59 : c_q 60 59 = some (.iconst 1, 0, 0, 0) := by decide +kernel
theorem q60_60 : c_q 60 60 = some (.iadd, 0, 0, 0) := by decide +kernel
theorem q60_61 : c_q 60 61 = some (.aload_n 0, 0, 0, 0) := by decide +kernel
theorem q60_62 : c_q 60 62 = some (.getfield 32, 7, 3, 0) := by decide +kernel
theorem q60_65 : c_q 60 65 = some (.isub, 0, 0, 0) := by decide +kernel
theorem q60_66 : c_q 60 66 = some (.istore 4, 0, 0, 0) := by decide +kernel
theorem q60_68 : c_q 60 68 = some (.aload_n 0, 0, 0, 0) := by decide +kernel
theorem q60_69 : c_q 60 69 = some (.aload_n 0, 0, 0, 0) := by decide +kernel
theorem q60_70 : c_q 60 70 = some (.getfield 9, 7, 0, 0) := by decide +kernel
theorem q60_73 : c_q 60 73 = some (.iload_n 1, 0, 0, 0) := by decide +kernel
theorem q60_74 : c_q 60 74 = some (.iaload, 0, 0, 0) := by decide +kernel
theorem q60_75 : c_q 60 75 = some (.iconst 1, 0, 0, 0) := by decide +kernel
theorem q60_76 : c_q 60 76 = some (.iadd, 0, 0, 0) := by decide +kernel
theorem q60_77 : c_q 60 77 = some (.iload 4, 0, 0, 0) := by decide +kernel
theorem q60_79 : c_q 60 79 = some (.iload_n 3, 0, 0, 0) := by decide +kernel
theorem q60_80 : c_q 60 80 = some (.invokestatic 35, 0, 0, 8) := by decide +kernel
theorem q60_83 : c_q 60 83 = some (.invokevirtual 41, 61, 2, 2) := by decide +kernel
theorem q60_86 : c_q 60 86 = some (.iinc 1 (1), 0, 0, 0) := by decide +kernel
theorem q60_89 : c_q 60 89 = some (.goto (-82), 7, 0, 0) := by decide +kernel
theorem q60_92 : c_q 60 92 = some (.iconst 0, 0, 0, 0) := by decide +kernel
theorem q60_93 : c_q 60 93 = some (.istore_n 1, 0, 0, 0) := by decide +kernel
theorem q60_94 : c_q 60 94 = some (.iload_n 1, 0, 0, 0) := by decide +kernel
theorem q60_95 : c_q 60 95 = some (.aload_n 0, 0, 0, 0) := by decide +kernel
theorem q60_96 : c_q 60 96 = some (.getfield 18, 7, 2, 0) := by decide +kernel
theorem q60_99 : c_q 60 99 = some (.if_icmp .ge (21), 120, 0, 0) := by decide +kernel
theorem q60_102 : c_q 60 102 = some (.aload_n 0, 0, 0, 0) := by decide +kernel
theorem q60_103 : c_q 60 103 = some (.getfield 9, 7, 0, 0) := by decide +kernel
theorem q60_106 : c_q 60 106 = some (.iload_n 1, 0, 0, 0) := by decide +kernel
theorem q60_107 : c_q 60 107 = some (.aload_n 0, 0, 0, 0) := by decide +kernel
theorem q60_108 : c_q 60 108 = some (.getfield 15, 7, 1, 0) := by decide +kernel
theorem q60_111 : c_q 60 111 = some (.iload_n 1, 0, 0, 0) := by decide +kernel
theorem q60_112 : c_q 60 112 = some (.iaload, 0, 0, 0) := by decide +kernel
theorem q60_113 : c_q 60 113 = some (.iastore, 0, 0, 0) := by decide +kernel
theorem q60_114 : c_q 60 114 = some (.iinc 1 (1), 0, 0, 0) := by decide +kernel
theorem q60_117 : c_q 60 117 = some (.goto (-23), 94, 0, 0) := by decide +kernel
theorem q60_120 : c_q 60 120 = some (.return_, 0, 0, 0) := by decide +kernel
theorem q61_0 : c_q 61 0 = some (.iconst 0, 0, 0, 0) := by decide +kernel
theorem q61_1 : c_q 61 1 = some (.istore_n 3, 0, 0, 0) := by decide +kernel
theorem q61_2 : c_q 61 2 = some (.iload_n 3, 0, 0, 0) := by decide +kernel
theorem q61_3 : c_q 61 3 = some (.iload_n 2, 0, 0, 0) := by decide +kernel
theorem q61_4 : c_q 61 4 = some (.if_icmp .ge (40), 44, 0, 0) := by decide +kernel
theorem q61_7 : c_q 61 7 = some (.aload_n 0, 0, 0, 0) := by decide +kernel
theorem q61_8 : c_q 61 8 = some (.getfield 32, 7, 3, 0) := by decide +kernel
theorem q61_11 : c_q 61 11 = some (.bipush (60), 0, 0, 0) := by decide +kernel
theorem q61_13 : c_q 61 13 = some (.if_icmp .ge (31), 44, 0, 0) := by decide +kernel
theorem q61_16 : c_q 61 16 = some (.aload_n 0, 0, 0, 0) := by decide +kernel
theorem q61_17 : c_q 61 17 = some (.getfield 15, 7, 1, 0) := by decide +kernel
theorem q61_20 : c_q 61 20 = some (.aload_n 0, 0, 0, 0) := by decide +kernel
theorem q61_21 : c_q 61 21 = some (.getfield 32, 7, 3, 0) := by decide +kernel
theorem q61_24 : c_q 61 24 = some (.iload_n 1, 0, 0, 0) := by decide +kernel
theorem q61_25 : c_q 61 25 = some (.iload_n 3, 0, 0, 0) := by decide +kernel
theorem q61_26 : c_q 61 26 = some (.iadd, 0, 0, 0) := by decide +kernel
theorem q61_27 : c_q 61 27 = some (.iastore, 0, 0, 0) := by decide +kernel
theorem q61_28 : c_q 61 28 = some (.aload_n 0, 0, 0, 0) := by decide +kernel
theorem q61_29 : c_q 61 29 = some (.dup, 0, 0, 0) := by decide +kernel
theorem q61_30 : c_q 61 30 = some (.getfield 32, 7, 3, 0) := by decide +kernel
theorem q61_33 : c_q 61 33 = some (.iconst 1, 0, 0, 0) := by decide +kernel
theorem q61_34 : c_q 61 34 = some (.iadd, 0, 0, 0) := by decide +kernel
theorem q61_35 : c_q 61 35 = some (.putfield 32, 7, 3, 0) := by decide +kernel
theorem q61_38 : c_q 61 38 = some (.iinc 3 (1), 0, 0, 0) := by decide +kernel
theorem q61_41 : c_q 61 41 = some (.goto (-39), 2, 0, 0) := by decide +kernel
theorem q61_44 : c_q 61 44 = some (.return_, 0, 0, 0) := by decide +kernel
theorem q62_0 : c_q 62 0 = some (.iload_n 1, 0, 0, 0) := by decide +kernel
theorem q62_1 : c_q 62 1 = some (.ifCond .eq (22), 23, 0, 0) := by decide +kernel
theorem q62_4 : c_q 62 4 = some (.aload_n 0, 0, 0, 0) := by decide +kernel
theorem q62_5 : c_q 62 5 = some (.getfield 9, 7, 0, 0) := by decide +kernel
theorem q62_8 : c_q 62 8 = some (.iload_n 1, 0, 0, 0) := by decide +kernel
theorem q62_9 : c_q 62 9 = some (.iaload, 0, 0, 0) := by decide +kernel
theorem q62_10 : c_q 62 10 = some (.aload_n 0, 0, 0, 0) := by decide +kernel
theorem q62_11 : c_q 62 11 = some (.getfield 9, 7, 0, 0) := by decide +kernel
theorem q62_14 : c_q 62 14 = some (.iload_n 1, 0, 0, 0) := by decide +kernel
theorem q62_15 : c_q 62 15 = some (.iconst 1, 0, 0, 0) := by decide +kernel
theorem q62_16 : c_q 62 16 = some (.isub, 0, 0, 0) := by decide +kernel
theorem q62_17 : c_q 62 17 = some (.iaload, 0, 0, 0) := by decide +kernel
theorem q62_18 : c_q 62 18 = some (.iconst 1, 0, 0, 0) := by decide +kernel
theorem q62_19 : c_q 62 19 = some (.iadd, 0, 0, 0) := by decide +kernel
theorem q62_20 : c_q 62 20 = some (.if_icmp .le (7), 27, 0, 0) := by decide +kernel
theorem q62_23 : c_q 62 23 = some (.iconst 1, 0, 0, 0) := by decide +kernel
theorem q62_24 : c_q 62 24 = some (.goto (4), 28, 0, 0) := by decide +kernel
theorem q62_27 : c_q 62 27 = some (.iconst 0, 0, 0, 0) := by decide +kernel
theorem q62_28 : c_q 62 28 = some (.ireturn, 0, 0, 0) := by decide +kernel
theorem q63_0 : c_q 63 0 = some (.iconst 0, 0, 0, 0) := by decide +kernel
theorem q63_1 : c_q 63 1 = some (.istore_n 1, 0, 0, 0) := by decide +kernel
theorem q63_2 : c_q 63 2 = some (.iconst 0, 0, 0, 0) := by decide +kernel
theorem q63_3 : c_q 63 3 = some (.istore_n 2, 0, 0, 0) := by decide +kernel
theorem q63_4 : c_q 63 4 = some (.iload_n 2, 0, 0, 0) := by decide +kernel
theorem q63_5 : c_q 63 5 = some (.aload_n 0, 0, 0, 0) := by decide +kernel
theorem q63_6 : c_q 63 6 = some (.getfield 18, 7, 2, 0) := by decide +kernel
theorem q63_9 : c_q 63 9 = some (.if_icmp .ge (20), 29, 0, 0) := by decide +kernel
theorem q63_12 : c_q 63 12 = some (.aload_n 0, 0, 0, 0) := by decide +kernel
theorem q63_13 : c_q 63 13 = some (.iload_n 2, 0, 0, 0) := by decide +kernel
theorem q63_14 : c_q 63 14 = some (.invokevirtual 45, 62, 1, 2) := by decide +kernel
theorem q63_17 : c_q 63 17 = some (.ifCond .eq (6), 23, 0, 0) := by decide +kernel
theorem q63_20 : c_q 63 20 = some (.iinc 1 (1), 0, 0, 0) := by decide +kernel
theorem q63_23 : c_q 63 23 = some (.iinc 2 (1), 0, 0, 0) := by decide +kernel
theorem q63_26 : c_q 63 26 = some (.goto (-22), 4, 0, 0) := by decide +kernel
theorem q63_29 : c_q 63 29 = some (.iload_n 1, 0, 0, 0) := by decide +kernel
theorem q63_30 : c_q 63 30 = some (.ireturn, 0, 0, 0) := by decide +kernel
theorem q64_0 : c_q 64 0 = some (.iconst 0, 0, 0, 0) := by decide +kernel
theorem q64_1 : c_q 64 1 = some (.istore_n 2, 0, 0, 0) := by decide +kernel
theorem q64_2 : c_q 64 2 = some (.iconst 0, 0, 0, 0) := by decide +kernel
theorem q64_3 : c_q 64 3 = some (.istore_n 3, 0, 0, 0) := by decide +kernel
theorem q64_4 : c_q 64 4 = some (.iload_n 3, 0, 0, 0) := by decide +kernel
theorem q64_5 : c_q 64 5 = some (.aload_n 0, 0, 0, 0) := by decide +kernel
theorem q64_6 : c_q 64 6 = some (.getfield 18, 7, 2, 0) := by decide +kernel
theorem q64_9 : c_q 64 9 = some (.if_icmp .ge (27), 36, 0, 0) := by decide +kernel
theorem q64_12 : c_q 64 12 = some (.aload_n 0, 0, 0, 0) := by decide +kernel
theorem q64_13 : c_q 64 13 = some (.iload_n 3, 0, 0, 0) := by decide +kernel
theorem q64_14 : c_q 64 14 = some (.invokevirtual 45, 62, 1, 2) := by decide +kernel
theorem q64_17 : c_q 64 17 = some (.ifCond .eq (13), 30, 0, 0) := by decide +kernel
theorem q64_20 : c_q 64 20 = some (.iload_n 2, 0, 0, 0) := by decide +kernel
theorem q64_21 : c_q 64 21 = some (.iload_n 1, 0, 0, 0) := by decide +kernel
theorem q64_22 : c_q 64 22 = some (.if_icmp .ne (5), 27, 0, 0) := by decide +kernel
theorem q64_25 : c_q 64 25 = some (.iload_n 3, 0, 0, 0) := by decide +kernel
theorem q64_26 : c_q 64 26 = some (.ireturn, 0, 0, 0) := by decide +kernel
theorem q64_27 : c_q 64 27 = some (.iinc 2 (1), 0, 0, 0) := by decide +kernel
theorem q64_30 : c_q 64 30 = some (.iinc 3 (1), 0, 0, 0) := by decide +kernel
theorem q64_33 : c_q 64 33 = some (.goto (-29), 4, 0, 0) := by decide +kernel
theorem q64_36 : c_q 64 36 = some (.iconst (-1), 0, 0, 0) := by decide +kernel
theorem q64_37 : c_q 64 37 = some (.ireturn, 0, 0, 0) := by decide +kernel
theorem q65_0 : c_q 65 0 = some (.iload_n 1, 0, 0, 0) := by decide +kernel
theorem q65_1 : c_q 65 1 = some (.iconst 1, 0, 0, 0) := by decide +kernel
theorem q65_2 : c_q 65 2 = some (.iadd, 0, 0, 0) := by decide +kernel
theorem q65_3 : c_q 65 3 = some (.istore_n 2, 0, 0, 0) := by decide +kernel
theorem q65_4 : c_q 65 4 = some (.iload_n 2, 0, 0, 0) := by decide +kernel
theorem q65_5 : c_q 65 5 = some (.aload_n 0, 0, 0, 0) := by decide +kernel
theorem q65_6 : c_q 65 6 = some (.getfield 18, 7, 2, 0) := by decide +kernel
theorem q65_9 : c_q 65 9 = some (.if_icmp .ge (17), 26, 0, 0) := by decide +kernel
theorem q65_12 : c_q 65 12 = some (.aload_n 0, 0, 0, 0) := by decide +kernel
theorem q65_13 : c_q 65 13 = some (.iload_n 2, 0, 0, 0) := by decide +kernel
theorem q65_14 : c_q 65 14 = some (.invokevirtual 45, 62, 1, 2) := by decide +kernel
theorem q65_17 : c_q 65 17 = some (.ifCond .ne (9), 26, 0, 0) := by decide +kernel
theorem q65_20 : c_q 65 20 = some (.iinc 2 (1), 0, 0, 0) := by decide +kernel
theorem q65_23 : c_q 65 23 = some (.goto (-19), 4, 0, 0) := by decide +kernel
theorem q65_26 : c_q 65 26 = some (.iload_n 2, 0, 0, 0) := by decide +kernel
theorem q65_27 : c_q 65 27 = some (.iload_n 1, 0, 0, 0) := by decide +kernel
theorem q65_28 : c_q 65 28 = some (.isub, 0, 0, 0) := by decide +kernel
theorem q65_29 : c_q 65 29 = some (.ireturn, 0, 0, 0) := by decide +kernel
theorem q66_0 : c_q 66 0 = some (.aload_n 0, 0, 0, 0) := by decide +kernel
theorem q66_1 : c_q 66 1 = some (.invokespecial 1, 0, 0, 6) := by decide +kernel
theorem q66_4 : c_q 66 4 = some (.aload_n 0, 0, 0, 0) := by decide +kernel
theorem q66_5 : c_q 66 5 = some (.iconst 3, 0, 0, 0) := by decide +kernel
theorem q66_6 : c_q 66 6 = some (.newarray .int, 0, 0, 0) := by decide +kernel
theorem q66_8 : c_q 66 8 = some (.putfield 7, 8, 0, 0) := by decide +kernel
theorem q66_11 : c_q 66 11 = some (.aload_n 0, 0, 0, 0) := by decide +kernel
theorem q66_12 : c_q 66 12 = some (.iconst 3, 0, 0, 0) := by decide +kernel
theorem q66_13 : c_q 66 13 = some (.newarray .int, 0, 0, 0) := by decide +kernel
theorem q66_15 : c_q 66 15 = some (.putfield 13, 8, 1, 0) := by decide +kernel
theorem q66_18 : c_q 66 18 = some (.return_, 0, 0, 0) := by decide +kernel
theorem q67_0 : c_q 67 0 = some (.aload_n 0, 0, 0, 0) := by decide +kernel
theorem q67_1 : c_q 67 1 = some (.invokespecial 3, 0, 0, 6) := by decide +kernel
theorem q67_4 : c_q 67 4 = some (.aload_n 0, 0, 0, 0) := by decide +kernel
theorem q67_5 : c_q 67 5 = some (.bipush (6), 0, 0, 0) := by decide +kernel
theorem q67_7 : c_q 67 7 = some (.newarray .int, 0, 0, 0) := by decide +kernel
theorem q67_9 : c_q 67 9 = some (.putfield 9, 9, 0, 0) := by decide +kernel
theorem q67_12 : c_q 67 12 = some (.return_, 0, 0, 0) := by decide +kernel
theorem q68_0 : c_q 68 0 = some (.ldc 7, 69069, 0, 0) := by decide +kernel
theorem q68_2 : c_q 68 2 = some (.iload_n 1, 0, 0, 0) := by decide +kernel
theorem q68_3 : c_q 68 3 = some (.aload_n 0, 0, 0, 0) := by decide +kernel
theorem q68_4 : c_q 68 4 = some (.arraylength, 0, 0, 0) := by decide +kernel
theorem q68_5 : c_q 68 5 = some (.if_icmp .ge (9), 14, 0, 0) := by decide +kernel
theorem q68_8 : c_q 68 8 = some (.aload_n 0, 0, 0, 0) := by decide +kernel
theorem q68_9 : c_q 68 9 = some (.iload_n 1, 0, 0, 0) := by decide +kernel
theorem q68_10 : c_q 68 10 = some (.iaload, 0, 0, 0) := by decide +kernel
theorem q68_11 : c_q 68 11 = some (.goto (4), 15, 0, 0) := by decide +kernel
theorem q68_14 : c_q 68 14 = some (.iconst 0, 0, 0, 0) := by decide +kernel
theorem q68_15 : c_q 68 15 = some (.sipush (1009), 0, 0, 0) := by decide +kernel
theorem q68_18 : c_q 68 18 = some (.iload_n 1, 0, 0, 0) := by decide +kernel
theorem q68_19 : c_q 68 19 = some (.imul, 0, 0, 0) := by decide +kernel
theorem q68_20 : c_q 68 20 = some (.iadd, 0, 0, 0) := by decide +kernel
theorem q68_21 : c_q 68 21 = some (.imul, 0, 0, 0) := by decide +kernel
theorem q68_22 : c_q 68 22 = some (.sipush (12345), 0, 0, 0) := by decide +kernel
theorem q68_25 : c_q 68 25 = some (.iadd, 0, 0, 0) := by decide +kernel
theorem q68_26 : c_q 68 26 = some (.istore_n 2, 0, 0, 0) := by decide +kernel
theorem q68_27 : c_q 68 27 = some (.iload_n 2, 0, 0, 0) := by decide +kernel
theorem q68_28 : c_q 68 28 = some (.iload_n 2, 0, 0, 0) := by decide +kernel
theorem q68_29 : c_q 68 29 = some (.bipush (13), 0, 0, 0) := by decide +kernel
theorem q68_31 : c_q 68 31 = some (.iushr, 0, 0, 0) := by decide +kernel
theorem q68_32 : c_q 68 32 = some (.ixor, 0, 0, 0) := by decide +kernel
theorem q68_33 : c_q 68 33 = some (.ldc 8, 1103515245, 0, 0) := by decide +kernel
theorem q68_35 : c_q 68 35 = some (.imul, 0, 0, 0) := by decide +kernel
theorem q68_36 : c_q 68 36 = some (.istore_n 2, 0, 0, 0) := by decide +kernel
theorem q68_37 : c_q 68 37 = some (.iload_n 2, 0, 0, 0) := by decide +kernel
theorem q68_38 : c_q 68 38 = some (.iload_n 2, 0, 0, 0) := by decide +kernel
theorem q68_39 : c_q 68 39 = some (.bipush (16), 0, 0, 0) := by decide +kernel
theorem q68_41 : c_q 68 41 = some (.iushr, 0, 0, 0) := by decide +kernel
theorem q68_42 : c_q 68 42 = some (.ixor, 0, 0, 0) := by decide +kernel
theorem q68_43 : c_q 68 43 = some (.ireturn, 0, 0, 0) := by decide +kernel
theorem q69_0 : c_q 69 0 = some (.aload_n 0, 0, 0, 0) := by decide +kernel
theorem q69_1 : c_q 69 1 = some (.iload_n 1, 0, 0, 0) := by decide +kernel
theorem q69_2 : c_q 69 2 = some (.iload_n 2, 0, 0, 0) := by decide +kernel
theorem q69_3 : c_q 69 3 = some (.iload_n 3, 0, 0, 0) := by decide +kernel
theorem q69_4 : c_q 69 4 = some (.invokevirtual 9, 1, 3, 2) := by decide +kernel
theorem q69_7 : c_q 69 7 = some (.ireturn, 0, 0, 0) := by decide +kernel
theorem q69_10 : c_q 69 10 = some (.ldc 17, 4294067295, 0, 0) := by decide +kernel
theorem q69_12 : c_q 69 12 = some (.ireturn, 0, 0, 0) := by decide +kernel
theorem q70_0 : c_q 70 0 = some (.aload_n 0, 0, 0, 0) := by decide +kernel
theorem q70_1 : c_q 70 1 = some (.iload_n 1, 0, 0, 0) := by decide +kernel
theorem q70_2 : c_q 70 2 = some (.iload_n 2, 0, 0, 0) := by decide +kernel
theorem q70_3 : c_q 70 3 = some (.invokevirtual 18, 2, 2, 2) := by decide +kernel
theorem q70_6 : c_q 70 6 = some (.ireturn, 0, 0, 0) := by decide +kernel
theorem q70_8 : c_q 70 8 = some (.ldc 17, 4294067295, 0, 0) := by decide +kernel
theorem q70_10 : c_q 70 10 = some (.ireturn, 0, 0, 0) := by decide +kernel
theorem q70_12 : c_q 70 12 = some (.ldc 24, 4294067294, 0, 0) := by decide +kernel
theorem q70_14 : c_q 70 14 = some (.ireturn, 0, 0, 0) := by decide +kernel
theorem q71_0 : c_q 71 0 = some (.aload_n 0, 0, 0, 0) := by decide +kernel
theorem q71_1 : c_q 71 1 = some (.iload_n 1, 0, 0, 0) := by decide +kernel
theorem q71_2 : c_q 71 2 = some (.iload_n 2, 0, 0, 0) := by decide +kernel
theorem q71_3 : c_q 71 3 = some (.invokevirtual 25, 3, 2, 2) := by decide +kernel
theorem q71_6 : c_q 71 6 = some (.ireturn, 0, 0, 0) := by decide +kernel
theorem q71_8 : c_q 71 8 = some (.ldc 17, 4294067295, 0, 0) := by decide +kernel
theorem q71_10 : c_q 71 10 = some (.ireturn, 0, 0, 0) := by decide +kernel
theorem q71_12 : c_q 71 12 = some (.ldc 24, 4294067294, 0, 0) := by decide +kernel
theorem q71_14 : c_q 71 14 = some (.ireturn, 0, 0, 0) := by decide +kernel
theorem q72_0 : c_q 72 0 = some (.aload_n 0, 0, 0, 0) := by decide +kernel
theorem q72_1 : c_q 72 1 = some (.iload_n 1, 0, 0, 0) := by decide +kernel
theorem q72_2 : c_q 72 2 = some (.invokevirtual 28, 4, 1, 2) := by decide +kernel
theorem q72_5 : c_q 72 5 = some (.ireturn, 0, 0, 0) := by decide +kernel
theorem q72_7 : c_q 72 7 = some (.ldc 17, 4294067295, 0, 0) := by decide +kernel
theorem q72_9 : c_q 72 9 = some (.ireturn, 0, 0, 0) := by decide +kernel
theorem q73_0 : c_q 73 0 = some (.aload_n 0, 0, 0, 0) := by decide +kernel
theorem q73_1 : c_q 73 1 = some (.iload_n 1, 0, 0, 0) := by decide +kernel
theorem q73_2 : c_q 73 2 = some (.invokevirtual 32, 6, 1, 2) := by decide +kernel
theorem q73_5 : c_q 73 5 = some (.ireturn, 0, 0, 0) := by decide +kernel
theorem q73_7 : c_q 73 7 = some (.ldc 17, 4294067295, 0, 0) := by decide +kernel
theorem q73_9 : c_q 73 9 = some (.ireturn, 0, 0, 0) := by decide +kernel
theorem q73_11 : c_q 73 11 = some (.ldc 24, 4294067294, 0, 0) := by decide +kernel
theorem q73_13 : c_q 73 13 = some (.ireturn, 0, 0, 0) := by decide +kernel
theorem q74_0 : c_q 74 0 = some (.aload_n 0, 0, 0, 0) := by decide +kernel
theorem q74_1 : c_q 74 1 = some (.iload_n 1, 0, 0, 0) := by decide +kernel
theorem q74_2 : c_q 74 2 = some (.invokevirtual 37, 7, 1, 2) := by decide +kernel
theorem q74_5 : c_q 74 5 = some (.ireturn, 0, 0, 0) := by decide +kernel
theorem q74_7 : c_q 74 7 = some (.ldc 17, 4294067295, 0, 0) := by decide +kernel
theorem q74_9 : c_q 74 9 = some (.ireturn, 0, 0, 0) := by decide +kernel
theorem q74_11 : c_q 74 11 = some (.ldc 24, 4294067294, 0, 0) := by decide +kernel
theorem q74_13 : c_q 74 13 = some (.ireturn, 0, 0, 0) := by decide +kernel
theorem q75_0 : c_q 75 0 = some (.aload_n 0, 0, 0, 0) := by decide +kernel
theorem q75_1 : c_q 75 1 = some (.iload_n 1, 0, 0, 0) := by decide +kernel
theorem q75_2 : c_q 75 2 = some (.iload_n 2, 0, 0, 0) := by decide +kernel
theorem q75_3 : c_q 75 3 = some (.invokevirtual 40, 8, 2, 2) := by decide +kernel
theorem q75_6 : c_q 75 6 = some (.ireturn, 0, 0, 0) := by decide +kernel
theorem q75_8 : c_q 75 8 = some (.ldc 17, 4294067295, 0, 0) := by decide +kernel
theorem q75_10 : c_q 75 10 = some (.ireturn, 0, 0, 0) := by decide +kernel
theorem q76_0 : c_q 76 0 = some (.aload_n 0, 0, 0, 0) := by decide +kernel
theorem q76_1 : c_q 76 1 = some (.iload_n 1, 0, 0, 0) := by decide +kernel
theorem q76_2 : c_q 76 2 = some (.iload_n 2, 0, 0, 0) := by decide +kernel
theorem q76_3 : c_q 76 3 = some (.invokevirtual 43, 10, 2, 2) := by decide +kernel
theorem q76_6 : c_q 76 6 = some (.ireturn, 0, 0, 0) := by decide +kernel
theorem q76_8 : c_q 76 8 = some (.ldc 17, 4294067295, 0, 0) := by decide +kernel
theorem q76_10 : c_q 76 10 = some (.ireturn, 0, 0, 0) := by decide +kernel
theorem q76_12 : c_q 76 12 = some (.ldc 24, 4294067294, 0, 0) := by decide +kernel
theorem q76_14 : c_q 76 14 = some (.ireturn, 0, 0, 0) := by decide +kernel
theorem q77_0 : c_q 77 0 = some (.aload_n 0, 0, 0, 0) := by decide +kernel
theorem q77_1 : c_q 77 1 = some (.invokevirtual 48, 11, 0, 2) := by decide +kernel
theorem q77_4 : c_q 77 4 = some (.ireturn, 0, 0, 0) := by decide +kernel
theorem q77_6 : c_q 77 6 = some (.ldc 17, 4294067295, 0, 0) := by decide +kernel
theorem q77_8 : c_q 77 8 = some (.ireturn, 0, 0, 0) := by decide +kernel
theorem q78_0 : c_q 78 0 = some (.aload_n 0, 0, 0, 0) := by decide +kernel
theorem q78_1 : c_q 78 1 = some (.iload_n 1, 0, 0, 0) := by decide +kernel
theorem q78_2 : c_q 78 2 = some (.invokestatic 52, 68, 2, 0) := by decide +kernel
theorem q78_5 : c_q 78 5 = some (.ldc 58, 2147483647, 0, 0) := by decide +kernel
theorem q78_7 : c_q 78 7 = some (.iand, 0, 0, 0) := by decide +kernel
theorem q78_8 : c_q 78 8 = some (.iload_n 2, 0, 0, 0) := by decide +kernel
theorem q78_9 : c_q 78 9 = some (.irem, 0, 0, 0) := by decide +kernel
theorem q78_10 : c_q 78 10 = some (.ireturn, 0, 0, 0) := by decide +kernel
theorem q79_0 : c_q 79 0 = some (.fload_n 0, 0, 0, 0) := by decide +kernel
theorem q79_1 : c_q 79 1 = some (.invokestatic 59, 80, 1, 0) := by decide +kernel
theorem q79_4 : c_q 79 4 = some (.ifCond .ne (8), 12, 0, 0) := by decide +kernel
theorem q79_7 : c_q 79 7 = some (.fload_n 0, 0, 0, 0) := by decide +kernel
theorem q79_8 : c_q 79 8 = some (.invokestatic 74, 0, 0, 10) := by decide +kernel
theorem q79_11 : c_q 79 11 = some (.ireturn, 0, 0, 0) := by decide +kernel
theorem q79_12 : c_q 79 12 = some (.ldc 77, 2143289344, 0, 0) := by decide +kernel
theorem q79_14 : c_q 79 14 = some (.ireturn, 0, 0, 0) := by decide +kernel
theorem q80_0 : c_q 80 0 = some (.fload_n 0, 0, 0, 0) := by decide +kernel
theorem q80_1 : c_q 80 1 = some (.fload_n 0, 0, 0, 0) := by decide +kernel
theorem q80_2 : c_q 80 2 = some (.fcmp .l, 0, 0, 0) := by decide +kernel
theorem q80_3 : c_q 80 3 = some (.ifCond .eq (7), 10, 0, 0) := by decide +kernel
theorem q80_6 : c_q 80 6 = some (.iconst 1, 0, 0, 0) := by decide +kernel
theorem q80_7 : c_q 80 7 = some (.goto (4), 11, 0, 0) := by decide +kernel
theorem q80_10 : c_q 80 10 = some (.iconst 0, 0, 0, 0) := by decide +kernel
theorem q80_11 : c_q 80 11 = some (.ireturn, 0, 0, 0) := by decide +kernel
theorem q81_0 : c_q 81 0 = some (.iload_n 0, 0, 0, 0) := by decide +kernel
theorem q81_1 : c_q 81 1 = some (.iload_n 1, 0, 0, 0) := by decide +kernel
theorem q81_2 : c_q 81 2 = some (.irem, 0, 0, 0) := by decide +kernel
theorem q81_3 : c_q 81 3 = some (.istore_n 2, 0, 0, 0) := by decide +kernel
theorem q81_4 : c_q 81 4 = some (.iload_n 0, 0, 0, 0) := by decide +kernel
theorem q81_5 : c_q 81 5 = some (.iload_n 1, 0, 0, 0) := by decide +kernel
theorem q81_6 : c_q 81 6 = some (.ixor, 0, 0, 0) := by decide +kernel
theorem q81_7 : c_q 81 7 = some (.ifCond .ge (11), 18, 0, 0) := by decide +kernel
theorem q81_10 : c_q 81 10 = some (.iload_n 2, 0, 0, 0) := by decide +kernel
theorem q81_11 : c_q 81 11 = some (.ifCond .eq (7), 18, 0, 0) := by decide +kernel
theorem q81_14 : c_q 81 14 = some (.iload_n 2, 0, 0, 0) := by decide +kernel
theorem q81_15 : c_q 81 15 = some (.iload_n 1, 0, 0, 0) := by decide +kernel
theorem q81_16 : c_q 81 16 = some (.iadd, 0, 0, 0) := by decide +kernel
theorem q81_17 : c_q 81 17 = some (.ireturn, 0, 0, 0) := by decide +kernel
theorem q81_18 : c_q 81 18 = some (.iload_n 2, 0, 0, 0) := by decide +kernel
theorem q81_19 : c_q 81 19 = some (.ireturn, 0, 0, 0) := by decide +kernel
theorem q82_0 : c_q 82 0 = some (.iconst 0, 0, 0, 0) := by decide +kernel
theorem q82_1 : c_q 82 1 = some (.istore_n 2, 0, 0, 0) := by decide +kernel
theorem q82_2 : c_q 82 2 = some (.aload_n 0, 0, 0, 0) := by decide +kernel
theorem q82_3 : c_q 82 3 = some (.arraylength, 0, 0, 0) := by decide +kernel
theorem q82_4 : c_q 82 4 = some (.istore_n 3, 0, 0, 0) := by decide +kernel
theorem q82_5 : c_q 82 5 = some (.iload_n 2, 0, 0, 0) := by decide +kernel
theorem q82_6 : c_q 82 6 = some (.iload_n 3, 0, 0, 0) := by decide +kernel
theorem q82_7 : c_q 82 7 = some (.if_icmp .ge (13), 20, 0, 0) := by decide +kernel
theorem q82_10 : c_q 82 10 = some (.aload_n 0, 0, 0, 0) := by decide +kernel
theorem q82_11 : c_q 82 11 = some (.iload_n 2, 0, 0, 0) := by decide +kernel
theorem q82_12 : c_q 82 12 = some (.iload_n 1, 0, 0, 0) := by decide +kernel
theorem q82_13 : c_q 82 13 = some (.iastore, 0, 0, 0) := by decide +kernel
theorem q82_14 : c_q 82 14 = some (.iinc 2 (1), 0, 0, 0) := by decide +kernel
theorem q82_17 : c_q 82 17 = some (.goto (-12), 5, 0, 0) := by decide +kernel
theorem q82_20 : c_q 82 20 = some (.return_, 0, 0, 0) := by decide +kernel
theorem q83_0 : c_q 83 0 = some (.new 10, 10, 0, 0) := by decide +kernel
theorem q83_3 : c_q 83 3 = some (.dup, 0, 0, 0) := by decide +kernel
theorem q83_4 : c_q 83 4 = some (.invokespecial 59, 0, 0, 4) := by decide +kernel
theorem q83_7 : c_q 83 7 = some (.astore_n 1, 0, 0, 0) := by decide +kernel
theorem q83_8 : c_q 83 8 = some (.iconst 1, 0, 0, 0) := by decide +kernel
theorem q83_9 : c_q 83 9 = some (.aload_n 0, 0, 0, 0) := by decide +kernel
theorem q83_10 : c_q 83 10 = some (.iconst 0, 0, 0, 0) := by decide +kernel
theorem q83_11 : c_q 83 11 = some (.bipush (24), 0, 0, 0) := by decide +kernel
theorem q83_13 : c_q 83 13 = some (.invokestatic 60, 78, 3, 0) := by decide +kernel
theorem q83_16 : c_q 83 16 = some (.iadd, 0, 0, 0) := by decide +kernel
theorem q83_17 : c_q 83 17 = some (.istore_n 2, 0, 0, 0) := by decide +kernel
theorem q83_18 : c_q 83 18 = some (.aload_n 0, 0, 0, 0) := by decide +kernel
theorem q83_19 : c_q 83 19 = some (.iconst 1, 0, 0, 0) := by decide +kernel
theorem q83_20 : c_q 83 20 = some (.iconst 2, 0, 0, 0) := by decide +kernel
theorem q83_21 : c_q 83 21 = some (.invokestatic 60, 78, 3, 0) := by decide +kernel
theorem q83_24 : c_q 83 24 = some (.ifCond .ne (7), 31, 0, 0) := by decide +kernel
theorem q83_27 : c_q 83 27 = some (.iconst 1, 0, 0, 0) := by decide +kernel
theorem q83_28 : c_q 83 28 = some (.goto (4), 32, 0, 0) := by decide +kernel
theorem q83_31 : c_q 83 31 = some (.iconst 0, 0, 0, 0) := by decide +kernel
theorem q83_32 : c_q 83 32 = some (.istore_n 3, 0, 0, 0) := by decide +kernel
theorem q83_33 : c_q 83 33 = some (.aload_n 1, 0, 0, 0) := by decide +kernel
theorem q83_34 : c_q 83 34 = some (.bipush (61), 0, 0, 0) := by decide +kernel
theorem q83_36 : c_q 83 36 = some (.iconst 1, 0, 0, 0) := by decide +kernel
theorem q83_37 : c_q 83 37 = some (.iconst 0, 0, 0, 0) := by decide +kernel
theorem q83_38 : c_q 83 38 = some (.invokestatic 64, 69, 4, 0) := by decide +kernel
theorem q83_41 : c_q 83 41 = some (.ldc 17, 4294067295, 0, 0) := by decide +kernel
theorem q83_43 : c_q 83 43 = some (.if_icmp .ne (61), 104, 0, 0) := by decide +kernel
theorem q83_46 : c_q 83 46 = some (.aload_n 1, 0, 0, 0) := by decide +kernel
theorem q83_47 : c_q 83 47 = some (.iconst 1, 0, 0, 0) := by decide +kernel
theorem q83_48 : c_q 83 48 = some (.iconst 5, 0, 0, 0) := by decide +kernel
theorem q83_49 : c_q 83 49 = some (.iconst 0, 0, 0, 0) := by decide +kernel
theorem q83_50 : c_q 83 50 = some (.invokestatic 64, 69, 4, 0) := by decide +kernel
theorem q83_53 : c_q 83 53 = some (.ldc 17, 4294067295, 0, 0) := by decide +kernel
theorem q83_55 : c_q 83 55 = some (.if_icmp .ne (49), 104, 0, 0) := by decide +kernel
theorem q83_58 : c_q 83 58 = some (.aload_n 1, 0, 0, 0) := by decide +kernel
theorem q83_59 : c_q 83 59 = some (.iload_n 2, 0, 0, 0) := by decide +kernel
theorem q83_60 : c_q 83 60 = some (.iconst 1, 0, 0, 0) := by decide +kernel
theorem q83_61 : c_q 83 61 = some (.iload_n 3, 0, 0, 0) := by decide +kernel
theorem q83_62 : c_q 83 62 = some (.invokestatic 64, 69, 4, 0) := by decide +kernel
theorem q83_65 : c_q 83 65 = some (.bipush (10), 0, 0, 0) := by decide +kernel
theorem q83_67 : c_q 83 67 = some (.if_icmp .ne (37), 104, 0, 0) := by decide +kernel
theorem q83_70 : c_q 83 70 = some (.aload_n 1, 0, 0, 0) := by decide +kernel
theorem q83_71 : c_q 83 71 = some (.iload_n 2, 0, 0, 0) := by decide +kernel
theorem q83_72 : c_q 83 72 = some (.invokestatic 67, 72, 2, 0) := by decide +kernel
theorem q83_75 : c_q 83 75 = some (.ldc 17, 4294067295, 0, 0) := by decide +kernel
theorem q83_77 : c_q 83 77 = some (.if_icmp .ne (27), 104, 0, 0) := by decide +kernel
theorem q83_80 : c_q 83 80 = some (.aload_n 1, 0, 0, 0) := by decide +kernel
theorem q83_81 : c_q 83 81 = some (.invokestatic 70, 77, 1, 0) := by decide +kernel
theorem q83_84 : c_q 83 84 = some (.ldc 17, 4294067295, 0, 0) := by decide +kernel
theorem q83_86 : c_q 83 86 = some (.if_icmp .ne (18), 104, 0, 0) := by decide +kernel
theorem q83_89 : c_q 83 89 = some (.aload_n 1, 0, 0, 0) := by decide +kernel
theorem q83_90 : c_q 83 90 = some (.iconst 1, 0, 0, 0) := by decide +kernel
theorem q83_91 : c_q 83 91 = some (.iconst 0, 0, 0, 0) := by decide +kernel
theorem q83_92 : c_q 83 92 = some (.invokestatic 73, 76, 3, 0) := by decide +kernel
theorem q83_95 : c_q 83 95 = some (.ldc 17, 4294067295, 0, 0) := by decide +kernel
theorem q83_97 : c_q 83 97 = some (.if_icmp .ne (7), 104, 0, 0) := by decide +kernel
theorem q83_100 : c_q 83 100 = some (.iconst 1, 0, 0, 0) := by decide +kernel
theorem q83_101 : c_q 83 101 = some (.goto (4), 105, 0, 0) := by decide +kernel
theorem q83_104 : c_q 83 104 = some (.iconst 0, 0, 0, 0) := by decide +kernel
theorem q83_105 : c_q 83 105 = some (.istore 4, 0, 0, 0) := by decide +kernel
theorem q83_107 : c_q 83 107 = some (.iload_n 2, 0, 0, 0) := by decide +kernel
theorem q83_108 : c_q 83 108 = some (.newarray .int, 0, 0, 0) := by decide +kernel
theorem q83_110 : c_q 83 110 = some (.astore 5, 0, 0, 0) := by decide +kernel
theorem q83_112 : c_q 83 112 = some (.iload_n 2, 0, 0, 0) := by decide +kernel
theorem q83_113 : c_q 83 113 = some (.newarray .int, 0, 0, 0) := by decide +kernel
theorem q83_115 : c_q 83 115 = some (.astore 6, 0, 0, 0) := by decide +kernel
theorem q83_117 : c_q 83 117 = some (.iconst 0, 0, 0, 0) := by decide +kernel
theorem q83_118 : c_q 83 118 = some (.istore 7, 0, 0, 0) := by decide +kernel
theorem q83_120 : c_q 83 120 = some (.iload 7, 0, 0, 0) := by decide +kernel
theorem q83_122 : c_q 83 122 = some (.iload_n 2, 0, 0, 0) := by decide +kernel
theorem q83_123 : c_q 83 123 = some (.if_icmp .ge (158), 281, 0, 0) := by decide +kernel
theorem q83_126 : c_q 83 126 = some (.aload 5, 0, 0, 0) := by decide +kernel
theorem q83_128 : c_q 83 128 = some (.iload 7, 0, 0, 0) := by decide +kernel
theorem q83_130 : c_q 83 130 = some (.aload_n 0, 0, 0, 0) := by decide +kernel
theorem q83_131 : c_q 83 131 = some (.iconst 2, 0, 0, 0) := by decide +kernel
theorem q83_132 : c_q 83 132 = some (.iconst 3, 0, 0, 0) := by decide +kernel
theorem q83_133 : c_q 83 133 = some (.invokestatic 60, 78, 3, 0) := by decide +kernel
theorem q83_136 : c_q 83 136 = some (.ifCond .ne (18), 154, 0, 0) := by decide +kernel
theorem q83_139 : c_q 83 139 = some (.iconst 1, 0, 0, 0) := by decide +kernel
theorem q83_140 : c_q 83 140 = some (.aload_n 0, 0, 0, 0) := by decide +kernel
theorem q83_141 : c_q 83 141 = some (.bipush (10), 0, 0, 0) := by decide +kernel
theorem q83_143 : c_q 83 143 = some (.iload 7, 0, 0, 0) := by decide +kernel
theorem q83_145 : c_q 83 145 = some (.iadd, 0, 0, 0) := by decide +kernel
theorem q83_146 : c_q 83 146 = some (.iconst 4, 0, 0, 0) := by decide +kernel
theorem q83_147 : c_q 83 147 = some (.invokestatic 60, 78, 3, 0) := by decide +kernel
theorem q83_150 : c_q 83 150 = some (.iadd, 0, 0, 0) := by decide +kernel
theorem q83_151 : c_q 83 151 = some (.goto (4), 155, 0, 0) := by decide +kernel
theorem q83_154 : c_q 83 154 = some (.iconst 1, 0, 0, 0) := by decide +kernel
theorem q83_155 : c_q 83 155 = some (.iastore, 0, 0, 0) := by decide +kernel
theorem q83_156 : c_q 83 156 = some (.aload_n 0, 0, 0, 0) := by decide +kernel
theorem q83_157 : c_q 83 157 = some (.bipush (40), 0, 0, 0) := by decide +kernel
theorem q83_159 : c_q 83 159 = some (.iload 7, 0, 0, 0) := by decide +kernel
theorem q83_161 : c_q 83 161 = some (.iadd, 0, 0, 0) := by decide +kernel
theorem q83_162 : c_q 83 162 = some (.iconst 4, 0, 0, 0) := by decide +kernel
theorem q83_163 : c_q 83 163 = some (.invokestatic 60, 78, 3, 0) := by decide +kernel
theorem q83_166 : c_q 83 166 = some (.istore 8, 0, 0, 0) := by decide +kernel
theorem q83_168 : c_q 83 168 = some (.aload 6, 0, 0, 0) := by decide +kernel
theorem q83_170 : c_q 83 170 = some (.iload 7, 0, 0, 0) := by decide +kernel
theorem q83_172 : c_q 83 172 = some (.iload 8, 0, 0, 0) := by decide +kernel
theorem q83_174 : c_q 83 174 = some (.aload 5, 0, 0, 0) := by decide +kernel
theorem q83_176 : c_q 83 176 = some (.iload 7, 0, 0, 0) := by decide +kernel
theorem q83_178 : c_q 83 178 = some (.iaload, 0, 0, 0) := by decide +kernel
theorem q83_179 : c_q 83 179 = some (.if_icmp .le (7), 186, 0, 0) := by decide +kernel
theorem q83_182 : c_q 83 182 = some (.iconst 0, 0, 0, 0) := by decide +kernel
theorem q83_183 : c_q 83 183 = some (.goto (7), 190, 0, 0) := by decide +kernel
theorem q83_186 : c_q 83 186 = some (.iload 8, 0, 0, 0) := by decide +kernel
theorem q83_188 : c_q 83 188 = some (.iconst 3, 0, 0, 0) := by decide +kernel
theorem q83_189 : c_q 83 189 = some (.irem, 0, 0, 0) := by decide +kernel
theorem q83_190 : c_q 83 190 = some (.iastore, 0, 0, 0) := by decide +kernel
theorem q83_191 : c_q 83 191 = some (.aload 6, 0, 0, 0) := by decide +kernel
theorem q83_193 : c_q 83 193 = some (.iload 7, 0, 0, 0) := by decide +kernel
theorem q83_195 : c_q 83 195 = some (.aload 6, 0, 0, 0) := by decide +kernel
theorem q83_197 : c_q 83 197 = some (.iload 7, 0, 0, 0) := by decide +kernel
theorem q83_199 : c_q 83 199 = some (.iaload, 0, 0, 0) := by decide +kernel
theorem q83_200 : c_q 83 200 = some (.aload 5, 0, 0, 0) := by decide +kernel
theorem q83_202 : c_q 83 202 = some (.iload 7, 0, 0, 0) := by decide +kernel
theorem q83_204 : c_q 83 204 = some (.iaload, 0, 0, 0) := by decide +kernel
theorem q83_205 : c_q 83 205 = some (.if_icmp .le (7), 212, 0, 0) := by decide +kernel
theorem q83_208 : c_q 83 208 = some (.iconst 0, 0, 0, 0) := by decide +kernel
theorem q83_209 : c_q 83 209 = some (.goto (8), 217, 0, 0) := by decide +kernel
theorem q83_212 : c_q 83 212 = some (.aload 6, 0, 0, 0) := by decide +kernel
theorem q83_214 : c_q 83 214 = some (.iload 7, 0, 0, 0) := by decide +kernel
theorem q83_216 : c_q 83 216 = some (.iaload, 0, 0, 0) := by decide +kernel
theorem q83_217 : c_q 83 217 = some (.iastore, 0, 0, 0) := by decide +kernel
theorem q83_218 : c_q 83 218 = some (.iload 4, 0, 0, 0) := by decide +kernel
theorem q83_220 : c_q 83 220 = some (.aload_n 1, 0, 0, 0) := by decide +kernel
theorem q83_221 : c_q 83 221 = some (.iload 7, 0, 0, 0) := by decide +kernel
theorem q83_223 : c_q 83 223 = some (.aload 5, 0, 0, 0) := by decide +kernel
theorem q83_225 : c_q 83 225 = some (.iload 7, 0, 0, 0) := by decide +kernel
theorem q83_227 : c_q 83 227 = some (.iaload, 0, 0, 0) := by decide +kernel
theorem q83_228 : c_q 83 228 = some (.invokestatic 76, 70, 3, 0) := by decide +kernel
theorem q83_231 : c_q 83 231 = some (.iconst 1, 0, 0, 0) := by decide +kernel
theorem q83_232 : c_q 83 232 = some (.if_icmp .ne (39), 271, 0, 0) := by decide +kernel
theorem q83_235 : c_q 83 235 = some (.aload_n 1, 0, 0, 0) := by decide +kernel
theorem q83_236 : c_q 83 236 = some (.iload 7, 0, 0, 0) := by decide +kernel
theorem q83_238 : c_q 83 238 = some (.aload 6, 0, 0, 0) := by decide +kernel
theorem q83_240 : c_q 83 240 = some (.iload 7, 0, 0, 0) := by decide +kernel
theorem q83_242 : c_q 83 242 = some (.iaload, 0, 0, 0) := by decide +kernel
theorem q83_243 : c_q 83 243 = some (.invokestatic 78, 71, 3, 0) := by decide +kernel
theorem q83_246 : c_q 83 246 = some (.ifCond .ne (25), 271, 0, 0) := by decide +kernel
theorem q83_249 : c_q 83 249 = some (.aload_n 1, 0, 0, 0) := by decide +kernel
theorem q83_250 : c_q 83 250 = some (.iload 7, 0, 0, 0) := by decide +kernel
theorem q83_252 : c_q 83 252 = some (.aload 5, 0, 0, 0) := by decide +kernel
theorem q83_254 : c_q 83 254 = some (.iload 7, 0, 0, 0) := by decide +kernel
theorem q83_256 : c_q 83 256 = some (.iaload, 0, 0, 0) := by decide +kernel
theorem q83_257 : c_q 83 257 = some (.iconst 1, 0, 0, 0) := by decide +kernel
theorem q83_258 : c_q 83 258 = some (.iadd, 0, 0, 0) := by decide +kernel
theorem q83_259 : c_q 83 259 = some (.invokestatic 78, 71, 3, 0) := by decide +kernel
theorem q83_262 : c_q 83 262 = some (.ldc 24, 4294067294, 0, 0) := by decide +kernel
theorem q83_264 : c_q 83 264 = some (.if_icmp .ne (7), 271, 0, 0) := by decide +kernel
theorem q83_267 : c_q 83 267 = some (.iconst 1, 0, 0, 0) := by decide +kernel
theorem q83_268 : c_q 83 268 = some (.goto (4), 272, 0, 0) := by decide +kernel
theorem q83_271 : c_q 83 271 = some (.iconst 0, 0, 0, 0) := by decide +kernel
theorem q83_272 : c_q 83 272 = some (.iand, 0, 0, 0) := by decide +kernel
theorem q83_273 : c_q 83 273 = some (.istore 4, 0, 0, 0) := by decide +kernel
theorem q83_275 : c_q 83 275 = some (.iinc 7 (1), 0, 0, 0) := by decide +kernel
theorem q83_278 : c_q 83 278 = some (.goto (-158), 120, 0, 0) := by decide +kernel
theorem q83_281 : c_q 83 281 = some (.bipush (8), 0, 0, 0) := by decide +kernel
theorem q83_283 : c_q 83 283 = some (.iload_n 2, 0, 0, 0) := by decide +kernel
theorem q83_284 : c_q 83 284 = some (.multianewarray 80 2, 0, 0, 0) := by decide +kernel
theorem q83_288 : c_q 83 288 = some (.astore 7, 0, 0, 0) := by decide +kernel
theorem q83_290 : c_q 83 290 = some (.iconst 0, 0, 0, 0) := by decide +kernel
theorem q83_291 : c_q 83 291 = some (.istore 8, 0, 0, 0) := by decide +kernel
theorem q83_293 : c_q 83 293 = some (.iconst 0, 0, 0, 0) := by decide +kernel
theorem q83_294 : c_q 83 294 = some (.istore 9, 0, 0, 0) := by decide +kernel
theorem q83_296 : c_q 83 296 = some (.iload 9, 0, 0, 0) := by decide +kernel
theorem q83_298 : c_q 83 298 = some (.bipush (12), 0, 0, 0) := by decide +kernel
theorem q83_300 : c_q 83 300 = some (.if_icmp .ge (676), 976, 0, 0) := by decide +kernel
theorem q83_303 : c_q 83 303 = some (.aload_n 0, 0, 0, 0) := by decide +kernel
theorem q83_304 : c_q 83 304 = some (.bipush (70), 0, 0, 0) := by decide +kernel
theorem q83_306 : c_q 83 306 = some (.iload 9, 0, 0, 0) := by decide +kernel
theorem q83_308 : c_q 83 308 = some (.iadd, 0, 0, 0) := by decide +kernel
theorem q83_309 : c_q 83 309 = some (.bipush (6), 0, 0, 0) := by decide +kernel
theorem q83_311 : c_q 83 311 = some (.invokestatic 60, 78, 3, 0) := by decide +kernel
theorem q83_314 : c_q 83 314 = some (.istore 10, 0, 0, 0) := by decide +kernel
theorem q83_316 : c_q 83 316 = some (.iconst 1, 0, 0, 0) := by decide +kernel
theorem q83_317 : c_q 83 317 = some (.aload_n 0, 0, 0, 0) := by decide +kernel
theorem q83_318 : c_q 83 318 = some (.bipush (90), 0, 0, 0) := by decide +kernel
theorem q83_320 : c_q 83 320 = some (.iload 9, 0, 0, 0) := by decide +kernel
theorem q83_322 : c_q 83 322 = some (.iadd, 0, 0, 0) := by decide +kernel
theorem q83_323 : c_q 83 323 = some (.aload_n 0, 0, 0, 0) := by decide +kernel
theorem q83_324 : c_q 83 324 = some (.bipush (110), 0, 0, 0) := by decide +kernel
theorem q83_326 : c_q 83 326 = some (.iload 9, 0, 0, 0) := by decide +kernel
theorem q83_328 : c_q 83 328 = some (.iadd, 0, 0, 0) := by decide +kernel
theorem q83_329 : c_q 83 329 = some (.iconst 2, 0, 0, 0) := by decide +kernel
theorem q83_330 : c_q 83 330 = some (.invokestatic 60, 78, 3, 0) := by decide +kernel
theorem q83_333 : c_q 83 333 = some (.ifCond .ne (7), 340, 0, 0) := by decide +kernel
theorem q83_336 : c_q 83 336 = some (.iconst 4, 0, 0, 0) := by decide +kernel
theorem q83_337 : c_q 83 337 = some (.goto (5), 342, 0, 0) := by decide +kernel
theorem q83_340 : c_q 83 340 = some (.bipush (99), 0, 0, 0) := by decide +kernel
theorem q83_342 : c_q 83 342 = some (.invokestatic 60, 78, 3, 0) := by decide +kernel
theorem q83_345 : c_q 83 345 = some (.iadd, 0, 0, 0) := by decide +kernel
theorem q83_346 : c_q 83 346 = some (.istore 11, 0, 0, 0) := by decide +kernel
theorem q83_348 : c_q 83 348 = some (.iload 10, 0, 0, 0) := by decide +kernel
theorem q83_350 : c_q 83 350 = some (.iconst 5, 0, 0, 0) := by decide +kernel
theorem q83_351 : c_q 83 351 = some (.if_icmp .ne (73), 424, 0, 0) := by decide +kernel
theorem q83_354 : c_q 83 354 = some (.iload 4, 0, 0, 0) := by decide +kernel
theorem q83_356 : c_q 83 356 = some (.aload_n 1, 0, 0, 0) := by decide +kernel
theorem q83_357 : c_q 83 357 = some (.invokestatic 70, 77, 1, 0) := by decide +kernel
theorem q83_360 : c_q 83 360 = some (.iload 8, 0, 0, 0) := by decide +kernel
theorem q83_362 : c_q 83 362 = some (.ifCond .ne (8), 370, 0, 0) := by decide +kernel
theorem q83_365 : c_q 83 365 = some (.ldc 17, 4294067295, 0, 0) := by decide +kernel
theorem q83_367 : c_q 83 367 = some (.goto (7), 374, 0, 0) := by decide +kernel
theorem q83_370 : c_q 83 370 = some (.iload 8, 0, 0, 0) := by decide +kernel
theorem q83_372 : c_q 83 372 = some (.iconst 1, 0, 0, 0) := by decide +kernel
theorem q83_373 : c_q 83 373 = some (.isub, 0, 0, 0) := by decide +kernel
theorem q83_374 : c_q 83 374 = some (.if_icmp .ne (7), 381, 0, 0) := by decide +kernel
theorem q83_377 : c_q 83 377 = some (.iconst 1, 0, 0, 0) := by decide +kernel
theorem q83_378 : c_q 83 378 = some (.goto (4), 382, 0, 0) := by decide +kernel
theorem q83_381 : c_q 83 381 = some (.iconst 0, 0, 0, 0) := by decide +kernel
theorem q83_382 : c_q 83 382 = some (.iand, 0, 0, 0) := by decide +kernel
theorem q83_383 : c_q 83 383 = some (.istore 4, 0, 0, 0) := by decide +kernel
theorem q83_385 : c_q 83 385 = some (.iload 8, 0, 0, 0) := by decide +kernel
theorem q83_387 : c_q 83 387 = some (.ifCond .le (368), 755, 0, 0) := by decide +kernel
theorem q83_390 : c_q 83 390 = some (.iinc 8 (-1), 0, 0, 0) := by decide +kernel
theorem q83_393 : c_q 83 393 = some (.iconst 0, 0, 0, 0) := by decide +kernel
theorem q83_394 : c_q 83 394 = some (.istore 12, 0, 0, 0) := by decide +kernel
theorem q83_396 : c_q 83 396 = some (.iload 12, 0, 0, 0) := by decide +kernel
theorem q83_398 : c_q 83 398 = some (.iload_n 2, 0, 0, 0) := by decide +kernel
theorem q83_399 : c_q 83 399 = some (.if_icmp .ge (22), 421, 0, 0) := by decide +kernel
theorem q83_402 : c_q 83 402 = some (.aload 6, 0, 0, 0) := by decide +kernel
theorem q83_404 : c_q 83 404 = some (.iload 12, 0, 0, 0) := by decide +kernel
theorem q83_406 : c_q 83 406 = some (.aload 7, 0, 0, 0) := by decide +kernel
theorem q83_408 : c_q 83 408 = some (.iload 8, 0, 0, 0) := by decide +kernel
theorem q83_410 : c_q 83 410 = some (.aaload, 0, 0, 0) := by decide +kernel
theorem q83_411 : c_q 83 411 = some (.iload 12, 0, 0, 0) := by decide +kernel
theorem q83_413 : c_q 83 413 = some (.iaload, 0, 0, 0) := by decide +kernel
theorem q83_414 : c_q 83 414 = some (.iastore, 0, 0, 0) := by decide +kernel
theorem q83_415 : c_q 83 415 = some (.iinc 12 (1), 0, 0, 0) := by decide +kernel
theorem q83_418 : c_q 83 418 = some (.goto (-22), 396, 0, 0) := by decide +kernel
theorem q83_421 : c_q 83 421 = some (.goto (334), 755, 0, 0) := by decide +kernel
theorem q83_424 : c_q 83 424 = some (.iload 10, 0, 0, 0) := by decide +kernel
theorem q83_426 : c_q 83 426 = some (.iconst 4, 0, 0, 0) := by decide +kernel
theorem q83_427 : c_q 83 427 = some (.if_icmp .ne (7), 434, 0, 0) := by decide +kernel
theorem q83_430 : c_q 83 430 = some (.iconst 1, 0, 0, 0) := by decide +kernel
theorem q83_431 : c_q 83 431 = some (.goto (4), 435, 0, 0) := by decide +kernel
theorem q83_434 : c_q 83 434 = some (.iconst 0, 0, 0, 0) := by decide +kernel
theorem q83_435 : c_q 83 435 = some (.istore 12, 0, 0, 0) := by decide +kernel
theorem q83_437 : c_q 83 437 = some (.iconst 0, 0, 0, 0) := by decide +kernel
theorem q83_438 : c_q 83 438 = some (.istore 13, 0, 0, 0) := by decide +kernel
theorem q83_440 : c_q 83 440 = some (.iconst 0, 0, 0, 0) := by decide +kernel
theorem q83_441 : c_q 83 441 = some (.istore 14, 0, 0, 0) := by decide +kernel
theorem q83_443 : c_q 83 443 = some (.iconst 0, 0, 0, 0) := by decide +kernel
theorem q83_444 : c_q 83 444 = some (.istore 15, 0, 0, 0) := by decide +kernel
theorem q83_446 : c_q 83 446 = some (.iload_n 2, 0, 0, 0) := by decide +kernel
theorem q83_447 : c_q 83 447 = some (.newarray .int, 0, 0, 0) := by decide +kernel
theorem q83_449 : c_q 83 449 = some (.astore 16, 0, 0, 0) := by decide +kernel
theorem q83_451 : c_q 83 451 = some (.iload_n 3, 0, 0, 0) := by decide +kernel
theorem q83_452 : c_q 83 452 = some (.ifCond .eq (7), 459, 0, 0) := by decide +kernel
theorem q83_455 : c_q 83 455 = some (.iconst 0, 0, 0, 0) := by decide +kernel
theorem q83_456 : c_q 83 456 = some (.goto (4), 460, 0, 0) := by decide +kernel
theorem q83_459 : c_q 83 459 = some (.iconst 1, 0, 0, 0) := by decide +kernel
theorem q83_460 : c_q 83 460 = some (.istore 17, 0, 0, 0) := by decide +kernel
theorem q83_462 : c_q 83 462 = some (.iload 17, 0, 0, 0) := by decide +kernel
theorem q83_464 : c_q 83 464 = some (.iconst 2, 0, 0, 0) := by decide +kernel
theorem q83_465 : c_q 83 465 = some (.if_icmp .ge (161), 626, 0, 0) := by decide +kernel
theorem q83_468 : c_q 83 468 = some (.iload 17, 0, 0, 0) := by decide +kernel
theorem q83_470 : c_q 83 470 = some (.iconst 1, 0, 0, 0) := by decide +kernel
theorem q83_471 : c_q 83 471 = some (.if_icmp .ne (12), 483, 0, 0) := by decide +kernel
theorem q83_474 : c_q 83 474 = some (.iload_n 3, 0, 0, 0) := by decide +kernel
theorem q83_475 : c_q 83 475 = some (.ifCond .eq (8), 483, 0, 0) := by decide +kernel
theorem q83_478 : c_q 83 478 = some (.iload 15, 0, 0, 0) := by decide +kernel
theorem q83_480 : c_q 83 480 = some (.goto (4), 484, 0, 0) := by decide +kernel
theorem q83_483 : c_q 83 483 = some (.iconst 0, 0, 0, 0) := by decide +kernel
theorem q83_484 : c_q 83 484 = some (.istore 13, 0, 0, 0) := by decide +kernel
theorem q83_486 : c_q 83 486 = some (.iload 13, 0, 0, 0) := by decide +kernel
theorem q83_488 : c_q 83 488 = some (.istore 18, 0, 0, 0) := by decide +kernel
theorem q83_490 : c_q 83 490 = some (.iload 18, 0, 0, 0) := by decide +kernel
theorem q83_492 : c_q 83 492 = some (.istore 14, 0, 0, 0) := by decide +kernel
theorem q83_494 : c_q 83 494 = some (.iconst 0, 0, 0, 0) := by decide +kernel
theorem q83_495 : c_q 83 495 = some (.istore 19, 0, 0, 0) := by decide +kernel
theorem q83_497 : c_q 83 497 = some (.iload 19, 0, 0, 0) := by decide +kernel
theorem q83_499 : c_q 83 499 = some (.iload_n 2, 0, 0, 0) := by decide +kernel
theorem q83_500 : c_q 83 500 = some (.if_icmp .ge (116), 616, 0, 0) := by decide +kernel
theorem q83_503 : c_q 83 503 = some (.iload 12, 0, 0, 0) := by decide +kernel
theorem q83_505 : c_q 83 505 = some (.ifCond .eq (12), 517, 0, 0) := by decide +kernel
theorem q83_508 : c_q 83 508 = some (.iload_n 2, 0, 0, 0) := by decide +kernel
theorem q83_509 : c_q 83 509 = some (.iconst 1, 0, 0, 0) := by decide +kernel
theorem q83_510 : c_q 83 510 = some (.isub, 0, 0, 0) := by decide +kernel
theorem q83_511 : c_q 83 511 = some (.iload 19, 0, 0, 0) := by decide +kernel
theorem q83_513 : c_q 83 513 = some (.isub, 0, 0, 0) := by decide +kernel
theorem q83_514 : c_q 83 514 = some (.goto (5), 519, 0, 0) := by decide +kernel
theorem q83_517 : c_q 83 517 = some (.iload 19, 0, 0, 0) := by decide +kernel
theorem q83_519 : c_q 83 519 = some (.istore 20, 0, 0, 0) := by decide +kernel
theorem q83_521 : c_q 83 521 = some (.aload 5, 0, 0, 0) := by decide +kernel
theorem q83_523 : c_q 83 523 = some (.iload 20, 0, 0, 0) := by decide +kernel
theorem q83_525 : c_q 83 525 = some (.iaload, 0, 0, 0) := by decide +kernel
theorem q83_526 : c_q 83 526 = some (.aload 6, 0, 0, 0) := by decide +kernel
theorem q83_528 : c_q 83 528 = some (.iload 20, 0, 0, 0) := by decide +kernel
theorem q83_530 : c_q 83 530 = some (.iaload, 0, 0, 0) := by decide +kernel
theorem q83_531 : c_q 83 531 = some (.isub, 0, 0, 0) := by decide +kernel
theorem q83_532 : c_q 83 532 = some (.istore 21, 0, 0, 0) := by decide +kernel
theorem q83_534 : c_q 83 534 = some (.iload 18, 0, 0, 0) := by decide +kernel
theorem q83_536 : c_q 83 536 = some (.aload 6, 0, 0, 0) := by decide +kernel
theorem q83_538 : c_q 83 538 = some (.iload 20, 0, 0, 0) := by decide +kernel
theorem q83_540 : c_q 83 540 = some (.iaload, 0, 0, 0) := by decide +kernel
theorem q83_541 : c_q 83 541 = some (.iadd, 0, 0, 0) := by decide +kernel
theorem q83_542 : c_q 83 542 = some (.iload 11, 0, 0, 0) := by decide +kernel
theorem q83_544 : c_q 83 544 = some (.isub, 0, 0, 0) := by decide +kernel
theorem q83_545 : c_q 83 545 = some (.istore 22, 0, 0, 0) := by decide +kernel
theorem q83_547 : c_q 83 547 = some (.aload 16, 0, 0, 0) := by decide +kernel
theorem q83_549 : c_q 83 549 = some (.iload 20, 0, 0, 0) := by decide +kernel
theorem q83_551 : c_q 83 551 = some (.iload 18, 0, 0, 0) := by decide +kernel
theorem q83_553 : c_q 83 553 = some (.iload 21, 0, 0, 0) := by decide +kernel
theorem q83_555 : c_q 83 555 = some (.if_icmp .ge (8), 563, 0, 0) := by decide +kernel
theorem q83_558 : c_q 83 558 = some (.iload 18, 0, 0, 0) := by decide +kernel
theorem q83_560 : c_q 83 560 = some (.goto (5), 565, 0, 0) := by decide +kernel
theorem q83_563 : c_q 83 563 = some (.iload 21, 0, 0, 0) := by decide +kernel
theorem q83_565 : c_q 83 565 = some (.iload 22, 0, 0, 0) := by decide +kernel
theorem q83_567 : c_q 83 567 = some (.ifCond .le (8), 575, 0, 0) := by decide +kernel
theorem q83_570 : c_q 83 570 = some (.iload 22, 0, 0, 0) := by decide +kernel
theorem q83_572 : c_q 83 572 = some (.goto (4), 576, 0, 0) := by decide +kernel
theorem q83_575 : c_q 83 575 = some (.iconst 0, 0, 0, 0) := by decide +kernel
theorem q83_576 : c_q 83 576 = some (.iadd, 0, 0, 0) := by decide +kernel
theorem q83_577 : c_q 83 577 = some (.iastore, 0, 0, 0) := by decide +kernel
theorem q83_578 : c_q 83 578 = some (.iload 18, 0, 0, 0) := by decide +kernel
theorem q83_580 : c_q 83 580 = some (.aload 6, 0, 0, 0) := by decide +kernel
theorem q83_582 : c_q 83 582 = some (.iload 20, 0, 0, 0) := by decide +kernel
theorem q83_584 : c_q 83 584 = some (.iaload, 0, 0, 0) := by decide +kernel
theorem q83_585 : c_q 83 585 = some (.aload 16, 0, 0, 0) := by decide +kernel
theorem q83_587 : c_q 83 587 = some (.iload 20, 0, 0, 0) := by decide +kernel
theorem q83_589 : c_q 83 589 = some (.iaload, 0, 0, 0) := by decide +kernel
theorem q83_590 : c_q 83 590 = some (.isub, 0, 0, 0) := by decide +kernel
theorem q83_591 : c_q 83 591 = some (.iadd, 0, 0, 0) := by decide +kernel
theorem q83_592 : c_q 83 592 = some (.istore 18, 0, 0, 0) := by decide +kernel
theorem q83_594 : c_q 83 594 = some (.iload 18, 0, 0, 0) := by decide +kernel
theorem q83_596 : c_q 83 596 = some (.iload 14, 0, 0, 0) := by decide +kernel
theorem q83_598 : c_q 83 598 = some (.if_icmp .le (8), 606, 0, 0) := by decide +kernel
theorem q83_601 : c_q 83 601 = some (.iload 18, 0, 0, 0) := by decide +kernel
theorem q83_603 : c_q 83 603 = some (.goto (5), 608, 0, 0) := by decide +kernel
theorem q83_606 : c_q 83 606 = some (.iload 14, 0, 0, 0) := by decide +kernel
theorem q83_608 : c_q 83 608 = some (.istore 14, 0, 0, 0) := by decide +kernel
theorem q83_610 : c_q 83 610 = some (.iinc 19 (1), 0, 0, 0) := by decide +kernel
theorem q83_613 : c_q 83 613 = some (.goto (-116), 497, 0, 0) := by decide +kernel
theorem q83_616 : c_q 83 616 = some (.iload 18, 0, 0, 0) := by decide +kernel
theorem q83_618 : c_q 83 618 = some (.istore 15, 0, 0, 0) := by decide +kernel
theorem q83_620 : c_q 83 620 = some (.iinc 17 (1), 0, 0, 0) := by decide +kernel
theorem q83_623 : c_q 83 623 = some (.goto (-161), 462, 0, 0) := by decide +kernel
theorem q83_626 : c_q 83 626 = some (.iload 15, 0, 0, 0) := by decide +kernel
theorem q83_628 : c_q 83 628 = some (.iload 13, 0, 0, 0) := by decide +kernel
theorem q83_630 : c_q 83 630 = some (.if_icmp .ne (7), 637, 0, 0) := by decide +kernel
theorem q83_633 : c_q 83 633 = some (.iconst 1, 0, 0, 0) := by decide +kernel
theorem q83_634 : c_q 83 634 = some (.goto (4), 638, 0, 0) := by decide +kernel
theorem q83_637 : c_q 83 637 = some (.iconst 0, 0, 0, 0) := by decide +kernel
theorem q83_638 : c_q 83 638 = some (.istore 17, 0, 0, 0) := by decide +kernel
theorem q83_640 : c_q 83 640 = some (.iload 4, 0, 0, 0) := by decide +kernel
theorem q83_642 : c_q 83 642 = some (.iload 12, 0, 0, 0) := by decide +kernel
theorem q83_644 : c_q 83 644 = some (.ifCond .eq (12), 656, 0, 0) := by decide +kernel
theorem q83_647 : c_q 83 647 = some (.aload_n 1, 0, 0, 0) := by decide +kernel
theorem q83_648 : c_q 83 648 = some (.iload 11, 0, 0, 0) := by decide +kernel
theorem q83_650 : c_q 83 650 = some (.invokestatic 82, 74, 2, 0) := by decide +kernel
theorem q83_653 : c_q 83 653 = some (.goto (9), 662, 0, 0) := by decide +kernel
theorem q83_656 : c_q 83 656 = some (.aload_n 1, 0, 0, 0) := by decide +kernel
theorem q83_657 : c_q 83 657 = some (.iload 11, 0, 0, 0) := by decide +kernel
theorem q83_659 : c_q 83 659 = some (.invokestatic 84, 73, 2, 0) := by decide +kernel
theorem q83_662 : c_q 83 662 = some (.iload 17, 0, 0, 0) := by decide +kernel
theorem q83_664 : c_q 83 664 = some (.ifCond .eq (8), 672, 0, 0) := by decide +kernel
theorem q83_667 : c_q 83 667 = some (.iload 14, 0, 0, 0) := by decide +kernel
theorem q83_669 : c_q 83 669 = some (.goto (5), 674, 0, 0) := by decide +kernel
theorem q83_672 : c_q 83 672 = some (.ldc 24, 4294067294, 0, 0) := by decide +kernel
theorem q83_674 : c_q 83 674 = some (.if_icmp .ne (7), 681, 0, 0) := by decide +kernel
theorem q83_677 : c_q 83 677 = some (.iconst 1, 0, 0, 0) := by decide +kernel
theorem q83_678 : c_q 83 678 = some (.goto (4), 682, 0, 0) := by decide +kernel
theorem q83_681 : c_q 83 681 = some (.iconst 0, 0, 0, 0) := by decide +kernel
theorem q83_682 : c_q 83 682 = some (.iand, 0, 0, 0) := by decide +kernel
theorem q83_683 : c_q 83 683 = some (.istore 4, 0, 0, 0) := by decide +kernel
theorem q83_685 : c_q 83 685 = some (.iload 17, 0, 0, 0) := by decide +kernel
theorem q83_687 : c_q 83 687 = some (.ifCond .eq (68), 755, 0, 0) := by decide +kernel
theorem q83_690 : c_q 83 690 = some (.iload 8, 0, 0, 0) := by decide +kernel
theorem q83_692 : c_q 83 692 = some (.bipush (8), 0, 0, 0) := by decide +kernel
theorem q83_694 : c_q 83 694 = some (.if_icmp .ne (41), 735, 0, 0) := by decide +kernel
theorem q83_697 : c_q 83 697 = some (.iconst 0, 0, 0, 0) := by decide +kernel
theorem q83_698 : c_q 83 698 = some (.istore 18, 0, 0, 0) := by decide +kernel
theorem q83_700 : c_q 83 700 = some (.iload 18, 0, 0, 0) := by decide +kernel
theorem q83_702 : c_q 83 702 = some (.bipush (7), 0, 0, 0) := by decide +kernel
theorem q83_704 : c_q 83 704 = some (.if_icmp .ge (27), 731, 0, 0) := by decide +kernel
theorem q83_707 : c_q 83 707 = some (.aload 7, 0, 0, 0) := by decide +kernel
theorem q83_709 : c_q 83 709 = some (.iload 18, 0, 0, 0) := by decide +kernel
theorem q83_711 : c_q 83 711 = some (.aload 7, 0, 0, 0) := by decide +kernel
theorem q83_713 : c_q 83 713 = some (.iload 18, 0, 0, 0) := by decide +kernel
theorem q83_715 : c_q 83 715 = some (.iconst 1, 0, 0, 0) := by decide +kernel
theorem q83_716 : c_q 83 716 = some (.iadd, 0, 0, 0) := by decide +kernel
theorem q83_717 : c_q 83 717 = some (.aaload, 0, 0, 0) := by decide +kernel
theorem q83_718 : c_q 83 718 = some (.invokevirtual 86, 0, 0, 9) := by decide +kernel
theorem q83_721 : c_q 83 721 = some (.checkcast 87, 0, 0, 0) := by decide +kernel
theorem q83_724 : c_q 83 724 = some (.aastore, 0, 0, 0) := by decide +kernel
theorem q83_725 : c_q 83 725 = some (.iinc 18 (1), 0, 0, 0) := by decide +kernel
theorem q83_728 : c_q 83 728 = some (.goto (-28), 700, 0, 0) := by decide +kernel
theorem q83_731 : c_q 83 731 = some (.bipush (7), 0, 0, 0) := by decide +kernel
theorem q83_733 : c_q 83 733 = some (.istore 8, 0, 0, 0) := by decide +kernel
theorem q83_735 : c_q 83 735 = some (.aload 7, 0, 0, 0) := by decide +kernel
theorem q83_737 : c_q 83 737 = some (.iload 8, 0, 0, 0) := by decide +kernel
theorem q83_739 : c_q 83 739 = some (.aload 6, 0, 0, 0) := by decide +kernel
theorem q83_741 : c_q 83 741 = some (.invokevirtual 86, 0, 0, 9) := by decide +kernel
theorem q83_744 : c_q 83 744 = some (.checkcast 87, 0, 0, 0) := by decide +kernel
theorem q83_747 : c_q 83 747 = some (.aastore, 0, 0, 0) := by decide +kernel
theorem q83_748 : c_q 83 748 = some (.iinc 8 (1), 0, 0, 0) := by decide +kernel
theorem q83_751 : c_q 83 751 = some (.aload 16, 0, 0, 0) := by decide +kernel
theorem q83_753 : c_q 83 753 = some (.astore 6, 0, 0, 0) := by decide +kernel
theorem q83_755 : c_q 83 755 = some (.iconst 0, 0, 0, 0) := by decide +kernel
theorem q83_756 : c_q 83 756 = some (.istore 12, 0, 0, 0) := by decide +kernel
theorem q83_758 : c_q 83 758 = some (.iconst 0, 0, 0, 0) := by decide +kernel
theorem q83_759 : c_q 83 759 = some (.istore 13, 0, 0, 0) := by decide +kernel
theorem q83_761 : c_q 83 761 = some (.iconst 0, 0, 0, 0) := by decide +kernel
theorem q83_762 : c_q 83 762 = some (.istore 14, 0, 0, 0) := by decide +kernel
theorem q83_764 : c_q 83 764 = some (.iload 14, 0, 0, 0) := by decide +kernel
theorem q83_766 : c_q 83 766 = some (.iload_n 2, 0, 0, 0) := by decide +kernel
theorem q83_767 : c_q 83 767 = some (.if_icmp .ge (61), 828, 0, 0) := by decide +kernel
theorem q83_770 : c_q 83 770 = some (.iload 4, 0, 0, 0) := by decide +kernel
theorem q83_772 : c_q 83 772 = some (.aload_n 1, 0, 0, 0) := by decide +kernel
theorem q83_773 : c_q 83 773 = some (.iload 14, 0, 0, 0) := by decide +kernel
theorem q83_775 : c_q 83 775 = some (.invokestatic 67, 72, 2, 0) := by decide +kernel
theorem q83_778 : c_q 83 778 = some (.aload 6, 0, 0, 0) := by decide +kernel
theorem q83_780 : c_q 83 780 = some (.iload 14, 0, 0, 0) := by decide +kernel
theorem q83_782 : c_q 83 782 = some (.iaload, 0, 0, 0) := by decide +kernel
theorem q83_783 : c_q 83 783 = some (.if_icmp .ne (7), 790, 0, 0) := by decide +kernel
theorem q83_786 : c_q 83 786 = some (.iconst 1, 0, 0, 0) := by decide +kernel
theorem q83_787 : c_q 83 787 = some (.goto (4), 791, 0, 0) := by decide +kernel
theorem q83_790 : c_q 83 790 = some (.iconst 0, 0, 0, 0) := by decide +kernel
theorem q83_791 : c_q 83 791 = some (.iand, 0, 0, 0) := by decide +kernel
theorem q83_792 : c_q 83 792 = some (.istore 4, 0, 0, 0) := by decide +kernel
theorem q83_794 : c_q 83 794 = some (.iload 12, 0, 0, 0) := by decide +kernel
theorem q83_796 : c_q 83 796 = some (.aload 6, 0, 0, 0) := by decide +kernel
theorem q83_798 : c_q 83 798 = some (.iload 14, 0, 0, 0) := by decide +kernel
theorem q83_800 : c_q 83 800 = some (.iaload, 0, 0, 0) := by decide +kernel
theorem q83_801 : c_q 83 801 = some (.iadd, 0, 0, 0) := by decide +kernel
theorem q83_802 : c_q 83 802 = some (.istore 12, 0, 0, 0) := by decide +kernel
theorem q83_804 : c_q 83 804 = some (.iload 13, 0, 0, 0) := by decide +kernel
theorem q83_806 : c_q 83 806 = some (.aload 6, 0, 0, 0) := by decide +kernel
theorem q83_808 : c_q 83 808 = some (.iload 14, 0, 0, 0) := by decide +kernel
theorem q83_810 : c_q 83 810 = some (.iaload, 0, 0, 0) := by decide +kernel
theorem q83_811 : c_q 83 811 = some (.ifCond .le (7), 818, 0, 0) := by decide +kernel
theorem q83_814 : c_q 83 814 = some (.iconst 1, 0, 0, 0) := by decide +kernel
theorem q83_815 : c_q 83 815 = some (.goto (4), 819, 0, 0) := by decide +kernel
theorem q83_818 : c_q 83 818 = some (.iconst 0, 0, 0, 0) := by decide +kernel
theorem q83_819 : c_q 83 819 = some (.iadd, 0, 0, 0) := by decide +kernel
theorem q83_820 : c_q 83 820 = some (.istore 13, 0, 0, 0) := by decide +kernel
theorem q83_822 : c_q 83 822 = some (.iinc 14 (1), 0, 0, 0) := by decide +kernel
theorem q83_825 : c_q 83 825 = some (.goto (-61), 764, 0, 0) := by decide +kernel
theorem q83_828 : c_q 83 828 = some (.iload 4, 0, 0, 0) := by decide +kernel
theorem q83_830 : c_q 83 830 = some (.aload_n 1, 0, 0, 0) := by decide +kernel
theorem q83_831 : c_q 83 831 = some (.invokevirtual 92, 5, 0, 2) := by decide +kernel
theorem q83_834 : c_q 83 834 = some (.iload 12, 0, 0, 0) := by decide +kernel
theorem q83_836 : c_q 83 836 = some (.if_icmp .ne (57), 893, 0, 0) := by decide +kernel
theorem q83_839 : c_q 83 839 = some (.aload_n 1, 0, 0, 0) := by decide +kernel
theorem q83_840 : c_q 83 840 = some (.invokevirtual 95, 9, 0, 2) := by decide +kernel
theorem q83_843 : c_q 83 843 = some (.iload 8, 0, 0, 0) := by decide +kernel
theorem q83_845 : c_q 83 845 = some (.if_icmp .ne (48), 893, 0, 0) := by decide +kernel
theorem q83_848 : c_q 83 848 = some (.aload_n 1, 0, 0, 0) := by decide +kernel
theorem q83_849 : c_q 83 849 = some (.invokevirtual 98, 12, 0, 2) := by decide +kernel
theorem q83_852 : c_q 83 852 = some (.iload 13, 0, 0, 0) := by decide +kernel
theorem q83_854 : c_q 83 854 = some (.i2f, 0, 0, 0) := by decide +kernel
theorem q83_855 : c_q 83 855 = some (.iload_n 2, 0, 0, 0) := by decide +kernel
theorem q83_856 : c_q 83 856 = some (.i2f, 0, 0, 0) := by decide +kernel
theorem q83_857 : c_q 83 857 = some (.fdiv, 0, 0, 0) := by decide +kernel
theorem q83_858 : c_q 83 858 = some (.invokestatic 101, 79, 1, 0) := by decide +kernel
theorem q83_861 : c_q 83 861 = some (.if_icmp .ne (32), 893, 0, 0) := by decide +kernel
theorem q83_864 : c_q 83 864 = some (.aload_n 1, 0, 0, 0) := by decide +kernel
theorem q83_865 : c_q 83 865 = some (.iload 8, 0, 0, 0) := by decide +kernel
theorem q83_867 : c_q 83 867 = some (.iconst 1, 0, 0, 0) := by decide +kernel
theorem q83_868 : c_q 83 868 = some (.iadd, 0, 0, 0) := by decide +kernel
theorem q83_869 : c_q 83 869 = some (.iconst 0, 0, 0, 0) := by decide +kernel
theorem q83_870 : c_q 83 870 = some (.invokestatic 73, 76, 3, 0) := by decide +kernel
theorem q83_873 : c_q 83 873 = some (.ldc 17, 4294067295, 0, 0) := by decide +kernel
theorem q83_875 : c_q 83 875 = some (.if_icmp .ne (18), 893, 0, 0) := by decide +kernel
theorem q83_878 : c_q 83 878 = some (.aload_n 1, 0, 0, 0) := by decide +kernel
theorem q83_879 : c_q 83 879 = some (.iconst 0, 0, 0, 0) := by decide +kernel
theorem q83_880 : c_q 83 880 = some (.iconst 0, 0, 0, 0) := by decide +kernel
theorem q83_881 : c_q 83 881 = some (.invokestatic 73, 76, 3, 0) := by decide +kernel
theorem q83_884 : c_q 83 884 = some (.ldc 17, 4294067295, 0, 0) := by decide +kernel
theorem q83_886 : c_q 83 886 = some (.if_icmp .ne (7), 893, 0, 0) := by decide +kernel
theorem q83_889 : c_q 83 889 = some (.iconst 1, 0, 0, 0) := by decide +kernel
theorem q83_890 : c_q 83 890 = some (.goto (4), 894, 0, 0) := by decide +kernel
theorem q83_893 : c_q 83 893 = some (.iconst 0, 0, 0, 0) := by decide +kernel
theorem q83_894 : c_q 83 894 = some (.iand, 0, 0, 0) := by decide +kernel
theorem q83_895 : c_q 83 895 = some (.istore 4, 0, 0, 0) := by decide +kernel
theorem q83_897 : c_q 83 897 = some (.iconst 1, 0, 0, 0) := by decide +kernel
theorem q83_898 : c_q 83 898 = some (.istore 14, 0, 0, 0) := by decide +kernel
theorem q83_900 : c_q 83 900 = some (.iload 14, 0, 0, 0) := by decide +kernel
theorem q83_902 : c_q 83 902 = some (.iload 8, 0, 0, 0) := by decide +kernel
theorem q83_904 : c_q 83 904 = some (.if_icmp .gt (66), 970, 0, 0) := by decide +kernel
theorem q83_907 : c_q 83 907 = some (.aload_n 0, 0, 0, 0) := by decide +kernel
theorem q83_908 : c_q 83 908 = some (.sipush (130), 0, 0, 0) := by decide +kernel
theorem q83_911 : c_q 83 911 = some (.iload 9, 0, 0, 0) := by decide +kernel
theorem q83_913 : c_q 83 913 = some (.iadd, 0, 0, 0) := by decide +kernel
theorem q83_914 : c_q 83 914 = some (.iload_n 2, 0, 0, 0) := by decide +kernel
theorem q83_915 : c_q 83 915 = some (.invokestatic 60, 78, 3, 0) := by decide +kernel
theorem q83_918 : c_q 83 918 = some (.istore 15, 0, 0, 0) := by decide +kernel
theorem q83_920 : c_q 83 920 = some (.iload 4, 0, 0, 0) := by decide +kernel
theorem q83_922 : c_q 83 922 = some (.aload_n 1, 0, 0, 0) := by decide +kernel
theorem q83_923 : c_q 83 923 = some (.iload 14, 0, 0, 0) := by decide +kernel
theorem q83_925 : c_q 83 925 = some (.iload 15, 0, 0, 0) := by decide +kernel
theorem q83_927 : c_q 83 927 = some (.invokestatic 73, 76, 3, 0) := by decide +kernel
theorem q83_930 : c_q 83 930 = some (.aload 7, 0, 0, 0) := by decide +kernel
theorem q83_932 : c_q 83 932 = some (.iload 8, 0, 0, 0) := by decide +kernel
theorem q83_934 : c_q 83 934 = some (.iload 14, 0, 0, 0) := by decide +kernel
theorem q83_936 : c_q 83 936 = some (.isub, 0, 0, 0) := by decide +kernel
theorem q83_937 : c_q 83 937 = some (.aaload, 0, 0, 0) := by decide +kernel
theorem q83_938 : c_q 83 938 = some (.iload 15, 0, 0, 0) := by decide +kernel
theorem q83_940 : c_q 83 940 = some (.iaload, 0, 0, 0) := by decide +kernel
theorem q83_941 : c_q 83 941 = some (.if_icmp .ne (19), 960, 0, 0) := by decide +kernel
theorem q83_944 : c_q 83 944 = some (.aload_n 1, 0, 0, 0) := by decide +kernel
theorem q83_945 : c_q 83 945 = some (.iload 14, 0, 0, 0) := by decide +kernel
theorem q83_947 : c_q 83 947 = some (.iload_n 2, 0, 0, 0) := by decide +kernel
theorem q83_948 : c_q 83 948 = some (.invokestatic 73, 76, 3, 0) := by decide +kernel
theorem q83_951 : c_q 83 951 = some (.ldc 24, 4294067294, 0, 0) := by decide +kernel
theorem q83_953 : c_q 83 953 = some (.if_icmp .ne (7), 960, 0, 0) := by decide +kernel
theorem q83_956 : c_q 83 956 = some (.iconst 1, 0, 0, 0) := by decide +kernel
theorem q83_957 : c_q 83 957 = some (.goto (4), 961, 0, 0) := by decide +kernel
theorem q83_960 : c_q 83 960 = some (.iconst 0, 0, 0, 0) := by decide +kernel
theorem q83_961 : c_q 83 961 = some (.iand, 0, 0, 0) := by decide +kernel
theorem q83_962 : c_q 83 962 = some (.istore 4, 0, 0, 0) := by decide +kernel
theorem q83_964 : c_q 83 964 = some (.iinc 14 (1), 0, 0, 0) := by decide +kernel
theorem q83_967 : c_q 83 967 = some (.goto (-67), 900, 0, 0) := by decide +kernel
theorem q83_970 : c_q 83 970 = some (.iinc 9 (1), 0, 0, 0) := by decide +kernel
theorem q83_973 : c_q 83 973 = some (.goto (-677), 296, 0, 0) := by decide +kernel
theorem q83_976 : c_q 83 976 = some (.iload 4, 0, 0, 0) := by decide +kernel
theorem q83_978 : c_q 83 978 = some (.ifCond .eq (46), 1024, 0, 0) := by decide +kernel
theorem q83_981 : c_q 83 981 = some (.aload_n 1, 0, 0, 0) := by decide +kernel
theorem q83_982 : c_q 83 982 = some (.iconst 0, 0, 0, 0) := by decide +kernel
theorem q83_983 : c_q 83 983 = some (.invokestatic 84, 73, 2, 0) := by decide +kernel
theorem q83_986 : c_q 83 986 = some (.ldc 17, 4294067295, 0, 0) := by decide +kernel
theorem q83_988 : c_q 83 988 = some (.if_icmp .ne (36), 1024, 0, 0) := by decide +kernel
theorem q83_991 : c_q 83 991 = some (.aload_n 1, 0, 0, 0) := by decide +kernel
theorem q83_992 : c_q 83 992 = some (.bipush (100), 0, 0, 0) := by decide +kernel
theorem q83_994 : c_q 83 994 = some (.invokestatic 82, 74, 2, 0) := by decide +kernel
theorem q83_997 : c_q 83 997 = some (.ldc 17, 4294067295, 0, 0) := by decide +kernel
theorem q83_999 : c_q 83 999 = some (.if_icmp .ne (25), 1024, 0, 0) := by decide +kernel
theorem q83_1002 : c_q 83 1002 = some (.aload_n 1, 0, 0, 0) := by decide +kernel
theorem q83_1003 : c_q 83 1003 = some (.iconst 0, 0, 0, 0) := by decide +kernel
theorem q83_1004 : c_q 83 1004 = some (.iconst 1, 0, 0, 0) := by decide +kernel
theorem q83_1005 : c_q 83 1005 = some (.invokestatic 107, 75, 3, 0) := by decide +kernel
theorem q83_1008 : c_q 83 1008 = some (.ldc 17, 4294067295, 0, 0) := by decide +kernel
theorem q83_1010 : c_q 83 1010 = some (.if_icmp .ne (14), 1024, 0, 0) := by decide +kernel
theorem q83_1013 : c_q 83 1013 = some (.aload_n 1, 0, 0, 0) := by decide +kernel
theorem q83_1014 : c_q 83 1014 = some (.invokevirtual 109, 13, 0, 2) := by decide +kernel
theorem q83_1017 : c_q 83 1017 = some (.ifCond .eq (7), 1024, 0, 0) := by decide +kernel
theorem q83_1020 : c_q 83 1020 = some (.iconst 1, 0, 0, 0) := by decide +kernel
theorem q83_1021 : c_q 83 1021 = some (.goto (4), 1025, 0, 0) := by decide +kernel
theorem q83_1024 : c_q 83 1024 = some (.iconst 0, 0, 0, 0) := by decide +kernel
theorem q83_1025 : c_q 83 1025 = some (.ireturn, 0, 0, 0) := by decide +kernel
end
section
/-! What the methods of Row and of the carrier come to. -/
def m_sum : Nat → (Nat → Int) → Int
  | 0, _ => 0
  | n + 1, f => m_sum n f + f n
def m_cnt : Nat → (Nat → Bool) → Int
  | 0, _ => 0
  | n + 1, f => m_cnt n f + if f n then 1 else 0
theorem m_cnt_le : ∀ (n : Nat) (f : Nat → Bool), 0 ≤ m_cnt n f ∧ m_cnt n f ≤ n
  | 0, _ => by simp [m_cnt]
  | n + 1, f => by
    have := m_cnt_le n f
    unfold m_cnt
    split <;> omega
theorem m_cnt_t {i : Nat} {f : Nat → Bool} (h : f i = true) : m_cnt (i + 1) f = m_cnt i f + 1 := by rw [m_cnt, if_pos h]
theorem m_cnt_f {i : Nat} {f : Nat → Bool} (h : f i = false) : m_cnt (i + 1) f = m_cnt i f := by
  have : ¬ f i = true := by rw [h]; decide
  rw [m_cnt, if_neg this, Int.add_zero]
section Ms
variable {X : List Int32} {h : c_Hp} {Q : c_O × c_Hp → Prop}
theorem s22 {li lo ca ba : Int} (h1 : 0 ≤ li ∧ li ≤ 200) (h2 : 0 ≤ lo ∧ lo ≤ 200) (h3 : 0 ≤ ca ∧ ca ≤ 200) (h4 : 0 ≤ ba ∧ ba ≤ 200) (K : Q (.inl (some (n_v (min lo (ca - ba) + max 0 (lo + ba - li)))), h)) : c_Ev X 22 0 [some (n_v li), some (n_v lo), some (n_v ca), some (n_v ba)] [] h Q := by
  refine e_st (pc := 0) q22_0 rfl rfl ?_
  refine e_st (pc := 1) q22_1 rfl rfl ?_
  refine e_st (pc := 2) q22_2 rfl rfl ?_
  refine e_sub (pc := 3) q22_3 ?_
  refine e_min (pc := 4) q22_4 ⟨by omega, by omega⟩ ⟨by omega, by omega⟩ (Nat.le_of_ble_eq_true rfl) ?_
  refine e_cst (v := 0) (len := 1) (pc := 7) q22_7 rfl rfl rfl ?_
  refine e_st (pc := 8) q22_8 rfl rfl ?_
  refine e_st (pc := 9) q22_9 rfl rfl ?_
  refine e_add (pc := 10) q22_10 ?_
  refine e_st (pc := 11) q22_11 rfl rfl ?_
  refine e_sub (pc := 12) q22_12 ?_
  refine e_max (pc := 13) q22_13 ⟨by omega, by omega⟩ ⟨by omega, by omega⟩ (Nat.le_of_ble_eq_true rfl) ?_
  refine e_add (pc := 16) q22_16 ?_
  refine e_iret (pc := 17) q22_17 rfl rfl rfl rfl ?_
  exact K
theorem s56L {a c b n : Nat} {rg : Value} {f : Nat → Int} (hr : c_ob h a 6 [.ref c, .ref b, n_v ↑n, rg]) (hb : c_ar h b 60 f) (hn : n ≤ 60) (K : Q (.inl (some (n_v (m_sum n f))), h)) : ∀ (m i : Nat), i + m = n → c_Ev X 56 4 [some (.ref a), some (n_v (m_sum i f)), some (n_v ↑i)] [] h Q
  | 0, i, e => by
    refine e_st (pc := 4) q56_4 rfl rfl ?_
    refine e_st (pc := 5) q56_5 rfl rfl ?_
    refine e_getf (pc := 6) q56_6 hr rfl ?_
    refine e_cmp true (pc := 9) q56_9 ⟨by omega, by omega⟩ ⟨by omega, by omega⟩ (n_t_ge (by omega)) ?_
    refine e_st (pc := 27) q56_27 rfl rfl ?_
    refine e_iret (pc := 28) q56_28 rfl rfl rfl rfl ?_
    rw [show i = n by omega]
    exact K
  | m + 1, i, e => by
    refine e_st (pc := 4) q56_4 rfl rfl ?_
    refine e_st (pc := 5) q56_5 rfl rfl ?_
    refine e_getf (pc := 6) q56_6 hr rfl ?_
    refine e_cmp false (pc := 9) q56_9 ⟨by omega, by omega⟩ ⟨by omega, by omega⟩ (n_f_ge (by omega)) ?_
    refine e_st (pc := 12) q56_12 rfl rfl ?_
    refine e_st (pc := 13) q56_13 rfl rfl ?_
    refine e_getf (pc := 14) q56_14 hr rfl ?_
    refine e_st (pc := 17) q56_17 rfl rfl ?_
    refine e_ald (pc := 18) (j := i) q56_18 hb (by omega) (by omega) (by omega) ?_
    refine e_add (pc := 19) q56_19 ?_
    refine e_st (pc := 20) (L2 := [some (.ref a), some (n_v ((m_sum i f) + (f i))), some (n_v ↑i)]) q56_20 rfl rfl ?_
    refine e_inc (pc := 21) (L2 := [some (.ref a), some (n_v ((m_sum i f) + (f i))), some (n_v (↑i + 1))]) q56_21 rfl rfl ?_
    refine e_st (pc := 24) q56_24 rfl rfl ?_
    exact s56L hr hb hn K m (i + 1) (by omega)
theorem s56 {a c b n : Nat} {rg : Value} {f : Nat → Int} (hr : c_ob h a 6 [.ref c, .ref b, n_v ↑n, rg]) (hb : c_ar h b 60 f) (hn : n ≤ 60) (K : Q (.inl (some (n_v (m_sum n f))), h)) : c_Ev X 56 0 [some (.ref a), none, none] [] h Q := by
  refine e_cst (v := 0) (len := 1) (pc := 0) q56_0 rfl rfl rfl ?_
  refine e_st (pc := 1) (L2 := [some (.ref a), some (n_v 0), none]) q56_1 rfl rfl ?_
  refine e_cst (v := 0) (len := 1) (pc := 2) q56_2 rfl rfl rfl ?_
  refine e_st (pc := 3) (L2 := [some (.ref a), some (n_v 0), some (n_v 0)]) q56_3 rfl rfl ?_
  exact s56L hr hb hn K n 0 (by omega)
theorem s57L {a c b n : Nat} {rg : Value} {f : Nat → Int} (hr : c_ob h a 6 [.ref c, .ref b, n_v ↑n, rg]) (hb : c_ar h b 60 f) (hn : n ≤ 60) (hf : ∀ t, t < n → 0 ≤ f t ∧ f t ≤ 200) (K : Q (.inl (some (n_v (m_cnt n (fun t => decide (0 < f t))))), h)) : ∀ (m i : Nat), i + m = n → c_Ev X 57 4 [some (.ref a), some (n_v (m_cnt i (fun t => decide (0 < f t)))), some (n_v ↑i)] [] h Q
  | 0, i, e => by
    refine e_st (pc := 4) q57_4 rfl rfl ?_
    refine e_st (pc := 5) q57_5 rfl rfl ?_
    refine e_getf (pc := 6) q57_6 hr rfl ?_
    refine e_cmp true (pc := 9) q57_9 ⟨by omega, by omega⟩ ⟨by omega, by omega⟩ (n_t_ge (by omega)) ?_
    refine e_st (pc := 30) q57_30 rfl rfl ?_
    refine e_iret (pc := 31) q57_31 rfl rfl rfl rfl ?_
    rw [show i = n by omega]
    exact K
  | m + 1, i, e => by
    have hfi := hf i (by omega)
    have ih := s57L hr hb hn hf K m (i + 1) (by omega)
    by_cases hc : 0 < f i
    · refine e_st (pc := 4) q57_4 rfl rfl ?_
      refine e_st (pc := 5) q57_5 rfl rfl ?_
      refine e_getf (pc := 6) q57_6 hr rfl ?_
      refine e_cmp false (pc := 9) q57_9 ⟨by omega, by omega⟩ ⟨by omega, by omega⟩ (n_f_ge (by omega)) ?_
      refine e_st (pc := 12) q57_12 rfl rfl ?_
      refine e_getf (pc := 13) q57_13 hr rfl ?_
      refine e_st (pc := 16) q57_16 rfl rfl ?_
      refine e_ald (pc := 17) (j := i) q57_17 hb (by omega) (by omega) (by omega) ?_
      refine e_if false (pc := 18) q57_18 ⟨by omega, by omega⟩ (n_f_le (by omega)) ?_
      refine e_inc (pc := 21) (L2 := [some (.ref a), some (n_v ((m_cnt i (fun t => decide (0 < f t))) + 1)), some (n_v ↑i)]) q57_21 rfl rfl ?_
      refine e_inc (pc := 24) (L2 := [some (.ref a), some (n_v ((m_cnt i (fun t => decide (0 < f t))) + 1)), some (n_v (↑i + 1))]) q57_24 rfl rfl ?_
      refine e_st (pc := 27) q57_27 rfl rfl ?_
      rw [m_cnt_t (f := fun t => decide (0 < f t)) (decide_eq_true hc)] at ih
      exact ih
    · refine e_st (pc := 4) q57_4 rfl rfl ?_
      refine e_st (pc := 5) q57_5 rfl rfl ?_
      refine e_getf (pc := 6) q57_6 hr rfl ?_
      refine e_cmp false (pc := 9) q57_9 ⟨by omega, by omega⟩ ⟨by omega, by omega⟩ (n_f_ge (by omega)) ?_
      refine e_st (pc := 12) q57_12 rfl rfl ?_
      refine e_getf (pc := 13) q57_13 hr rfl ?_
      refine e_st (pc := 16) q57_16 rfl rfl ?_
      refine e_ald (pc := 17) (j := i) q57_17 hb (by omega) (by omega) (by omega) ?_
      refine e_if true (pc := 18) q57_18 ⟨by omega, by omega⟩ (n_t_le (by omega)) ?_
      refine e_inc (pc := 24) (L2 := [some (.ref a), some (n_v (m_cnt i (fun t => decide (0 < f t)))), some (n_v (↑i + 1))]) q57_24 rfl rfl ?_
      refine e_st (pc := 27) q57_27 rfl rfl ?_
      rw [m_cnt_f (f := fun t => decide (0 < f t)) (decide_eq_false hc)] at ih
      exact ih
theorem s57 {a c b n : Nat} {rg : Value} {f : Nat → Int} (hr : c_ob h a 6 [.ref c, .ref b, n_v ↑n, rg]) (hb : c_ar h b 60 f) (hn : n ≤ 60) (hf : ∀ t, t < n → 0 ≤ f t ∧ f t ≤ 200) (K : Q (.inl (some (n_v (m_cnt n (fun t => decide (0 < f t))))), h)) : c_Ev X 57 0 [some (.ref a), none, none] [] h Q := by
  refine e_cst (v := 0) (len := 1) (pc := 0) q57_0 rfl rfl rfl ?_
  refine e_st (pc := 1) (L2 := [some (.ref a), some (n_v 0), none]) q57_1 rfl rfl ?_
  refine e_cst (v := 0) (len := 1) (pc := 2) q57_2 rfl rfl rfl ?_
  refine e_st (pc := 3) (L2 := [some (.ref a), some (n_v 0), some (n_v 0)]) q57_3 rfl rfl ?_
  exact s57L hr hb hn hf K n 0 (by omega)
theorem s82L {b n : Nat} {v : Int} (hn : n ≤ 1000) (K : ∀ h2, c_up h h2 b (n_arr n (fun _ => v)) → Q (.inl none, h2)) : ∀ (m i : Nat) (h1 : c_Hp) (f : Nat → Int), i + m = n → (∀ t, t < i → f t = v) → c_up h h1 b (n_arr n f) → c_Ev X 82 5 [some (.ref b), some (n_v v), some (n_v ↑i), some (n_v ↑n)] [] h1 Q
  | 0, i, h1, f, e, hf, hu => by
    refine e_st (pc := 5) q82_5 rfl rfl ?_
    refine e_st (pc := 6) q82_6 rfl rfl ?_
    refine e_cmp true (pc := 7) q82_7 ⟨by omega, by omega⟩ ⟨by omega, by omega⟩ (n_t_ge (by omega)) ?_
    refine e_ret (pc := 20) q82_20 rfl rfl rfl ?_
    refine K _ ?_
    have e2 : n_arr n (fun _ => v) = n_arr n f := by
      unfold n_arr
      congr 3
      exact List.map_congr_left (fun t ht => by rw [hf t (by have := List.mem_range.mp ht; omega)])
    rw [e2]
    exact hu
  | m + 1, i, h1, f, e, hf, hu => by
    have hb : c_ar h1 b n f := hu.2.1
    refine e_st (pc := 5) q82_5 rfl rfl ?_
    refine e_st (pc := 6) q82_6 rfl rfl ?_
    refine e_cmp false (pc := 7) q82_7 ⟨by omega, by omega⟩ ⟨by omega, by omega⟩ (n_f_ge (by omega)) ?_
    refine e_st (pc := 10) q82_10 rfl rfl ?_
    refine e_st (pc := 11) q82_11 rfl rfl ?_
    refine e_st (pc := 12) q82_12 rfl rfl ?_
    refine e_ast (pc := 13) (j := i) q82_13 hb (by omega) (by omega) (by omega) (fun h1 u1 => ?_)
    have hb : c_ar h1 b n (fun t => if t = i then v else f t) := u1.2.1
    refine e_inc (pc := 14) (L2 := [some (.ref b), some (n_v v), some (n_v (↑i + 1)), some (n_v ↑n)]) q82_14 rfl rfl ?_
    refine e_st (pc := 17) q82_17 rfl rfl ?_
    exact s82L hn K m (i + 1) _ _ (by omega) (fun t ht => by
      by_cases e2 : t = i
      · rw [if_pos e2]
      · rw [if_neg e2]; exact hf t (by omega)) (hu.tr u1)
theorem s82 {b n : Nat} {v : Int} {f : Nat → Int} (hb : c_ar h b n f) (hn : n ≤ 1000) (K : ∀ h2, c_up h h2 b (n_arr n (fun _ => v)) → Q (.inl none, h2)) : c_Ev X 82 0 [some (.ref b), some (n_v v), none, none] [] h Q := by
  refine e_cst (v := 0) (len := 1) (pc := 0) q82_0 rfl rfl rfl ?_
  refine e_st (pc := 1) (L2 := [some (.ref b), some (n_v v), some (n_v 0), none]) q82_1 rfl rfl ?_
  refine e_st (pc := 2) q82_2 rfl rfl ?_
  refine e_len (pc := 3) q82_3 hb ?_
  refine e_st (pc := 4) (L2 := [some (.ref b), some (n_v v), some (n_v 0), some (n_v (↑n))]) q82_4 rfl rfl ?_
  exact s82L hn K n 0 h f (by omega) (fun t ht => by omega) (c_up.rf hb)
end Ms
end
section
/-! The carrier's ways over a row. -/
/-- h2 is h but for the cells of W -/
def c_ch (h h2 : c_Hp) (W : List Nat) : Prop := h2.length = h.length ∧ c_msz h2 = c_msz h ∧ ∀ q, q ∉ W → h2[q]? = h[q]?
theorem c_ch.rf (h : c_Hp) (W : List Nat) : c_ch h h W := ⟨rfl, rfl, fun _ _ => rfl⟩
theorem c_ch.up {h h1 h2 : c_Hp} {W : List Nat} {a : Nat} {c : c_Cell} (r : c_ch h h1 W) (u : c_up h1 h2 a c) (ha : a ∈ W) : c_ch h h2 W :=
  ⟨u.1.trans r.1, u.2.2.2.trans r.2.1, fun q hq => (u.2.2.1 q (fun e => hq (e ▸ ha))).trans (r.2.2 q hq)⟩
theorem c_ch.tr {h h1 h2 : c_Hp} {W : List Nat} (r : c_ch h h1 W) (s : c_ch h1 h2 W) : c_ch h h2 W := ⟨s.1.trans r.1, s.2.1.trans r.2.1, fun q hq => (s.2.2 q hq).trans (r.2.2 q hq)⟩
theorem c_ch.sub {h h1 : c_Hp} {W V : List Nat} (r : c_ch h h1 W) (hs : ∀ q, q ∈ W → q ∈ V) : c_ch h h1 V := ⟨r.1, r.2.1, fun q hq => r.2.2 q (fun e => hq (hs q e))⟩
theorem c_ar.ch {h h2 : c_Hp} {W : List Nat} {b n : Nat} {f : Nat → Int} (o : c_ar h b n f) (r : c_ch h h2 W) (hb : b ∉ W) : c_ar h2 b n f := by
  unfold c_ar
  rw [r.2.2 b hb]
  exact o
theorem c_ob.ch {h h2 : c_Hp} {W : List Nat} {b k : Nat} {fs : List Value} (o : c_ob h b k fs) (r : c_ch h h2 W) (hb : b ∉ W) : c_ob h2 b k fs := by
  unfold c_ob
  rw [r.2.2 b hb]
  exact o
theorem e_aldv {X : List Int32} {k pc : Nat} {L : c_Ls} {st : List Value} {h : c_Hp} {Q : c_O × c_Hp → Prop} {b n j : Nat} {e v : Int} {f : Nat → Int} {x y z} (hq : c_q k pc = some (.iaload, x, y, z)) (o : c_ar h b n f) (he : e = (j : Int)) (hj : j < n) (hn : n ≤ 100000) (hv : f j = v) (K : c_Ev X k (pc + 1) L (n_v v :: st) h Q) : c_Ev X k pc L (n_v e :: .ref b :: st) h Q := by
  subst hv
  exact e_ald hq o he hj hn K
theorem c_okv_i (x : Int32) : c_okv .int (.int x) = true := by simp [c_okv, fits, narrow]
def m_lb (li lo ca ba : Int) : Int := min lo (ca - ba) + max 0 (lo + ba - li)
/-- the load behind g boxes -/
def m_ld (li st : Int) (cf bf : Nat → Int) (o : Nat → Nat) : Nat → Int
  | 0 => st
  | g + 1 => m_ld li st cf bf o g + (bf (o g) - m_lb li (m_ld li st cf bf o g) (cf (o g)) (bf (o g)))
/-- the greatest load till then -/
def m_mx (li st : Int) (cf bf : Nat → Int) (o : Nat → Nat) : Nat → Int
  | 0 => st
  | g + 1 => max (m_mx li st cf bf o g) (m_ld li st cf bf o (g + 1))
theorem m_ld_b {li st : Int} {cf bf : Nat → Int} {o : Nat → Nat} {n : Nat} (hs : 0 ≤ st ∧ st ≤ li) (hb : ∀ t, t < n → 0 ≤ bf (o t) ∧ bf (o t) ≤ cf (o t)) : ∀ g, g ≤ n → 0 ≤ m_ld li st cf bf o g ∧ m_ld li st cf bf o g ≤ li
  | 0, _ => hs
  | g + 1, hg => by
    have h1 := m_ld_b hs hb g (by omega)
    have h2 := hb g (by omega)
    unfold m_ld m_lb
    omega
theorem m_mx_b {li st : Int} {cf bf : Nat → Int} {o : Nat → Nat} {n : Nat} (hs : 0 ≤ st ∧ st ≤ li) (hb : ∀ t, t < n → 0 ≤ bf (o t) ∧ bf (o t) ≤ cf (o t)) : ∀ g, g ≤ n → 0 ≤ m_mx li st cf bf o g ∧ m_mx li st cf bf o g ≤ li
  | 0, _ => hs
  | g + 1, hg => by
    have h1 := m_mx_b hs hb g (by omega)
    have h2 := m_ld_b hs hb (g + 1) hg
    unfold m_mx
    omega
section Ms
variable {X : List Int32} {h : c_Hp} {Q : c_O × c_Hp → Prop}
theorem s26fL {a b c d l n : Nat} {rg : Value} {li st : Int} {cf bf : Nat → Int} (hr : c_ob h a 6 [.ref c, .ref b, n_v ↑n, rg]) (hc : c_ar h c 60 cf) (hb : c_ar h b 60 bf) (hn : n ≤ 60) (hbf : ∀ t, t < n → 0 ≤ bf t ∧ bf t ≤ cf t ∧ cf t ≤ 4) (hs : 0 ≤ st ∧ st ≤ li) (hli : li ≤ 100) (hne : a ≠ d ∧ a ≠ l ∧ c ≠ d ∧ c ≠ l ∧ b ≠ d ∧ b ≠ l ∧ d ≠ l) (K : ∀ (h2 : c_Hp) (lf2 : Nat → Int), c_ch h h2 [d, l] → c_ar h2 l 60 lf2 → c_ob h2 d 0 [.ref l, n_v (m_mx li st cf bf (fun t => t) n)] → (∀ g, g < n → lf2 (g) = m_lb li (m_ld li st cf bf (fun t => t) g) (cf (g)) (bf (g))) → Q (.inl (some (n_v (m_ld li st cf bf (fun t => t) n))), h2)) :
  ∀ (m g : Nat) (h1 : c_Hp) (lf : Nat → Int) (x7 : Option Value), g + m = n → c_ch h h1 [d, l] → c_ar h1 l 60 lf → c_ob h1 d 0 [.ref l, n_v (m_mx li st cf bf (fun t => t) g)] → (∀ t, t < g → lf (t) = m_lb li (m_ld li st cf bf (fun t => t) t) (cf (t)) (bf (t))) →
  c_Ev X 26 11 [some (.ref d), some (.ref a), some (n_v li), some (n_v st), some (n_v 1), some (n_v (m_ld li st cf bf (fun t => t) g)), some (n_v ↑g), x7] [] h1 Q
  | 0, g, h1, lf, x7, e, hch, hl, hd, hlf => by
    have hr0 := hr
    have hc0 := hc
    have hb0 := hb
    have hr := hr.ch hch (by simp; omega)
    have hc := hc.ch hch (by simp; omega)
    have hb := hb.ch hch (by simp; omega)
    refine e_st (pc := 11) q26_11 rfl rfl ?_
    refine e_st (pc := 13) q26_13 rfl rfl ?_
    refine e_getf (pc := 14) q26_14 hr rfl ?_
    refine e_cmp true (pc := 17) q26_17 ⟨by omega, by omega⟩ ⟨by omega, by omega⟩ (n_t_ge (by omega)) ?_
    refine e_st (pc := 107) q26_107 rfl rfl ?_
    refine e_iret (pc := 109) q26_109 rfl rfl rfl rfl ?_
    have e2 : g = n := by omega
    subst e2
    exact K h1 lf hch hl hd hlf
  | m + 1, g, h1, lf, x7, e, hch, hl, hd, hlf => by
    have hr0 := hr
    have hc0 := hc
    have hb0 := hb
    have hr := hr.ch hch (by simp; omega)
    have hc := hc.ch hch (by simp; omega)
    have hb := hb.ch hch (by simp; omega)
    have b1 := hbf (g) (by omega)
    have b2 := m_ld_b (n := n) (o := (fun t => t)) hs (fun t ht => ⟨(hbf (t) (by omega)).1, (hbf (t) (by omega)).2.1⟩) g (by omega)
    have b3 := m_mx_b (n := n) (o := (fun t => t)) hs (fun t ht => ⟨(hbf (t) (by omega)).1, (hbf (t) (by omega)).2.1⟩) g (by omega)
    have b4 := m_ld_b (n := n) (o := (fun t => t)) hs (fun t ht => ⟨(hbf (t) (by omega)).1, (hbf (t) (by omega)).2.1⟩) (g + 1) (by omega)
    refine e_st (pc := 11) q26_11 rfl rfl ?_
    refine e_st (pc := 13) q26_13 rfl rfl ?_
    refine e_getf (pc := 14) q26_14 hr rfl ?_
    refine e_cmp false (pc := 17) q26_17 ⟨by omega, by omega⟩ ⟨by omega, by omega⟩ (n_f_ge (by omega)) ?_
    refine e_st (pc := 20) q26_20 rfl rfl ?_
    refine e_if false (pc := 22) q26_22 ⟨by omega, by omega⟩ (n_f_eq (by omega)) ?_
    refine e_st (pc := 25) q26_25 rfl rfl ?_
    refine e_st (pc := 27) q26_27 rfl rfl ?_
    refine e_st (pc := 39) (L2 := [some (.ref d), some (.ref a), some (n_v li), some (n_v st), some (n_v 1), some (n_v (m_ld li st cf bf (fun t => t) g)), some (n_v ↑g), some (n_v ↑g)]) q26_39 rfl rfl ?_
    refine e_st (pc := 41) q26_41 rfl rfl ?_
    refine e_getf (pc := 42) q26_42 hd rfl ?_
    refine e_st (pc := 45) q26_45 rfl rfl ?_
    refine e_st (pc := 47) q26_47 rfl rfl ?_
    refine e_st (pc := 48) q26_48 rfl rfl ?_
    refine e_st (pc := 50) q26_50 rfl rfl ?_
    refine e_getf (pc := 51) q26_51 hr rfl ?_
    refine e_st (pc := 54) q26_54 rfl rfl ?_
    refine e_ald (pc := 56) (j := g) q26_56 hc (by omega) (by omega) (by omega) ?_
    refine e_st (pc := 57) q26_57 rfl rfl ?_
    refine e_getf (pc := 58) q26_58 hr rfl ?_
    refine e_st (pc := 61) q26_61 rfl rfl ?_
    refine e_ald (pc := 63) (j := g) q26_63 hb (by omega) (by omega) (by omega) ?_
    refine e_callS (pc := 64) (mz := c_m22) (L0 := [some (n_v li), some (n_v (m_ld li st cf bf (fun t => t) g)), some (n_v (cf g)), some (n_v (bf g))]) q26_64 rfl rfl rfl rfl rfl rfl rfl rfl rfl ?_
    refine s22 (by omega) (by omega) (by omega) (by omega) ?_
    refine e_k (pc := 64) ?_
    refine e_ast (pc := 67) (j := g) q26_67 hl (by omega) (by omega) (by omega) (fun h1 u1 => ?_)
    have hr := hr.up u1 (by omega)
    have hd := hd.up u1 (by omega)
    have hb := hb.up u1 (by omega)
    have hc := hc.up u1 (by omega)
    have hl : c_ar h1 l 60 (fun t => if t = g then (m_lb li (m_ld li st cf bf (fun t => t) g) (cf (g)) (bf (g))) else lf t) := u1.2.1
    refine e_st (pc := 68) q26_68 rfl rfl ?_
    refine e_st (pc := 70) q26_70 rfl rfl ?_
    refine e_getf (pc := 71) q26_71 hr rfl ?_
    refine e_st (pc := 74) q26_74 rfl rfl ?_
    refine e_ald (pc := 76) (j := g) q26_76 hb (by omega) (by omega) (by omega) ?_
    refine e_st (pc := 77) q26_77 rfl rfl ?_
    refine e_getf (pc := 78) q26_78 hd rfl ?_
    refine e_st (pc := 81) q26_81 rfl rfl ?_
    refine e_aldv (pc := 83) (j := g) (v := m_lb li (m_ld li st cf bf (fun t => t) g) (cf (g)) (bf (g))) q26_83 hl (by omega) (by omega) (by omega) (if_pos rfl) ?_
    refine e_sub (pc := 84) q26_84 ?_
    refine e_add (pc := 85) q26_85 ?_
    refine e_st (pc := 86) (L2 := [some (.ref d), some (.ref a), some (n_v li), some (n_v st), some (n_v 1), some (n_v (m_ld li st cf bf (fun t => t) (g + 1))), some (n_v ↑g), some (n_v ↑g)]) q26_86 rfl rfl ?_
    refine e_st (pc := 88) q26_88 rfl rfl ?_
    refine e_st (pc := 89) q26_89 rfl rfl ?_
    refine e_getf (pc := 90) q26_90 hd rfl ?_
    refine e_st (pc := 93) q26_93 rfl rfl ?_
    refine e_max (pc := 95) q26_95 ⟨by omega, by omega⟩ ⟨by omega, by omega⟩ (Nat.le_of_ble_eq_true rfl) ?_
    refine e_putf (pc := 98) (fs2 := [.ref l, n_v (m_mx li st cf bf (fun t => t) (g + 1))]) q26_98 hd (c_okv_i _) (Nat.le_of_ble_eq_true rfl) rfl (fun h2 u2 => ?_)
    have hr := hr.up u2 (by omega)
    have hb := hb.up u2 (by omega)
    have hc := hc.up u2 (by omega)
    have hl := hl.up u2 (by omega)
    have hd : c_ob h2 d 0 [.ref l, n_v (m_mx li st cf bf (fun t => t) (g + 1))] := u2.2.1
    refine e_inc (pc := 101) (L2 := [some (.ref d), some (.ref a), some (n_v li), some (n_v st), some (n_v 1), some (n_v (m_ld li st cf bf (fun t => t) (g + 1))), some (n_v (↑g + 1)), some (n_v ↑g)]) q26_101 rfl rfl ?_
    refine e_st (pc := 104) q26_104 rfl rfl ?_
    have hch2 : c_ch h h2 [d, l] := (hch.up u1 (by simp)).up u2 (by simp)
    exact s26fL hr0 hc0 hb0 hn hbf hs hli hne K m (g + 1) h2 _ _ (by omega) hch2 hl hd (fun t ht => by
      by_cases e2 : t = g
      · subst e2; exact if_pos rfl
      · have e3 : ¬ (t) = (g) := by omega
        simp only [if_neg e3]; exact hlf t (by omega))
theorem s26f {a b c d l n : Nat} {rg : Value} {li st : Int} {cf bf : Nat → Int} {mo : Value} {lf : Nat → Int} (hr : c_ob h a 6 [.ref c, .ref b, n_v ↑n, rg]) (hc : c_ar h c 60 cf) (hb : c_ar h b 60 bf) (hn : n ≤ 60) (hbf : ∀ t, t < n → 0 ≤ bf t ∧ bf t ≤ cf t ∧ cf t ≤ 4) (hs : 0 ≤ st ∧ st ≤ li) (hli : li ≤ 100) (hne : a ≠ d ∧ a ≠ l ∧ c ≠ d ∧ c ≠ l ∧ b ≠ d ∧ b ≠ l ∧ d ≠ l) (hl : c_ar h l 60 lf) (hd : c_ob h d 0 [.ref l, mo]) (K : ∀ (h2 : c_Hp) (lf2 : Nat → Int), c_ch h h2 [d, l] → c_ar h2 l 60 lf2 → c_ob h2 d 0 [.ref l, n_v (m_mx li st cf bf (fun t => t) n)] → (∀ g, g < n → lf2 (g) = m_lb li (m_ld li st cf bf (fun t => t) g) (cf (g)) (bf (g))) → Q (.inl (some (n_v (m_ld li st cf bf (fun t => t) n))), h2)) : c_Ev X 26 0 [some (.ref d), some (.ref a), some (n_v li), some (n_v st), some (n_v 1), none, none, none] [] h Q := by
  have hr0 := hr
  have hc0 := hc
  have hb0 := hb
  refine e_st (pc := 0) q26_0 rfl rfl ?_
  refine e_st (pc := 1) (L2 := [some (.ref d), some (.ref a), some (n_v li), some (n_v st), some (n_v 1), some (n_v st), none, none]) q26_1 rfl rfl ?_
  refine e_st (pc := 3) q26_3 rfl rfl ?_
  refine e_st (pc := 4) q26_4 rfl rfl ?_
  refine e_putf (pc := 5) (fs2 := [.ref l, n_v st]) q26_5 hd (c_okv_i _) (Nat.le_of_ble_eq_true rfl) rfl (fun h1 u1 => ?_)
  have hr := hr.up u1 (by omega)
  have hb := hb.up u1 (by omega)
  have hc := hc.up u1 (by omega)
  have hl := hl.up u1 (by omega)
  have hd : c_ob h1 d 0 [.ref l, n_v st] := u1.2.1
  refine e_cst (v := 0) (len := 1) (pc := 8) q26_8 rfl rfl rfl ?_
  refine e_st (pc := 9) (L2 := [some (.ref d), some (.ref a), some (n_v li), some (n_v st), some (n_v 1), some (n_v st), some (n_v 0), none]) q26_9 rfl rfl ?_
  exact s26fL hr0 hc0 hb0 hn hbf hs hli hne K n 0 h1 lf none (by omega) ((c_ch.rf h [d, l]).up u1 (by simp)) hl hd (fun t ht => by omega)
theorem s26bL {a b c d l n : Nat} {rg : Value} {li st : Int} {cf bf : Nat → Int} (hr : c_ob h a 6 [.ref c, .ref b, n_v ↑n, rg]) (hc : c_ar h c 60 cf) (hb : c_ar h b 60 bf) (hn : n ≤ 60) (hbf : ∀ t, t < n → 0 ≤ bf t ∧ bf t ≤ cf t ∧ cf t ≤ 4) (hs : 0 ≤ st ∧ st ≤ li) (hli : li ≤ 100) (hne : a ≠ d ∧ a ≠ l ∧ c ≠ d ∧ c ≠ l ∧ b ≠ d ∧ b ≠ l ∧ d ≠ l) (K : ∀ (h2 : c_Hp) (lf2 : Nat → Int), c_ch h h2 [d, l] → c_ar h2 l 60 lf2 → c_ob h2 d 0 [.ref l, n_v (m_mx li st cf bf (fun t => n - 1 - t) n)] → (∀ g, g < n → lf2 (n - 1 - g) = m_lb li (m_ld li st cf bf (fun t => n - 1 - t) g) (cf (n - 1 - g)) (bf (n - 1 - g))) → Q (.inl (some (n_v (m_ld li st cf bf (fun t => n - 1 - t) n))), h2)) :
  ∀ (m g : Nat) (h1 : c_Hp) (lf : Nat → Int) (x7 : Option Value), g + m = n → c_ch h h1 [d, l] → c_ar h1 l 60 lf → c_ob h1 d 0 [.ref l, n_v (m_mx li st cf bf (fun t => n - 1 - t) g)] → (∀ t, t < g → lf (n - 1 - t) = m_lb li (m_ld li st cf bf (fun t => n - 1 - t) t) (cf (n - 1 - t)) (bf (n - 1 - t))) →
  c_Ev X 26 11 [some (.ref d), some (.ref a), some (n_v li), some (n_v st), some (n_v 0), some (n_v (m_ld li st cf bf (fun t => n - 1 - t) g)), some (n_v ↑g), x7] [] h1 Q
  | 0, g, h1, lf, x7, e, hch, hl, hd, hlf => by
    have hr0 := hr
    have hc0 := hc
    have hb0 := hb
    have hr := hr.ch hch (by simp; omega)
    have hc := hc.ch hch (by simp; omega)
    have hb := hb.ch hch (by simp; omega)
    refine e_st (pc := 11) q26_11 rfl rfl ?_
    refine e_st (pc := 13) q26_13 rfl rfl ?_
    refine e_getf (pc := 14) q26_14 hr rfl ?_
    refine e_cmp true (pc := 17) q26_17 ⟨by omega, by omega⟩ ⟨by omega, by omega⟩ (n_t_ge (by omega)) ?_
    refine e_st (pc := 107) q26_107 rfl rfl ?_
    refine e_iret (pc := 109) q26_109 rfl rfl rfl rfl ?_
    have e2 : g = n := by omega
    subst e2
    exact K h1 lf hch hl hd hlf
  | m + 1, g, h1, lf, x7, e, hch, hl, hd, hlf => by
    have hr0 := hr
    have hc0 := hc
    have hb0 := hb
    have hr := hr.ch hch (by simp; omega)
    have hc := hc.ch hch (by simp; omega)
    have hb := hb.ch hch (by simp; omega)
    have b1 := hbf (n - 1 - g) (by omega)
    have b2 := m_ld_b (n := n) (o := (fun t => n - 1 - t)) hs (fun t ht => ⟨(hbf (n - 1 - t) (by omega)).1, (hbf (n - 1 - t) (by omega)).2.1⟩) g (by omega)
    have b3 := m_mx_b (n := n) (o := (fun t => n - 1 - t)) hs (fun t ht => ⟨(hbf (n - 1 - t) (by omega)).1, (hbf (n - 1 - t) (by omega)).2.1⟩) g (by omega)
    have b4 := m_ld_b (n := n) (o := (fun t => n - 1 - t)) hs (fun t ht => ⟨(hbf (n - 1 - t) (by omega)).1, (hbf (n - 1 - t) (by omega)).2.1⟩) (g + 1) (by omega)
    refine e_st (pc := 11) q26_11 rfl rfl ?_
    refine e_st (pc := 13) q26_13 rfl rfl ?_
    refine e_getf (pc := 14) q26_14 hr rfl ?_
    refine e_cmp false (pc := 17) q26_17 ⟨by omega, by omega⟩ ⟨by omega, by omega⟩ (n_f_ge (by omega)) ?_
    refine e_st (pc := 20) q26_20 rfl rfl ?_
    refine e_if true (pc := 22) q26_22 ⟨by omega, by omega⟩ (n_t_eq (by omega)) ?_
    refine e_st (pc := 30) q26_30 rfl rfl ?_
    refine e_getf (pc := 31) q26_31 hr rfl ?_
    refine e_cst (v := 1) (len := 1) (pc := 34) q26_34 rfl rfl rfl ?_
    refine e_sub (pc := 35) q26_35 ?_
    refine e_st (pc := 36) q26_36 rfl rfl ?_
    refine e_sub (pc := 38) q26_38 ?_
    refine e_st (pc := 39) (L2 := [some (.ref d), some (.ref a), some (n_v li), some (n_v st), some (n_v 0), some (n_v (m_ld li st cf bf (fun t => n - 1 - t) g)), some (n_v ↑g), some (n_v ((↑n - 1) - ↑g))]) q26_39 rfl rfl ?_
    refine e_st (pc := 41) q26_41 rfl rfl ?_
    refine e_getf (pc := 42) q26_42 hd rfl ?_
    refine e_st (pc := 45) q26_45 rfl rfl ?_
    refine e_st (pc := 47) q26_47 rfl rfl ?_
    refine e_st (pc := 48) q26_48 rfl rfl ?_
    refine e_st (pc := 50) q26_50 rfl rfl ?_
    refine e_getf (pc := 51) q26_51 hr rfl ?_
    refine e_st (pc := 54) q26_54 rfl rfl ?_
    refine e_ald (pc := 56) (j := n - 1 - g) q26_56 hc (by omega) (by omega) (by omega) ?_
    refine e_st (pc := 57) q26_57 rfl rfl ?_
    refine e_getf (pc := 58) q26_58 hr rfl ?_
    refine e_st (pc := 61) q26_61 rfl rfl ?_
    refine e_ald (pc := 63) (j := n - 1 - g) q26_63 hb (by omega) (by omega) (by omega) ?_
    refine e_callS (pc := 64) (mz := c_m22) (L0 := [some (n_v li), some (n_v (m_ld li st cf bf (fun t => n - 1 - t) g)), some (n_v (cf (n - 1 - g))), some (n_v (bf (n - 1 - g)))]) q26_64 rfl rfl rfl rfl rfl rfl rfl rfl rfl ?_
    refine s22 (by omega) (by omega) (by omega) (by omega) ?_
    refine e_k (pc := 64) ?_
    refine e_ast (pc := 67) (j := n - 1 - g) q26_67 hl (by omega) (by omega) (by omega) (fun h1 u1 => ?_)
    have hr := hr.up u1 (by omega)
    have hd := hd.up u1 (by omega)
    have hb := hb.up u1 (by omega)
    have hc := hc.up u1 (by omega)
    have hl : c_ar h1 l 60 (fun t => if t = n - 1 - g then (m_lb li (m_ld li st cf bf (fun t => n - 1 - t) g) (cf (n - 1 - g)) (bf (n - 1 - g))) else lf t) := u1.2.1
    refine e_st (pc := 68) q26_68 rfl rfl ?_
    refine e_st (pc := 70) q26_70 rfl rfl ?_
    refine e_getf (pc := 71) q26_71 hr rfl ?_
    refine e_st (pc := 74) q26_74 rfl rfl ?_
    refine e_ald (pc := 76) (j := n - 1 - g) q26_76 hb (by omega) (by omega) (by omega) ?_
    refine e_st (pc := 77) q26_77 rfl rfl ?_
    refine e_getf (pc := 78) q26_78 hd rfl ?_
    refine e_st (pc := 81) q26_81 rfl rfl ?_
    refine e_aldv (pc := 83) (j := n - 1 - g) (v := m_lb li (m_ld li st cf bf (fun t => n - 1 - t) g) (cf (n - 1 - g)) (bf (n - 1 - g))) q26_83 hl (by omega) (by omega) (by omega) (if_pos rfl) ?_
    refine e_sub (pc := 84) q26_84 ?_
    refine e_add (pc := 85) q26_85 ?_
    refine e_st (pc := 86) (L2 := [some (.ref d), some (.ref a), some (n_v li), some (n_v st), some (n_v 0), some (n_v (m_ld li st cf bf (fun t => n - 1 - t) (g + 1))), some (n_v ↑g), some (n_v ((↑n - 1) - ↑g))]) q26_86 rfl rfl ?_
    refine e_st (pc := 88) q26_88 rfl rfl ?_
    refine e_st (pc := 89) q26_89 rfl rfl ?_
    refine e_getf (pc := 90) q26_90 hd rfl ?_
    refine e_st (pc := 93) q26_93 rfl rfl ?_
    refine e_max (pc := 95) q26_95 ⟨by omega, by omega⟩ ⟨by omega, by omega⟩ (Nat.le_of_ble_eq_true rfl) ?_
    refine e_putf (pc := 98) (fs2 := [.ref l, n_v (m_mx li st cf bf (fun t => n - 1 - t) (g + 1))]) q26_98 hd (c_okv_i _) (Nat.le_of_ble_eq_true rfl) rfl (fun h2 u2 => ?_)
    have hr := hr.up u2 (by omega)
    have hb := hb.up u2 (by omega)
    have hc := hc.up u2 (by omega)
    have hl := hl.up u2 (by omega)
    have hd : c_ob h2 d 0 [.ref l, n_v (m_mx li st cf bf (fun t => n - 1 - t) (g + 1))] := u2.2.1
    refine e_inc (pc := 101) (L2 := [some (.ref d), some (.ref a), some (n_v li), some (n_v st), some (n_v 0), some (n_v (m_ld li st cf bf (fun t => n - 1 - t) (g + 1))), some (n_v (↑g + 1)), some (n_v ((↑n - 1) - ↑g))]) q26_101 rfl rfl ?_
    refine e_st (pc := 104) q26_104 rfl rfl ?_
    have hch2 : c_ch h h2 [d, l] := (hch.up u1 (by simp)).up u2 (by simp)
    exact s26bL hr0 hc0 hb0 hn hbf hs hli hne K m (g + 1) h2 _ _ (by omega) hch2 hl hd (fun t ht => by
      by_cases e2 : t = g
      · subst e2; exact if_pos rfl
      · have e3 : ¬ (n - 1 - t) = (n - 1 - g) := by omega
        simp only [if_neg e3]; exact hlf t (by omega))
theorem s26b {a b c d l n : Nat} {rg : Value} {li st : Int} {cf bf : Nat → Int} {mo : Value} {lf : Nat → Int} (hr : c_ob h a 6 [.ref c, .ref b, n_v ↑n, rg]) (hc : c_ar h c 60 cf) (hb : c_ar h b 60 bf) (hn : n ≤ 60) (hbf : ∀ t, t < n → 0 ≤ bf t ∧ bf t ≤ cf t ∧ cf t ≤ 4) (hs : 0 ≤ st ∧ st ≤ li) (hli : li ≤ 100) (hne : a ≠ d ∧ a ≠ l ∧ c ≠ d ∧ c ≠ l ∧ b ≠ d ∧ b ≠ l ∧ d ≠ l) (hl : c_ar h l 60 lf) (hd : c_ob h d 0 [.ref l, mo]) (K : ∀ (h2 : c_Hp) (lf2 : Nat → Int), c_ch h h2 [d, l] → c_ar h2 l 60 lf2 → c_ob h2 d 0 [.ref l, n_v (m_mx li st cf bf (fun t => n - 1 - t) n)] → (∀ g, g < n → lf2 (n - 1 - g) = m_lb li (m_ld li st cf bf (fun t => n - 1 - t) g) (cf (n - 1 - g)) (bf (n - 1 - g))) → Q (.inl (some (n_v (m_ld li st cf bf (fun t => n - 1 - t) n))), h2)) : c_Ev X 26 0 [some (.ref d), some (.ref a), some (n_v li), some (n_v st), some (n_v 0), none, none, none] [] h Q := by
  have hr0 := hr
  have hc0 := hc
  have hb0 := hb
  refine e_st (pc := 0) q26_0 rfl rfl ?_
  refine e_st (pc := 1) (L2 := [some (.ref d), some (.ref a), some (n_v li), some (n_v st), some (n_v 0), some (n_v st), none, none]) q26_1 rfl rfl ?_
  refine e_st (pc := 3) q26_3 rfl rfl ?_
  refine e_st (pc := 4) q26_4 rfl rfl ?_
  refine e_putf (pc := 5) (fs2 := [.ref l, n_v st]) q26_5 hd (c_okv_i _) (Nat.le_of_ble_eq_true rfl) rfl (fun h1 u1 => ?_)
  have hr := hr.up u1 (by omega)
  have hb := hb.up u1 (by omega)
  have hc := hc.up u1 (by omega)
  have hl := hl.up u1 (by omega)
  have hd : c_ob h1 d 0 [.ref l, n_v st] := u1.2.1
  refine e_cst (v := 0) (len := 1) (pc := 8) q26_8 rfl rfl rfl ?_
  refine e_st (pc := 9) (L2 := [some (.ref d), some (.ref a), some (n_v li), some (n_v st), some (n_v 0), some (n_v st), some (n_v 0), none]) q26_9 rfl rfl ?_
  exact s26bL hr0 hc0 hb0 hn hbf hs hli hne K n 0 h1 lf none (by omega) ((c_ch.rf h [d, l]).up u1 (by simp)) hl hd (fun t ht => by omega)
end Ms
end
section
/-! Whether a carrier passes, and what it picks up. -/
section Ms
variable {X : List Int32} {h : c_Hp} {Q : c_O × c_Hp → Prop}
theorem s25f0 {a b c d l n : Nat} {li : Int} {mo : Value} {lf cf bf : Nat → Int} (hr : c_ob h a 6 [.ref c, .ref b, n_v ↑n, n_v 0]) (hc : c_ar h c 60 cf) (hb : c_ar h b 60 bf) (hl : c_ar h l 60 lf) (hd : c_ob h d 0 [.ref l, mo]) (hn : n ≤ 60) (hbf : ∀ t, t < n → 0 ≤ bf t ∧ bf t ≤ cf t ∧ cf t ≤ 4) (hli : 0 ≤ li ∧ li ≤ 100) (hne : a ≠ d ∧ a ≠ l ∧ c ≠ d ∧ c ≠ l ∧ b ≠ d ∧ b ≠ l ∧ d ≠ l) (K : ∀ (h2 : c_Hp) (lf2 : Nat → Int), c_ch h h2 [d, l] → c_ar h2 l 60 lf2 → c_ob h2 d 0 [.ref l, n_v (m_mx li 0 cf bf (fun t => t) n)] → (∀ g, g < n → lf2 (g) = m_lb li (m_ld li 0 cf bf (fun t => t) g) (cf (g)) (bf (g))) → Q (.inl (some (n_v (if m_ld li 0 cf bf (fun t => t) n = 0 then 1 else 0))), h2)) : c_Ev X 25 0 [some (.ref d), some (.ref a), some (n_v li), some (n_v 1), none] [] h Q := by
  have hr0 := hr
  have hc0 := hc
  have hb0 := hb
  have hs : (0 : Int) ≤ 0 ∧ 0 ≤ li := ⟨by omega, by omega⟩
  have hst := m_ld_b (n := n) (o := (fun t => t)) hs (fun t ht => ⟨(hbf (t) (by omega)).1, (hbf (t) (by omega)).2.1⟩) n (by omega)
  refine e_st (pc := 0) q25_0 rfl rfl ?_
  refine e_getf (pc := 1) q25_1 hr rfl ?_
  refine e_if true (pc := 4) q25_4 ⟨by omega, by omega⟩ (n_t_eq (by omega)) ?_
  refine e_cst (v := 0) (len := 1) (pc := 18) q25_18 rfl rfl rfl ?_
  refine e_st (pc := 19) (L2 := [some (.ref d), some (.ref a), some (n_v li), some (n_v 1), some (n_v 0)]) q25_19 rfl rfl ?_
  refine e_st (pc := 21) q25_21 rfl rfl ?_
  refine e_st (pc := 22) q25_22 rfl rfl ?_
  refine e_st (pc := 23) q25_23 rfl rfl ?_
  refine e_st (pc := 24) q25_24 rfl rfl ?_
  refine e_st (pc := 26) q25_26 rfl rfl ?_
  refine e_callV (pc := 27) (mz := c_m26) (a := d) (L0 := [some (.ref d), some (.ref a), some (n_v li), some (n_v 0), some (n_v 1), none, none, none]) q25_27 rfl rfl rfl rfl rfl rfl rfl hd rfl rfl ?_
  refine s26f hr hc hb hn hbf hs (by omega) hne hl hd (fun h1 lf1 h1c hl hd hlf => ?_)
  refine e_k (pc := 27) ?_
  have hr := hr.ch h1c (by simp; omega)
  have hc := hc.ch h1c (by simp; omega)
  have hb := hb.ch h1c (by simp; omega)
  refine e_st (pc := 30) q25_30 rfl rfl ?_
  by_cases hcc : m_ld li 0 cf bf (fun t => t) n = 0
  · refine e_cmp false (pc := 32) q25_32 ⟨by omega, by omega⟩ ⟨by omega, by omega⟩ (n_f_ne (by omega)) ?_
    refine e_cst (v := 1) (len := 1) (pc := 35) q25_35 rfl rfl rfl ?_
    refine e_st (pc := 36) q25_36 rfl rfl ?_
    refine e_iret (pc := 40) q25_40 rfl rfl rfl (by decide +kernel) ?_
    have K2 := K h1 lf1 h1c hl hd hlf
    rw [if_pos hcc] at K2
    exact K2
  · refine e_cmp true (pc := 32) q25_32 ⟨by omega, by omega⟩ ⟨by omega, by omega⟩ (n_t_ne (by omega)) ?_
    refine e_cst (v := 0) (len := 1) (pc := 39) q25_39 rfl rfl rfl ?_
    refine e_iret (pc := 40) q25_40 rfl rfl rfl (by decide +kernel) ?_
    have K2 := K h1 lf1 h1c hl hd hlf
    rw [if_neg hcc] at K2
    exact K2
theorem s25f1 {a b c d l n : Nat} {li : Int} {mo : Value} {lf cf bf : Nat → Int} (hr : c_ob h a 6 [.ref c, .ref b, n_v ↑n, n_v 1]) (hc : c_ar h c 60 cf) (hb : c_ar h b 60 bf) (hl : c_ar h l 60 lf) (hd : c_ob h d 0 [.ref l, mo]) (hn : n ≤ 60) (hbf : ∀ t, t < n → 0 ≤ bf t ∧ bf t ≤ cf t ∧ cf t ≤ 4) (hli : 0 ≤ li ∧ li ≤ 100) (hne : a ≠ d ∧ a ≠ l ∧ c ≠ d ∧ c ≠ l ∧ b ≠ d ∧ b ≠ l ∧ d ≠ l) (K : ∀ (h2 : c_Hp) (lf2 : Nat → Int), c_ch h h2 [d, l] → c_ar h2 l 60 lf2 → c_ob h2 d 0 [.ref l, n_v (m_mx li (m_ld li 0 cf bf (fun t => t) n) cf bf (fun t => t) n)] → (∀ g, g < n → lf2 (g) = m_lb li (m_ld li (m_ld li 0 cf bf (fun t => t) n) cf bf (fun t => t) g) (cf (g)) (bf (g))) → Q (.inl (some (n_v (if m_ld li (m_ld li 0 cf bf (fun t => t) n) cf bf (fun t => t) n = m_ld li 0 cf bf (fun t => t) n then 1 else 0))), h2)) : c_Ev X 25 0 [some (.ref d), some (.ref a), some (n_v li), some (n_v 1), none] [] h Q := by
  have hr0 := hr
  have hc0 := hc
  have hb0 := hb
  have hs : (0 : Int) ≤ 0 ∧ 0 ≤ li := ⟨by omega, by omega⟩
  have hst := m_ld_b (n := n) (o := (fun t => t)) hs (fun t ht => ⟨(hbf (t) (by omega)).1, (hbf (t) (by omega)).2.1⟩) n (by omega)
  refine e_st (pc := 0) q25_0 rfl rfl ?_
  refine e_getf (pc := 1) q25_1 hr rfl ?_
  refine e_if false (pc := 4) q25_4 ⟨by omega, by omega⟩ (n_f_eq (by omega)) ?_
  refine e_st (pc := 7) q25_7 rfl rfl ?_
  refine e_st (pc := 8) q25_8 rfl rfl ?_
  refine e_st (pc := 9) q25_9 rfl rfl ?_
  refine e_cst (v := 0) (len := 1) (pc := 10) q25_10 rfl rfl rfl ?_
  refine e_st (pc := 11) q25_11 rfl rfl ?_
  refine e_callV (pc := 12) (mz := c_m26) (a := d) (L0 := [some (.ref d), some (.ref a), some (n_v li), some (n_v 0), some (n_v 1), none, none, none]) q25_12 rfl rfl rfl rfl rfl rfl rfl hd rfl rfl ?_
  refine s26f hr hc hb hn hbf hs (by omega) hne hl hd (fun h1 lf1 h1c hl hd hlf1 => ?_)
  refine e_k (pc := 12) ?_
  have hr := hr.ch h1c (by simp; omega)
  have hc := hc.ch h1c (by simp; omega)
  have hb := hb.ch h1c (by simp; omega)
  refine e_st (pc := 15) q25_15 rfl rfl ?_
  refine e_st (pc := 19) (L2 := [some (.ref d), some (.ref a), some (n_v li), some (n_v 1), some (n_v (m_ld li 0 cf bf (fun t => t) n))]) q25_19 rfl rfl ?_
  refine e_st (pc := 21) q25_21 rfl rfl ?_
  refine e_st (pc := 22) q25_22 rfl rfl ?_
  refine e_st (pc := 23) q25_23 rfl rfl ?_
  refine e_st (pc := 24) q25_24 rfl rfl ?_
  refine e_st (pc := 26) q25_26 rfl rfl ?_
  have hst2 := m_ld_b (n := n) (o := (fun t => t)) hst (fun t ht => ⟨(hbf (t) (by omega)).1, (hbf (t) (by omega)).2.1⟩) n (by omega)
  refine e_callV (pc := 27) (mz := c_m26) (a := d) (L0 := [some (.ref d), some (.ref a), some (n_v li), some (n_v (m_ld li 0 cf bf (fun t => t) n)), some (n_v 1), none, none, none]) q25_27 rfl rfl rfl rfl rfl rfl rfl hd rfl rfl ?_
  refine s26f hr hc hb hn hbf hst (by omega) hne hl hd (fun h2 lf2 h2c hl hd hlf => ?_)
  refine e_k (pc := 27) ?_
  have hr := hr.ch h2c (by simp; omega)
  have hc := hc.ch h2c (by simp; omega)
  have hb := hb.ch h2c (by simp; omega)
  refine e_st (pc := 30) q25_30 rfl rfl ?_
  by_cases hcc : m_ld li (m_ld li 0 cf bf (fun t => t) n) cf bf (fun t => t) n = m_ld li 0 cf bf (fun t => t) n
  · refine e_cmp false (pc := 32) q25_32 ⟨by omega, by omega⟩ ⟨by omega, by omega⟩ (n_f_ne (by omega)) ?_
    refine e_cst (v := 1) (len := 1) (pc := 35) q25_35 rfl rfl rfl ?_
    refine e_st (pc := 36) q25_36 rfl rfl ?_
    refine e_iret (pc := 40) q25_40 rfl rfl rfl (by decide +kernel) ?_
    have K2 := K h2 lf2 (h1c.tr h2c) hl hd hlf
    rw [if_pos hcc] at K2
    exact K2
  · refine e_cmp true (pc := 32) q25_32 ⟨by omega, by omega⟩ ⟨by omega, by omega⟩ (n_t_ne (by omega)) ?_
    refine e_cst (v := 0) (len := 1) (pc := 39) q25_39 rfl rfl rfl ?_
    refine e_iret (pc := 40) q25_40 rfl rfl rfl (by decide +kernel) ?_
    have K2 := K h2 lf2 (h1c.tr h2c) hl hd hlf
    rw [if_neg hcc] at K2
    exact K2
theorem s25b0 {a b c d l n : Nat} {li : Int} {mo : Value} {lf cf bf : Nat → Int} (hr : c_ob h a 6 [.ref c, .ref b, n_v ↑n, n_v 0]) (hc : c_ar h c 60 cf) (hb : c_ar h b 60 bf) (hl : c_ar h l 60 lf) (hd : c_ob h d 0 [.ref l, mo]) (hn : n ≤ 60) (hbf : ∀ t, t < n → 0 ≤ bf t ∧ bf t ≤ cf t ∧ cf t ≤ 4) (hli : 0 ≤ li ∧ li ≤ 100) (hne : a ≠ d ∧ a ≠ l ∧ c ≠ d ∧ c ≠ l ∧ b ≠ d ∧ b ≠ l ∧ d ≠ l) (K : ∀ (h2 : c_Hp) (lf2 : Nat → Int), c_ch h h2 [d, l] → c_ar h2 l 60 lf2 → c_ob h2 d 0 [.ref l, n_v (m_mx li 0 cf bf (fun t => n - 1 - t) n)] → (∀ g, g < n → lf2 (n - 1 - g) = m_lb li (m_ld li 0 cf bf (fun t => n - 1 - t) g) (cf (n - 1 - g)) (bf (n - 1 - g))) → Q (.inl (some (n_v (if m_ld li 0 cf bf (fun t => n - 1 - t) n = 0 then 1 else 0))), h2)) : c_Ev X 25 0 [some (.ref d), some (.ref a), some (n_v li), some (n_v 0), none] [] h Q := by
  have hr0 := hr
  have hc0 := hc
  have hb0 := hb
  have hs : (0 : Int) ≤ 0 ∧ 0 ≤ li := ⟨by omega, by omega⟩
  have hst := m_ld_b (n := n) (o := (fun t => n - 1 - t)) hs (fun t ht => ⟨(hbf (n - 1 - t) (by omega)).1, (hbf (n - 1 - t) (by omega)).2.1⟩) n (by omega)
  refine e_st (pc := 0) q25_0 rfl rfl ?_
  refine e_getf (pc := 1) q25_1 hr rfl ?_
  refine e_if true (pc := 4) q25_4 ⟨by omega, by omega⟩ (n_t_eq (by omega)) ?_
  refine e_cst (v := 0) (len := 1) (pc := 18) q25_18 rfl rfl rfl ?_
  refine e_st (pc := 19) (L2 := [some (.ref d), some (.ref a), some (n_v li), some (n_v 0), some (n_v 0)]) q25_19 rfl rfl ?_
  refine e_st (pc := 21) q25_21 rfl rfl ?_
  refine e_st (pc := 22) q25_22 rfl rfl ?_
  refine e_st (pc := 23) q25_23 rfl rfl ?_
  refine e_st (pc := 24) q25_24 rfl rfl ?_
  refine e_st (pc := 26) q25_26 rfl rfl ?_
  refine e_callV (pc := 27) (mz := c_m26) (a := d) (L0 := [some (.ref d), some (.ref a), some (n_v li), some (n_v 0), some (n_v 0), none, none, none]) q25_27 rfl rfl rfl rfl rfl rfl rfl hd rfl rfl ?_
  refine s26b hr hc hb hn hbf hs (by omega) hne hl hd (fun h1 lf1 h1c hl hd hlf => ?_)
  refine e_k (pc := 27) ?_
  have hr := hr.ch h1c (by simp; omega)
  have hc := hc.ch h1c (by simp; omega)
  have hb := hb.ch h1c (by simp; omega)
  refine e_st (pc := 30) q25_30 rfl rfl ?_
  by_cases hcc : m_ld li 0 cf bf (fun t => n - 1 - t) n = 0
  · refine e_cmp false (pc := 32) q25_32 ⟨by omega, by omega⟩ ⟨by omega, by omega⟩ (n_f_ne (by omega)) ?_
    refine e_cst (v := 1) (len := 1) (pc := 35) q25_35 rfl rfl rfl ?_
    refine e_st (pc := 36) q25_36 rfl rfl ?_
    refine e_iret (pc := 40) q25_40 rfl rfl rfl (by decide +kernel) ?_
    have K2 := K h1 lf1 h1c hl hd hlf
    rw [if_pos hcc] at K2
    exact K2
  · refine e_cmp true (pc := 32) q25_32 ⟨by omega, by omega⟩ ⟨by omega, by omega⟩ (n_t_ne (by omega)) ?_
    refine e_cst (v := 0) (len := 1) (pc := 39) q25_39 rfl rfl rfl ?_
    refine e_iret (pc := 40) q25_40 rfl rfl rfl (by decide +kernel) ?_
    have K2 := K h1 lf1 h1c hl hd hlf
    rw [if_neg hcc] at K2
    exact K2
theorem s25b1 {a b c d l n : Nat} {li : Int} {mo : Value} {lf cf bf : Nat → Int} (hr : c_ob h a 6 [.ref c, .ref b, n_v ↑n, n_v 1]) (hc : c_ar h c 60 cf) (hb : c_ar h b 60 bf) (hl : c_ar h l 60 lf) (hd : c_ob h d 0 [.ref l, mo]) (hn : n ≤ 60) (hbf : ∀ t, t < n → 0 ≤ bf t ∧ bf t ≤ cf t ∧ cf t ≤ 4) (hli : 0 ≤ li ∧ li ≤ 100) (hne : a ≠ d ∧ a ≠ l ∧ c ≠ d ∧ c ≠ l ∧ b ≠ d ∧ b ≠ l ∧ d ≠ l) (K : ∀ (h2 : c_Hp) (lf2 : Nat → Int), c_ch h h2 [d, l] → c_ar h2 l 60 lf2 → c_ob h2 d 0 [.ref l, n_v (m_mx li (m_ld li 0 cf bf (fun t => n - 1 - t) n) cf bf (fun t => n - 1 - t) n)] → (∀ g, g < n → lf2 (n - 1 - g) = m_lb li (m_ld li (m_ld li 0 cf bf (fun t => n - 1 - t) n) cf bf (fun t => n - 1 - t) g) (cf (n - 1 - g)) (bf (n - 1 - g))) → Q (.inl (some (n_v (if m_ld li (m_ld li 0 cf bf (fun t => n - 1 - t) n) cf bf (fun t => n - 1 - t) n = m_ld li 0 cf bf (fun t => n - 1 - t) n then 1 else 0))), h2)) : c_Ev X 25 0 [some (.ref d), some (.ref a), some (n_v li), some (n_v 0), none] [] h Q := by
  have hr0 := hr
  have hc0 := hc
  have hb0 := hb
  have hs : (0 : Int) ≤ 0 ∧ 0 ≤ li := ⟨by omega, by omega⟩
  have hst := m_ld_b (n := n) (o := (fun t => n - 1 - t)) hs (fun t ht => ⟨(hbf (n - 1 - t) (by omega)).1, (hbf (n - 1 - t) (by omega)).2.1⟩) n (by omega)
  refine e_st (pc := 0) q25_0 rfl rfl ?_
  refine e_getf (pc := 1) q25_1 hr rfl ?_
  refine e_if false (pc := 4) q25_4 ⟨by omega, by omega⟩ (n_f_eq (by omega)) ?_
  refine e_st (pc := 7) q25_7 rfl rfl ?_
  refine e_st (pc := 8) q25_8 rfl rfl ?_
  refine e_st (pc := 9) q25_9 rfl rfl ?_
  refine e_cst (v := 0) (len := 1) (pc := 10) q25_10 rfl rfl rfl ?_
  refine e_st (pc := 11) q25_11 rfl rfl ?_
  refine e_callV (pc := 12) (mz := c_m26) (a := d) (L0 := [some (.ref d), some (.ref a), some (n_v li), some (n_v 0), some (n_v 0), none, none, none]) q25_12 rfl rfl rfl rfl rfl rfl rfl hd rfl rfl ?_
  refine s26b hr hc hb hn hbf hs (by omega) hne hl hd (fun h1 lf1 h1c hl hd hlf1 => ?_)
  refine e_k (pc := 12) ?_
  have hr := hr.ch h1c (by simp; omega)
  have hc := hc.ch h1c (by simp; omega)
  have hb := hb.ch h1c (by simp; omega)
  refine e_st (pc := 15) q25_15 rfl rfl ?_
  refine e_st (pc := 19) (L2 := [some (.ref d), some (.ref a), some (n_v li), some (n_v 0), some (n_v (m_ld li 0 cf bf (fun t => n - 1 - t) n))]) q25_19 rfl rfl ?_
  refine e_st (pc := 21) q25_21 rfl rfl ?_
  refine e_st (pc := 22) q25_22 rfl rfl ?_
  refine e_st (pc := 23) q25_23 rfl rfl ?_
  refine e_st (pc := 24) q25_24 rfl rfl ?_
  refine e_st (pc := 26) q25_26 rfl rfl ?_
  have hst2 := m_ld_b (n := n) (o := (fun t => n - 1 - t)) hst (fun t ht => ⟨(hbf (n - 1 - t) (by omega)).1, (hbf (n - 1 - t) (by omega)).2.1⟩) n (by omega)
  refine e_callV (pc := 27) (mz := c_m26) (a := d) (L0 := [some (.ref d), some (.ref a), some (n_v li), some (n_v (m_ld li 0 cf bf (fun t => n - 1 - t) n)), some (n_v 0), none, none, none]) q25_27 rfl rfl rfl rfl rfl rfl rfl hd rfl rfl ?_
  refine s26b hr hc hb hn hbf hst (by omega) hne hl hd (fun h2 lf2 h2c hl hd hlf => ?_)
  refine e_k (pc := 27) ?_
  have hr := hr.ch h2c (by simp; omega)
  have hc := hc.ch h2c (by simp; omega)
  have hb := hb.ch h2c (by simp; omega)
  refine e_st (pc := 30) q25_30 rfl rfl ?_
  by_cases hcc : m_ld li (m_ld li 0 cf bf (fun t => n - 1 - t) n) cf bf (fun t => n - 1 - t) n = m_ld li 0 cf bf (fun t => n - 1 - t) n
  · refine e_cmp false (pc := 32) q25_32 ⟨by omega, by omega⟩ ⟨by omega, by omega⟩ (n_f_ne (by omega)) ?_
    refine e_cst (v := 1) (len := 1) (pc := 35) q25_35 rfl rfl rfl ?_
    refine e_st (pc := 36) q25_36 rfl rfl ?_
    refine e_iret (pc := 40) q25_40 rfl rfl rfl (by decide +kernel) ?_
    have K2 := K h2 lf2 (h1c.tr h2c) hl hd hlf
    rw [if_pos hcc] at K2
    exact K2
  · refine e_cmp true (pc := 32) q25_32 ⟨by omega, by omega⟩ ⟨by omega, by omega⟩ (n_t_ne (by omega)) ?_
    refine e_cst (v := 0) (len := 1) (pc := 39) q25_39 rfl rfl rfl ?_
    refine e_iret (pc := 40) q25_40 rfl rfl rfl (by decide +kernel) ?_
    have K2 := K h2 lf2 (h1c.tr h2c) hl hd hlf
    rw [if_neg hcc] at K2
    exact K2
theorem s27L {a b c d l n : Nat} {rg : Value} {li : Int} {cf bf : Nat → Int} {mo : Value} {lf : Nat → Int} (hr : c_ob h a 6 [.ref c, .ref b, n_v ↑n, rg]) (hb : c_ar h b 60 bf) (hl : c_ar h l 60 lf) (hd : c_ob h d 0 [.ref l, mo]) (hn : n ≤ 60) (hbf : ∀ t, t < n → 0 ≤ bf t ∧ bf t ≤ cf t ∧ cf t ≤ 4) (hlf : ∀ t, t < n → lf t = m_lb li (m_ld li 0 cf bf (fun t => t) t) (cf t) (bf t) ∧ 0 ≤ lf t ∧ lf t ≤ 200) (K : Q (.inl (some (n_v (m_cnt n (fun t => decide (0 < bf t) && decide (m_lb li (m_ld li 0 cf bf (fun t => t) t) (cf t) (bf t) = 0))))), h)) : ∀ (m i : Nat), i + m = n → c_Ev X 27 14 [some (.ref d), some (.ref a), some (n_v li), some (n_v (m_cnt i (fun t => decide (0 < bf t) && decide (m_lb li (m_ld li 0 cf bf (fun t => t) t) (cf t) (bf t) = 0)))), some (n_v ↑i)] [] h Q
  | 0, i, e => by
    refine e_st (pc := 14) q27_14 rfl rfl ?_
    refine e_st (pc := 16) q27_16 rfl rfl ?_
    refine e_getf (pc := 17) q27_17 hr rfl ?_
    refine e_cmp true (pc := 20) q27_20 ⟨by omega, by omega⟩ ⟨by omega, by omega⟩ (n_t_ge (by omega)) ?_
    refine e_st (pc := 52) q27_52 rfl rfl ?_
    refine e_iret (pc := 53) q27_53 rfl rfl rfl rfl ?_
    rw [show i = n by omega]
    exact K
  | m + 1, i, e => by
    have b1 := hbf i (by omega)
    have b2 := hlf i (by omega)
    have ih := s27L hr hb hl hd hn hbf hlf K m (i + 1) (by omega)
    by_cases hc1 : 0 < bf i
    · refine e_st (pc := 14) q27_14 rfl rfl ?_
      refine e_st (pc := 16) q27_16 rfl rfl ?_
      refine e_getf (pc := 17) q27_17 hr rfl ?_
      refine e_cmp false (pc := 20) q27_20 ⟨by omega, by omega⟩ ⟨by omega, by omega⟩ (n_f_ge (by omega)) ?_
      refine e_st (pc := 23) q27_23 rfl rfl ?_
      refine e_getf (pc := 24) q27_24 hr rfl ?_
      refine e_st (pc := 27) q27_27 rfl rfl ?_
      refine e_ald (pc := 29) (j := i) q27_29 hb (by omega) (by omega) (by omega) ?_
      refine e_if false (pc := 30) q27_30 ⟨by omega, by omega⟩ (n_f_le (by omega)) ?_
      refine e_st (pc := 33) q27_33 rfl rfl ?_
      refine e_getf (pc := 34) q27_34 hd rfl ?_
      refine e_st (pc := 37) q27_37 rfl rfl ?_
      refine e_ald (pc := 39) (j := i) q27_39 hl (by omega) (by omega) (by omega) ?_
      by_cases hc2 : lf i = 0
      · refine e_if false (pc := 40) q27_40 ⟨by omega, by omega⟩ (n_f_ne (by omega)) ?_
        refine e_inc (pc := 43) (L2 := [some (.ref d), some (.ref a), some (n_v li), some (n_v ((m_cnt i (fun t => decide (0 < bf t) && decide (m_lb li (m_ld li 0 cf bf (fun t => t) t) (cf t) (bf t) = 0))) + 1)), some (n_v ↑i)]) q27_43 rfl rfl ?_
        refine e_inc (pc := 46) (L2 := [some (.ref d), some (.ref a), some (n_v li), some (n_v ((m_cnt i (fun t => decide (0 < bf t) && decide (m_lb li (m_ld li 0 cf bf (fun t => t) t) (cf t) (bf t) = 0))) + 1)), some (n_v (↑i + 1))]) q27_46 rfl rfl ?_
        refine e_st (pc := 49) q27_49 rfl rfl ?_
        rw [m_cnt_t (f := (fun t => decide (0 < bf t) && decide (m_lb li (m_ld li 0 cf bf (fun t => t) t) (cf t) (bf t) = 0))) (by rw [Bool.and_eq_true]; exact ⟨decide_eq_true hc1, decide_eq_true (by rw [← b2.1]; exact hc2)⟩)] at ih
        exact ih
      · refine e_if true (pc := 40) q27_40 ⟨by omega, by omega⟩ (n_t_ne (by omega)) ?_
        refine e_inc (pc := 46) (L2 := [some (.ref d), some (.ref a), some (n_v li), some (n_v (m_cnt i (fun t => decide (0 < bf t) && decide (m_lb li (m_ld li 0 cf bf (fun t => t) t) (cf t) (bf t) = 0)))), some (n_v (↑i + 1))]) q27_46 rfl rfl ?_
        refine e_st (pc := 49) q27_49 rfl rfl ?_
        rw [m_cnt_f (f := (fun t => decide (0 < bf t) && decide (m_lb li (m_ld li 0 cf bf (fun t => t) t) (cf t) (bf t) = 0))) (by rw [Bool.and_eq_false_iff]; exact Or.inr (decide_eq_false (by rw [← b2.1]; exact hc2)))] at ih
        exact ih
    · refine e_st (pc := 14) q27_14 rfl rfl ?_
      refine e_st (pc := 16) q27_16 rfl rfl ?_
      refine e_getf (pc := 17) q27_17 hr rfl ?_
      refine e_cmp false (pc := 20) q27_20 ⟨by omega, by omega⟩ ⟨by omega, by omega⟩ (n_f_ge (by omega)) ?_
      refine e_st (pc := 23) q27_23 rfl rfl ?_
      refine e_getf (pc := 24) q27_24 hr rfl ?_
      refine e_st (pc := 27) q27_27 rfl rfl ?_
      refine e_ald (pc := 29) (j := i) q27_29 hb (by omega) (by omega) (by omega) ?_
      refine e_if true (pc := 30) q27_30 ⟨by omega, by omega⟩ (n_t_le (by omega)) ?_
      refine e_inc (pc := 46) (L2 := [some (.ref d), some (.ref a), some (n_v li), some (n_v (m_cnt i (fun t => decide (0 < bf t) && decide (m_lb li (m_ld li 0 cf bf (fun t => t) t) (cf t) (bf t) = 0)))), some (n_v (↑i + 1))]) q27_46 rfl rfl ?_
      refine e_st (pc := 49) q27_49 rfl rfl ?_
      rw [m_cnt_f (f := (fun t => decide (0 < bf t) && decide (m_lb li (m_ld li 0 cf bf (fun t => t) t) (cf t) (bf t) = 0))) (by rw [Bool.and_eq_false_iff]; exact Or.inl (decide_eq_false hc1))] at ih
      exact ih
theorem s27 {a b c d l n : Nat} {rg : Value} {li : Int} {cf bf : Nat → Int} {mo : Value} {lf : Nat → Int} (hr : c_ob h a 6 [.ref c, .ref b, n_v ↑n, rg]) (hc : c_ar h c 60 cf) (hb : c_ar h b 60 bf) (hl : c_ar h l 60 lf) (hd : c_ob h d 0 [.ref l, mo]) (hn : n ≤ 60) (hbf : ∀ t, t < n → 0 ≤ bf t ∧ bf t ≤ cf t ∧ cf t ≤ 4) (hli : 0 ≤ li ∧ li ≤ 100) (hne : a ≠ d ∧ a ≠ l ∧ c ≠ d ∧ c ≠ l ∧ b ≠ d ∧ b ≠ l ∧ d ≠ l) (K : ∀ (h2 : c_Hp) (lf2 : Nat → Int) (mo2 : Int), c_ch h h2 [d, l] → c_ar h2 l 60 lf2 → c_ob h2 d 0 [.ref l, n_v mo2] → Q (.inl (some (n_v (m_cnt n (fun t => decide (0 < bf t) && decide (m_lb li (m_ld li 0 cf bf (fun t => t) t) (cf t) (bf t) = 0))))), h2)) : c_Ev X 27 0 [some (.ref d), some (.ref a), some (n_v li), none, none] [] h Q := by
  have hs : (0 : Int) ≤ 0 ∧ 0 ≤ li := ⟨by omega, by omega⟩
  refine e_st (pc := 0) q27_0 rfl rfl ?_
  refine e_st (pc := 1) q27_1 rfl rfl ?_
  refine e_st (pc := 2) q27_2 rfl rfl ?_
  refine e_cst (v := 0) (len := 1) (pc := 3) q27_3 rfl rfl rfl ?_
  refine e_cst (v := 1) (len := 1) (pc := 4) q27_4 rfl rfl rfl ?_
  refine e_callV (pc := 5) (mz := c_m26) (a := d) (L0 := [some (.ref d), some (.ref a), some (n_v li), some (n_v 0), some (n_v 1), none, none, none]) q27_5 rfl rfl rfl rfl rfl rfl rfl hd rfl rfl ?_
  refine s26f hr hc hb hn hbf hs (by omega) hne hl hd (fun h1 lf1 h1c hl hd hlf => ?_)
  refine e_k (pc := 5) ?_
  have hr := hr.ch h1c (by simp; omega)
  have hb := hb.ch h1c (by simp; omega)
  refine e_st (pc := 8) q27_8 rfl rfl ?_
  refine e_cst (v := 0) (len := 1) (pc := 9) q27_9 rfl rfl rfl ?_
  refine e_st (pc := 10) (L2 := [some (.ref d), some (.ref a), some (n_v li), some (n_v 0), none]) q27_10 rfl rfl ?_
  refine e_cst (v := 0) (len := 1) (pc := 11) q27_11 rfl rfl rfl ?_
  refine e_st (pc := 12) (L2 := [some (.ref d), some (.ref a), some (n_v li), some (n_v 0), some (n_v 0)]) q27_12 rfl rfl ?_
  refine s27L hr hb hl hd hn hbf (fun t ht => ⟨hlf t ht, ?_⟩) (K h1 lf1 _ h1c hl hd) n 0 (by omega)
  have b1 := hbf t ht
  have b2 := m_ld_b (n := n) (o := fun t => t) hs (fun t ht => ⟨(hbf t ht).1, (hbf t ht).2.1⟩) t (by omega)
  have b3 := hlf t ht
  unfold m_lb at b3
  omega
end Ms
end
section
/-! The rounds of pairs. -/
theorem e_mul {X : List Int32} {k pc : Nat} {L : c_Ls} {st : List Value} {h : c_Hp} {Q : c_O × c_Hp → Prop} {a b : Int} {x y z} (hq : c_q k pc = some (.imul, x, y, z)) (K : c_Ev X k (pc + 1) L (n_v (a * b) :: st) h Q) : c_Ev X k pc L (n_v b :: n_v a :: st) h Q := e_st hq rfl (by show some (pc + 1, L, Value.int (Int32.ofInt a * Int32.ofInt b) :: st, h) = _; rw [n_mul]) K
def m_bt (x : Bool) : Int := if x then 1 else 0
/-- from i on f has the word w -/
def m_at (f : Nat → Int) (i : Nat) (w : List Bool) : Prop := ∀ (j : Nat) (x : Bool), w[j]? = some x → f (i + j) = m_bt x
theorem m_at.hd {f : Nat → Int} {i : Nat} {x : Bool} {w : List Bool} (h : m_at f i (x :: w)) : f i = m_bt x := h 0 x rfl
theorem m_at.tl {f : Nat → Int} {i : Nat} {x : Bool} {w : List Bool} (h : m_at f i (x :: w)) : m_at f (i + 1) w := fun j y hy => by
  have := h (j + 1) y hy
  rwa [show i + (j + 1) = i + 1 + j by omega] at this
theorem m_at.cons {f : Nat → Int} {i : Nat} {x : Bool} {w : List Bool} (h1 : f i = m_bt x) (h2 : m_at f (i + 1) w) : m_at f i (x :: w) := fun j y hy => by
  cases j with
  | zero =>
    cases hy
    exact h1
  | succ j =>
    have := h2 j y hy
    rwa [show i + 1 + j = i + (j + 1) by omega] at this
theorem m_at.eq {f f2 : Nat → Int} {i : Nat} {w : List Bool} (h : m_at f i w) (e : ∀ t, i ≤ t → f2 t = f t) : m_at f2 i w := fun j y hy => by rw [e (i + j) (by omega)]; exact h j y hy
def m_wd (n : Nat) (bf : Nat → Int) : List Bool := (List.range n).map (fun t => decide (0 < bf t))
def m_u (n : Nat) (bf : Nat → Int) : List Bool := m_wd n bf ++ List.replicate ((m_wd n bf).filter id).length false
theorem m_wd_len (n : Nat) (bf : Nat → Int) : (m_wd n bf).length = n := by simp [m_wd]
theorem m_wd_sum {bf : Nat → Int} : ∀ (n : Nat), (∀ t, t < n → bf t = 0 ∨ bf t = 1) → m_sum n bf = (((m_wd n bf).filter id).length : Int)
  | 0, _ => rfl
  | n + 1, h => by
    have ih := m_wd_sum n (fun t ht => h t (by omega))
    have e : m_wd (n + 1) bf = m_wd n bf ++ [decide (0 < bf n)] := by unfold m_wd; rw [List.range_succ, List.map_append]; rfl
    rw [m_sum, ih, e, List.filter_append, List.length_append]
    rcases h n (by omega) with h1 | h1 <;> simp [h1]
theorem m_u_len (n : Nat) (bf : Nat → Int) : (m_u n bf).length ≤ 2 * n ∧ (m_u n bf).length = n + ((m_wd n bf).filter id).length := by
  have := List.length_filter_le id (m_wd n bf)
  unfold m_u
  rw [List.length_append, List.length_replicate, m_wd_len] at *
  omega
theorem m_u_bal (n : Nat) (bf : Nat → Int) : b_L 0 (m_u n bf) = 0 := b_bal _ _ (Nat.le_refl _)
section Ms
variable {X : List Int32} {h : c_Hp} {Q : c_O × c_Hp → Prop}
theorem s33L {d s r len : Nat} {k : Value} (hd0 : c_ob h d 3 [.ref s, .ref r, k]) (hlen : len ≤ 120) (hne : d ≠ s) : ∀ (m : Nat) (w : List Bool) (i e : Nat) (p : Int) (h1 : c_Hp) (f : Nat → Int) (x5 : Option Value), w.length ≤ m → i + w.length = len → e ≤ i → m_at f i w → c_ch h h1 [s] → c_ar h1 s 120 f →
  (∀ (h2 : c_Hp) (f2 : Nat → Int), c_ch h h2 [s] → c_ar h2 s 120 f2 → (∀ t, t < e → f2 t = f t) → m_at f2 e (b_red w) → Q (.inl (some (n_v (p + (b_cnt w : Int)))), h2)) → c_Ev X 33 7 [some (.ref d), some (n_v ↑len), some (n_v p), some (n_v ↑e), some (n_v ↑i), x5] [] h1 Q
  | m, [], i, e, p, h1, f, x5, hm, hi, he, hw, hch, hs, K => by
    have hd := hd0.ch hch (by simp; omega)
    simp only [List.length_nil] at hi
    refine e_st (pc := 7) q33_7 rfl rfl ?_
    refine e_st (pc := 9) q33_9 rfl rfl ?_
    refine e_cmp true (pc := 10) q33_10 ⟨by omega, by omega⟩ ⟨by omega, by omega⟩ (n_t_ge (by omega)) ?_
    refine e_st (pc := 109) q33_109 rfl rfl ?_
    refine e_iret (pc := 110) q33_110 rfl rfl rfl rfl ?_
    have K2 := K h1 f hch hs (fun _ _ => rfl) (fun j y hy => by simp [b_red] at hy)
    simp only [b_cnt] at K2
    rw [show p + ((0 : Nat) : Int) = p by omega] at K2
    exact K2
  | m + 1, [x], i, e, p, h0, f, x5, hm, hi, he, hw, hch, hs, K => by
    have hd := hd0.ch hch (by simp; omega)
    simp only [List.length_cons, List.length_nil] at hi
    refine e_st (pc := 7) q33_7 rfl rfl ?_
    refine e_st (pc := 9) q33_9 rfl rfl ?_
    refine e_cmp false (pc := 10) q33_10 ⟨by omega, by omega⟩ ⟨by omega, by omega⟩ (n_f_ge (by omega)) ?_
    refine e_st (pc := 13) q33_13 rfl rfl ?_
    refine e_st (pc := 15) q33_15 rfl rfl ?_
    refine e_getf (pc := 16) q33_16 hd rfl ?_
    refine e_len (pc := 19) q33_19 hs ?_
    refine e_cmp false (pc := 20) q33_20 ⟨by omega, by omega⟩ ⟨by omega, by omega⟩ (n_f_ge (by omega)) ?_
    refine e_st (pc := 23) q33_23 rfl rfl ?_
    refine e_cst (v := 1) (len := 1) (pc := 25) q33_25 rfl rfl rfl ?_
    refine e_add (pc := 26) q33_26 ?_
    refine e_st (pc := 27) q33_27 rfl rfl ?_
    refine e_cmp true (pc := 28) q33_28 ⟨by omega, by omega⟩ ⟨by omega, by omega⟩ (n_t_ge (by omega)) ?_
    refine e_cst (v := 0) (len := 1) (pc := 47) q33_47 rfl rfl rfl ?_
    refine e_st (pc := 48) (L2 := [some (.ref d), some (n_v ↑len), some (n_v p), some (n_v ↑e), some (n_v ↑i), some (n_v 0)]) q33_48 rfl rfl ?_
    refine e_st (pc := 50) q33_50 rfl rfl ?_
    refine e_if true (pc := 52) q33_52 ⟨by omega, by omega⟩ (n_t_eq (by omega)) ?_
    refine e_st (pc := 87) q33_87 rfl rfl ?_
    refine e_getf (pc := 88) q33_88 hd rfl ?_
    refine e_st (pc := 91) q33_91 rfl rfl ?_
    refine e_st (pc := 92) q33_92 rfl rfl ?_
    refine e_getf (pc := 93) q33_93 hd rfl ?_
    refine e_st (pc := 96) q33_96 rfl rfl ?_
    refine e_aldv (pc := 98) (j := i) (v := m_bt x) q33_98 hs (by omega) (by omega) (by omega) hw.hd ?_
    refine e_ast (pc := 99) (j := e) q33_99 hs (by omega) (by omega) (by omega) (fun h1 u1 => ?_)
    have hd := hd.up u1 (by omega)
    have hs : c_ar h1 s 120 (fun t => if t = e then (m_bt x) else f t) := u1.2.1
    refine e_inc (pc := 100) (L2 := [some (.ref d), some (n_v ↑len), some (n_v p), some (n_v (↑e + 1)), some (n_v ↑i), some (n_v 0)]) q33_100 rfl rfl ?_
    refine e_inc (pc := 103) (L2 := [some (.ref d), some (n_v ↑len), some (n_v p), some (n_v (↑e + 1)), some (n_v (↑i + 1)), some (n_v 0)]) q33_103 rfl rfl ?_
    refine e_st (pc := 106) q33_106 rfl rfl ?_
    exact s33L hd0 hlen hne m [] (i + 1) (e + 1) p h1 (fun t => if t = e then m_bt x else f t) _ (by simp) (by simp only [List.length_nil]; omega) (by omega) (fun j y hy => by simp at hy) (hch.up u1 (by simp)) hs (fun h2 f2 c2 a2 e2 w2 => by
      have K2 := K h2 f2 c2 a2 (fun t ht => by rw [e2 t (by omega)]; exact if_neg (by omega)) (by
        rw [b_red]
        exact m_at.cons (by rw [e2 e (by omega)]; exact if_pos rfl) w2)
      simp only [b_cnt] at K2
      exact K2)
  | m + 1, true :: false :: t, i, e, p, h1, f, x5, hm, hi, he, hw, hch, hs, K => by
    have hd := hd0.ch hch (by simp; omega)
    have hi2 := hi
    simp only [List.length_cons] at hi2
    have hv0 := hw.hd
    have hv1 := hw.tl.hd
    refine e_st (pc := 7) q33_7 rfl rfl ?_
    refine e_st (pc := 9) q33_9 rfl rfl ?_
    refine e_cmp false (pc := 10) q33_10 ⟨by omega, by omega⟩ ⟨by omega, by omega⟩ (n_f_ge (by omega)) ?_
    refine e_st (pc := 13) q33_13 rfl rfl ?_
    refine e_st (pc := 15) q33_15 rfl rfl ?_
    refine e_getf (pc := 16) q33_16 hd rfl ?_
    refine e_len (pc := 19) q33_19 hs ?_
    refine e_cmp false (pc := 20) q33_20 ⟨by omega, by omega⟩ ⟨by omega, by omega⟩ (n_f_ge (by omega)) ?_
    refine e_st (pc := 23) q33_23 rfl rfl ?_
    refine e_cst (v := 1) (len := 1) (pc := 25) q33_25 rfl rfl rfl ?_
    refine e_add (pc := 26) q33_26 ?_
    refine e_st (pc := 27) q33_27 rfl rfl ?_
    refine e_cmp false (pc := 28) q33_28 ⟨by omega, by omega⟩ ⟨by omega, by omega⟩ (n_f_ge (by omega)) ?_
    refine e_st (pc := 31) q33_31 rfl rfl ?_
    refine e_cst (v := 1) (len := 1) (pc := 33) q33_33 rfl rfl rfl ?_
    refine e_add (pc := 34) q33_34 ?_
    refine e_st (pc := 35) q33_35 rfl rfl ?_
    refine e_getf (pc := 36) q33_36 hd rfl ?_
    refine e_len (pc := 39) q33_39 hs ?_
    refine e_cmp false (pc := 40) q33_40 ⟨by omega, by omega⟩ ⟨by omega, by omega⟩ (n_f_ge (by omega)) ?_
    refine e_cst (v := 1) (len := 1) (pc := 43) q33_43 rfl rfl rfl ?_
    refine e_st (pc := 44) q33_44 rfl rfl ?_
    refine e_st (pc := 48) (L2 := [some (.ref d), some (n_v ↑len), some (n_v p), some (n_v ↑e), some (n_v ↑i), some (n_v 1)]) q33_48 rfl rfl ?_
    refine e_st (pc := 50) q33_50 rfl rfl ?_
    refine e_if false (pc := 52) q33_52 ⟨by omega, by omega⟩ (n_f_eq (by omega)) ?_
    refine e_st (pc := 55) q33_55 rfl rfl ?_
    refine e_getf (pc := 56) q33_56 hd rfl ?_
    refine e_st (pc := 59) q33_59 rfl rfl ?_
    refine e_aldv (pc := 61) (j := i) (v := 1) q33_61 hs (by omega) (by omega) (by omega) hv0 ?_
    refine e_cst (v := 1) (len := 1) (pc := 62) q33_62 rfl rfl rfl ?_
    refine e_cmp false (pc := 63) q33_63 ⟨by omega, by omega⟩ ⟨by omega, by omega⟩ (n_f_ne (by omega)) ?_
    refine e_st (pc := 66) q33_66 rfl rfl ?_
    refine e_getf (pc := 67) q33_67 hd rfl ?_
    refine e_st (pc := 70) q33_70 rfl rfl ?_
    refine e_cst (v := 1) (len := 1) (pc := 72) q33_72 rfl rfl rfl ?_
    refine e_add (pc := 73) q33_73 ?_
    refine e_aldv (pc := 74) (j := i + 1) (v := 0) q33_74 hs (by omega) (by omega) (by omega) hv1 ?_
    refine e_if false (pc := 75) q33_75 ⟨by omega, by omega⟩ (n_f_ne (by omega)) ?_
    refine e_inc (pc := 78) (L2 := [some (.ref d), some (n_v ↑len), some (n_v (p + 1)), some (n_v ↑e), some (n_v ↑i), some (n_v 1)]) q33_78 rfl rfl ?_
    refine e_inc (pc := 81) (L2 := [some (.ref d), some (n_v ↑len), some (n_v (p + 1)), some (n_v ↑e), some (n_v (↑i + 2)), some (n_v 1)]) q33_81 rfl rfl ?_
    refine e_st (pc := 84) q33_84 rfl rfl ?_
    refine e_st (pc := 106) q33_106 rfl rfl ?_
    exact s33L hd0 hlen hne m t (i + 2) e (p + 1) h1 f _ (by simp only [List.length_cons] at hm; omega) (by omega) (by omega) hw.tl.tl hch hs (fun h2 f2 c2 a2 e2 w2 => by
      have K2 := K h2 f2 c2 a2 e2 (by rw [b_red]; exact w2)
      simp only [b_cnt] at K2
      rw [show p + 1 + (b_cnt t : Int) = p + ((b_cnt t + 1 : Nat) : Int) by omega]
      exact K2)
  | m + 1, false :: y :: t, i, e, p, h0, f, x5, hm, hi, he, hw, hch, hs, K => by
    have hd := hd0.ch hch (by simp; omega)
    have hi2 := hi
    simp only [List.length_cons] at hi2
    have hv0 := hw.hd
    have hv1 := hw.tl.hd
    refine e_st (pc := 7) q33_7 rfl rfl ?_
    refine e_st (pc := 9) q33_9 rfl rfl ?_
    refine e_cmp false (pc := 10) q33_10 ⟨by omega, by omega⟩ ⟨by omega, by omega⟩ (n_f_ge (by omega)) ?_
    refine e_st (pc := 13) q33_13 rfl rfl ?_
    refine e_st (pc := 15) q33_15 rfl rfl ?_
    refine e_getf (pc := 16) q33_16 hd rfl ?_
    refine e_len (pc := 19) q33_19 hs ?_
    refine e_cmp false (pc := 20) q33_20 ⟨by omega, by omega⟩ ⟨by omega, by omega⟩ (n_f_ge (by omega)) ?_
    refine e_st (pc := 23) q33_23 rfl rfl ?_
    refine e_cst (v := 1) (len := 1) (pc := 25) q33_25 rfl rfl rfl ?_
    refine e_add (pc := 26) q33_26 ?_
    refine e_st (pc := 27) q33_27 rfl rfl ?_
    refine e_cmp false (pc := 28) q33_28 ⟨by omega, by omega⟩ ⟨by omega, by omega⟩ (n_f_ge (by omega)) ?_
    refine e_st (pc := 31) q33_31 rfl rfl ?_
    refine e_cst (v := 1) (len := 1) (pc := 33) q33_33 rfl rfl rfl ?_
    refine e_add (pc := 34) q33_34 ?_
    refine e_st (pc := 35) q33_35 rfl rfl ?_
    refine e_getf (pc := 36) q33_36 hd rfl ?_
    refine e_len (pc := 39) q33_39 hs ?_
    refine e_cmp false (pc := 40) q33_40 ⟨by omega, by omega⟩ ⟨by omega, by omega⟩ (n_f_ge (by omega)) ?_
    refine e_cst (v := 1) (len := 1) (pc := 43) q33_43 rfl rfl rfl ?_
    refine e_st (pc := 44) q33_44 rfl rfl ?_
    refine e_st (pc := 48) (L2 := [some (.ref d), some (n_v ↑len), some (n_v p), some (n_v ↑e), some (n_v ↑i), some (n_v 1)]) q33_48 rfl rfl ?_
    refine e_st (pc := 50) q33_50 rfl rfl ?_
    refine e_if false (pc := 52) q33_52 ⟨by omega, by omega⟩ (n_f_eq (by omega)) ?_
    refine e_st (pc := 55) q33_55 rfl rfl ?_
    refine e_getf (pc := 56) q33_56 hd rfl ?_
    refine e_st (pc := 59) q33_59 rfl rfl ?_
    refine e_aldv (pc := 61) (j := i) (v := 0) q33_61 hs (by omega) (by omega) (by omega) hv0 ?_
    refine e_cst (v := 1) (len := 1) (pc := 62) q33_62 rfl rfl rfl ?_
    refine e_cmp true (pc := 63) q33_63 ⟨by omega, by omega⟩ ⟨by omega, by omega⟩ (n_t_ne (by omega)) ?_
    refine e_st (pc := 87) q33_87 rfl rfl ?_
    refine e_getf (pc := 88) q33_88 hd rfl ?_
    refine e_st (pc := 91) q33_91 rfl rfl ?_
    refine e_st (pc := 92) q33_92 rfl rfl ?_
    refine e_getf (pc := 93) q33_93 hd rfl ?_
    refine e_st (pc := 96) q33_96 rfl rfl ?_
    refine e_aldv (pc := 98) (j := i) (v := m_bt false) q33_98 hs (by omega) (by omega) (by omega) hw.hd ?_
    refine e_ast (pc := 99) (j := e) q33_99 hs (by omega) (by omega) (by omega) (fun h1 u1 => ?_)
    have hd := hd.up u1 (by omega)
    have hs : c_ar h1 s 120 (fun t => if t = e then (m_bt false) else f t) := u1.2.1
    refine e_inc (pc := 100) (L2 := [some (.ref d), some (n_v ↑len), some (n_v p), some (n_v (↑e + 1)), some (n_v ↑i), some (n_v 1)]) q33_100 rfl rfl ?_
    refine e_inc (pc := 103) (L2 := [some (.ref d), some (n_v ↑len), some (n_v p), some (n_v (↑e + 1)), some (n_v (↑i + 1)), some (n_v 1)]) q33_103 rfl rfl ?_
    refine e_st (pc := 106) q33_106 rfl rfl ?_
    exact s33L hd0 hlen hne m (y :: t) (i + 1) (e + 1) p h1 (fun t => if t = e then m_bt false else f t) _ (by simp only [List.length_cons] at hm ⊢; omega) (by simp only [List.length_cons] at hi ⊢; omega) (by omega) (hw.tl.eq (fun t ht => if_neg (by omega))) (hch.up u1 (by simp)) hs (fun h2 f2 c2 a2 e2 w2 => by
      have K2 := K h2 f2 c2 a2 (fun t ht => by rw [e2 t (by omega)]; exact if_neg (by omega)) (by
        rw [b_red]
        exact m_at.cons (by rw [e2 e (by omega)]; exact if_pos rfl) w2)
      simp only [b_cnt] at K2
      exact K2)
  | m + 1, true :: true :: t, i, e, p, h0, f, x5, hm, hi, he, hw, hch, hs, K => by
    have hd := hd0.ch hch (by simp; omega)
    have hi2 := hi
    simp only [List.length_cons] at hi2
    have hv0 := hw.hd
    have hv1 := hw.tl.hd
    refine e_st (pc := 7) q33_7 rfl rfl ?_
    refine e_st (pc := 9) q33_9 rfl rfl ?_
    refine e_cmp false (pc := 10) q33_10 ⟨by omega, by omega⟩ ⟨by omega, by omega⟩ (n_f_ge (by omega)) ?_
    refine e_st (pc := 13) q33_13 rfl rfl ?_
    refine e_st (pc := 15) q33_15 rfl rfl ?_
    refine e_getf (pc := 16) q33_16 hd rfl ?_
    refine e_len (pc := 19) q33_19 hs ?_
    refine e_cmp false (pc := 20) q33_20 ⟨by omega, by omega⟩ ⟨by omega, by omega⟩ (n_f_ge (by omega)) ?_
    refine e_st (pc := 23) q33_23 rfl rfl ?_
    refine e_cst (v := 1) (len := 1) (pc := 25) q33_25 rfl rfl rfl ?_
    refine e_add (pc := 26) q33_26 ?_
    refine e_st (pc := 27) q33_27 rfl rfl ?_
    refine e_cmp false (pc := 28) q33_28 ⟨by omega, by omega⟩ ⟨by omega, by omega⟩ (n_f_ge (by omega)) ?_
    refine e_st (pc := 31) q33_31 rfl rfl ?_
    refine e_cst (v := 1) (len := 1) (pc := 33) q33_33 rfl rfl rfl ?_
    refine e_add (pc := 34) q33_34 ?_
    refine e_st (pc := 35) q33_35 rfl rfl ?_
    refine e_getf (pc := 36) q33_36 hd rfl ?_
    refine e_len (pc := 39) q33_39 hs ?_
    refine e_cmp false (pc := 40) q33_40 ⟨by omega, by omega⟩ ⟨by omega, by omega⟩ (n_f_ge (by omega)) ?_
    refine e_cst (v := 1) (len := 1) (pc := 43) q33_43 rfl rfl rfl ?_
    refine e_st (pc := 44) q33_44 rfl rfl ?_
    refine e_st (pc := 48) (L2 := [some (.ref d), some (n_v ↑len), some (n_v p), some (n_v ↑e), some (n_v ↑i), some (n_v 1)]) q33_48 rfl rfl ?_
    refine e_st (pc := 50) q33_50 rfl rfl ?_
    refine e_if false (pc := 52) q33_52 ⟨by omega, by omega⟩ (n_f_eq (by omega)) ?_
    refine e_st (pc := 55) q33_55 rfl rfl ?_
    refine e_getf (pc := 56) q33_56 hd rfl ?_
    refine e_st (pc := 59) q33_59 rfl rfl ?_
    refine e_aldv (pc := 61) (j := i) (v := 1) q33_61 hs (by omega) (by omega) (by omega) hv0 ?_
    refine e_cst (v := 1) (len := 1) (pc := 62) q33_62 rfl rfl rfl ?_
    refine e_cmp false (pc := 63) q33_63 ⟨by omega, by omega⟩ ⟨by omega, by omega⟩ (n_f_ne (by omega)) ?_
    refine e_st (pc := 66) q33_66 rfl rfl ?_
    refine e_getf (pc := 67) q33_67 hd rfl ?_
    refine e_st (pc := 70) q33_70 rfl rfl ?_
    refine e_cst (v := 1) (len := 1) (pc := 72) q33_72 rfl rfl rfl ?_
    refine e_add (pc := 73) q33_73 ?_
    refine e_aldv (pc := 74) (j := i + 1) (v := 1) q33_74 hs (by omega) (by omega) (by omega) hv1 ?_
    refine e_if true (pc := 75) q33_75 ⟨by omega, by omega⟩ (n_t_ne (by omega)) ?_
    refine e_st (pc := 87) q33_87 rfl rfl ?_
    refine e_getf (pc := 88) q33_88 hd rfl ?_
    refine e_st (pc := 91) q33_91 rfl rfl ?_
    refine e_st (pc := 92) q33_92 rfl rfl ?_
    refine e_getf (pc := 93) q33_93 hd rfl ?_
    refine e_st (pc := 96) q33_96 rfl rfl ?_
    refine e_aldv (pc := 98) (j := i) (v := m_bt true) q33_98 hs (by omega) (by omega) (by omega) hw.hd ?_
    refine e_ast (pc := 99) (j := e) q33_99 hs (by omega) (by omega) (by omega) (fun h1 u1 => ?_)
    have hd := hd.up u1 (by omega)
    have hs : c_ar h1 s 120 (fun t => if t = e then (m_bt true) else f t) := u1.2.1
    refine e_inc (pc := 100) (L2 := [some (.ref d), some (n_v ↑len), some (n_v p), some (n_v (↑e + 1)), some (n_v ↑i), some (n_v 1)]) q33_100 rfl rfl ?_
    refine e_inc (pc := 103) (L2 := [some (.ref d), some (n_v ↑len), some (n_v p), some (n_v (↑e + 1)), some (n_v (↑i + 1)), some (n_v 1)]) q33_103 rfl rfl ?_
    refine e_st (pc := 106) q33_106 rfl rfl ?_
    exact s33L hd0 hlen hne m (true :: t) (i + 1) (e + 1) p h1 (fun t => if t = e then m_bt true else f t) _ (by simp only [List.length_cons] at hm ⊢; omega) (by simp only [List.length_cons] at hi ⊢; omega) (by omega) (hw.tl.eq (fun t ht => if_neg (by omega))) (hch.up u1 (by simp)) hs (fun h2 f2 c2 a2 e2 w2 => by
      have K2 := K h2 f2 c2 a2 (fun t ht => by rw [e2 t (by omega)]; exact if_neg (by omega)) (by
        rw [b_red]
        exact m_at.cons (by rw [e2 e (by omega)]; exact if_pos rfl) w2)
      simp only [b_cnt] at K2
      exact K2)
theorem s33 {d s r len : Nat} {k : Value} {f : Nat → Int} {w : List Bool} (hd0 : c_ob h d 3 [.ref s, .ref r, k]) (hlen : len ≤ 120) (hne : d ≠ s) (hw : m_at f 0 w) (hl : w.length = len) (hs : c_ar h s 120 f) (K : ∀ (h2 : c_Hp) (f2 : Nat → Int), c_ch h h2 [s] → c_ar h2 s 120 f2 → m_at f2 0 (b_red w) → Q (.inl (some (n_v (b_cnt w : Int))), h2)) : c_Ev X 33 0 [some (.ref d), some (n_v ↑len), none, none, none, none] [] h Q := by
  refine e_cst (v := 0) (len := 1) (pc := 0) q33_0 rfl rfl rfl ?_
  refine e_st (pc := 1) (L2 := [some (.ref d), some (n_v ↑len), some (n_v 0), none, none, none]) q33_1 rfl rfl ?_
  refine e_cst (v := 0) (len := 1) (pc := 2) q33_2 rfl rfl rfl ?_
  refine e_st (pc := 3) (L2 := [some (.ref d), some (n_v ↑len), some (n_v 0), some (n_v 0), none, none]) q33_3 rfl rfl ?_
  refine e_cst (v := 0) (len := 1) (pc := 4) q33_4 rfl rfl rfl ?_
  refine e_st (pc := 5) (L2 := [some (.ref d), some (n_v ↑len), some (n_v 0), some (n_v 0), some (n_v 0), none]) q33_5 rfl rfl ?_
  exact s33L hd0 hlen hne w.length w 0 0 0 h f none (Nat.le_refl _) (by omega) (by omega) hw (c_ch.rf h [s]) hs (fun h2 f2 c2 a2 e2 w2 => by
    have K2 := K h2 f2 c2 a2 w2
    rw [show (0 : Int) + (b_cnt w : Int) = (b_cnt w : Int) by omega]
    exact K2)
theorem s32L {a b c d s r n : Nat} {k rg : Value} {bf : Nat → Int} (hd0 : c_ob h d 3 [.ref s, .ref r, k]) (hr0 : c_ob h a 6 [.ref c, .ref b, n_v ↑n, rg]) (hb0 : c_ar h b 60 bf) (hn : n ≤ 60) (hne : d ≠ s ∧ a ≠ s ∧ b ≠ s) (K : ∀ (h2 : c_Hp) (f2 : Nat → Int), c_ch h h2 [s] → c_ar h2 s 120 f2 → (∀ t, f2 t = if t < n then bf t else 0) → Q (.inl (some (n_v (↑n + m_sum n bf))), h2)) :
  ∀ (m i : Nat) (h1 : c_Hp) (f : Nat → Int), i + m = n → c_ch h h1 [s] → c_ar h1 s 120 f → (∀ t, f t = if t < i then bf t else 0) → c_Ev X 32 10 [some (.ref d), some (.ref a), some (n_v ↑i)] [] h1 Q
  | 0, i, h1, f, e, hch, hs, hf => by
    have hd := hd0.ch hch (by simp; omega)
    have hr := hr0.ch hch (by simp; omega)
    have hb := hb0.ch hch (by simp; omega)
    refine e_st (pc := 10) q32_10 rfl rfl ?_
    refine e_st (pc := 11) q32_11 rfl rfl ?_
    refine e_getf (pc := 12) q32_12 hr rfl ?_
    refine e_cmp true (pc := 15) q32_15 ⟨by omega, by omega⟩ ⟨by omega, by omega⟩ (n_t_ge (by omega)) ?_
    refine e_st (pc := 36) q32_36 rfl rfl ?_
    refine e_getf (pc := 37) q32_37 hr rfl ?_
    refine e_st (pc := 40) q32_40 rfl rfl ?_
    refine e_callV (pc := 41) (mz := c_m56) (a := a) (L0 := [some (.ref a), none, none]) q32_41 rfl rfl rfl rfl rfl rfl rfl hr rfl rfl ?_
    refine s56 hr hb hn ?_
    refine e_k (pc := 41) ?_
    refine e_add (pc := 44) q32_44 ?_
    refine e_iret (pc := 45) q32_45 rfl rfl rfl rfl ?_
    have e2 : i = n := by omega
    subst e2
    exact K h1 f hch hs hf
  | m + 1, i, h0, f, e, hch, hs, hf => by
    have hd := hd0.ch hch (by simp; omega)
    have hr := hr0.ch hch (by simp; omega)
    have hb := hb0.ch hch (by simp; omega)
    refine e_st (pc := 10) q32_10 rfl rfl ?_
    refine e_st (pc := 11) q32_11 rfl rfl ?_
    refine e_getf (pc := 12) q32_12 hr rfl ?_
    refine e_cmp false (pc := 15) q32_15 ⟨by omega, by omega⟩ ⟨by omega, by omega⟩ (n_f_ge (by omega)) ?_
    refine e_st (pc := 18) q32_18 rfl rfl ?_
    refine e_getf (pc := 19) q32_19 hd rfl ?_
    refine e_st (pc := 22) q32_22 rfl rfl ?_
    refine e_st (pc := 23) q32_23 rfl rfl ?_
    refine e_getf (pc := 24) q32_24 hr rfl ?_
    refine e_st (pc := 27) q32_27 rfl rfl ?_
    refine e_ald (pc := 28) (j := i) q32_28 hb (by omega) (by omega) (by omega) ?_
    refine e_ast (pc := 29) (j := i) q32_29 hs (by omega) (by omega) (by omega) (fun h1 u1 => ?_)
    have hd := hd.up u1 (by omega)
    have hr := hr.up u1 (by omega)
    have hb := hb.up u1 (by omega)
    have hs : c_ar h1 s 120 (fun t => if t = i then (bf i) else f t) := u1.2.1
    refine e_inc (pc := 30) (L2 := [some (.ref d), some (.ref a), some (n_v (↑i + 1))]) q32_30 rfl rfl ?_
    refine e_st (pc := 33) q32_33 rfl rfl ?_
    exact s32L hd0 hr0 hb0 hn hne K m (i + 1) h1 _ (by omega) (hch.up u1 (by simp)) hs (fun t => by
      by_cases e2 : t = i
      · rw [if_pos e2, if_pos (by omega), e2]
      · rw [if_neg e2, hf t]
        by_cases e3 : t < i
        · rw [if_pos e3, if_pos (by omega)]
        · rw [if_neg e3, if_neg (by omega)])
theorem s32 {a b c d s r n : Nat} {k rg : Value} {bf f : Nat → Int} (hd : c_ob h d 3 [.ref s, .ref r, k]) (hr : c_ob h a 6 [.ref c, .ref b, n_v ↑n, rg]) (hb : c_ar h b 60 bf) (hs : c_ar h s 120 f) (hn : n ≤ 60) (hne : d ≠ s ∧ a ≠ s ∧ b ≠ s) (hbf : ∀ t, t < n → bf t = 0 ∨ bf t = 1) (K : ∀ (h2 : c_Hp) (f2 : Nat → Int), c_ch h h2 [s] → c_ar h2 s 120 f2 → m_at f2 0 (m_u n bf) → Q (.inl (some (n_v ((m_u n bf).length : Int))), h2)) : c_Ev X 32 0 [some (.ref d), some (.ref a), none] [] h Q := by
  refine e_st (pc := 0) q32_0 rfl rfl ?_
  refine e_getf (pc := 1) q32_1 hd rfl ?_
  refine e_cst (v := 0) (len := 1) (pc := 4) q32_4 rfl rfl rfl ?_
  have hd0 := hd
  have hr0 := hr
  have hb0 := hb
  refine e_callS (pc := 5) (mz := c_m82) (L0 := [some (.ref s), some (n_v 0), none, none]) q32_5 rfl rfl rfl rfl rfl rfl rfl rfl rfl ?_
  refine s82 hs (by omega) (fun h1 u1 => ?_)
  have hch : c_ch h h1 [s] := (c_ch.rf h [s]).up u1 (by simp)
  refine e_k0 (pc := 5) ?_
  refine e_cst (v := 0) (len := 1) (pc := 8) q32_8 rfl rfl rfl ?_
  refine e_st (pc := 9) (L2 := [some (.ref d), some (.ref a), some (n_v 0)]) q32_9 rfl rfl ?_
  refine s32L hd0 hr0 hb0 hn hne (fun h2 f2 c2 a2 e2 => ?_) n 0 h1 (fun _ => 0) (by omega) hch u1.2.1 (fun t => by rw [if_neg (by omega)])
  have hl := m_u_len n bf
  rw [m_wd_sum n hbf, show ((n : Int) + (((m_wd n bf).filter id).length : Int)) = ((m_u n bf).length : Int) by omega]
  refine K h2 f2 c2 a2 (fun j x hx => ?_)
  rw [Nat.zero_add, e2 j]
  unfold m_u at hx
  by_cases h1 : j < n
  · rw [if_pos h1]
    rw [List.getElem?_append_left (by rw [m_wd_len]; exact h1)] at hx
    unfold m_wd at hx
    rw [List.getElem?_map, List.getElem?_range h1] at hx
    cases hx
    rcases hbf j h1 with z | z <;> simp [z, m_bt]
  · rw [if_neg h1]
    rw [List.getElem?_append_right (by rw [m_wd_len]; omega), List.getElem?_replicate] at hx
    split at hx
    · cases hx; rfl
    · cases hx
end Ms
end
section
/-! All rounds, the waves' sizes and their sums. -/
/-- f has the list R from its beginning -/
def m_li (f : Nat → Int) (R : List Nat) : Prop := ∀ (j x : Nat), R[j]? = some x → f j = (x : Int)
theorem b_rem_nil (f : Nat) {u : List Bool} (h : b_cnt u = 0) : b_rem f u = [] := by
  cases f with
  | zero => rfl
  | succ f => rw [b_rem, if_pos h]
theorem b_rem_len : ∀ (f : Nat) (u : List Bool), 2 * (b_rem f u).length ≤ u.length
  | 0, u => by simp [b_rem]
  | f + 1, u => by
    unfold b_rem
    split
    · simp
    · have := b_rem_len f (b_red u)
      have := b_red_len u
      simp only [List.length_cons]
      omega
section Ms
variable {X : List Int32} {h : c_Hp} {Q : c_O × c_Hp → Prop}
theorem s31L {d a s r : Nat} (hne : d ≠ s ∧ d ≠ r ∧ s ≠ r) {R : List Nat} (K : ∀ (h2 : c_Hp) (sf rf : Nat → Int), c_ch h h2 [d, s, r] → c_ob h2 d 3 [.ref s, .ref r, n_v (R.length : Int)] → c_ar h2 s 120 sf → c_ar h2 r 60 rf → m_li rf R → Q (.inl none, h2)) :
  ∀ (m k F : Nat) (u : List Bool) (D : List Nat) (h1 : c_Hp) (sf rf : Nat → Int) (x3 : Option Value), k + m = 60 → u.length + 2 * k ≤ 120 → u.length ≤ F → D.length = k → R = D ++ b_rem F u → c_ch h h1 [d, s, r] → c_ob h1 d 3 [.ref s, .ref r, n_v ↑k] → c_ar h1 s 120 sf → c_ar h1 r 60 rf → m_li rf D → m_at sf 0 u →
  c_Ev X 31 11 [some (.ref d), some (.ref a), some (n_v (u.length : Int)), x3] [] h1 Q
  | 0, k, F, u, D, h1, sf, rf, x3, hk, hu, hF, hD, hR, hch, hd, hs, hr, hl, hw => by
    refine e_st (pc := 11) q31_11 rfl rfl ?_
    refine e_getf (pc := 12) q31_12 hd rfl ?_
    refine e_cst (v := 60) (len := 2) (pc := 15) q31_15 rfl rfl (by decide +kernel) ?_
    refine e_cmp true (pc := 17) q31_17 ⟨by omega, by omega⟩ ⟨by omega, by omega⟩ (n_t_ge (by omega)) ?_
    refine e_ret (pc := 60) q31_60 rfl rfl rfl ?_
    have e0 : u = [] := List.length_eq_zero_iff.mp (by omega)
    subst e0
    rw [b_rem_nil F (by rfl), List.append_nil] at hR
    subst hR
    rw [← hD] at hd
    exact K h1 sf rf hch hd hs hr hl
  | m + 1, k, F, u, D, h1, sf, rf, x3, hk, hu, hF, hD, hR, hch, hd, hs, hr, hl, hw => by
    have hrl := b_red_len u
    refine e_st (pc := 11) q31_11 rfl rfl ?_
    refine e_getf (pc := 12) q31_12 hd rfl ?_
    refine e_cst (v := 60) (len := 2) (pc := 15) q31_15 rfl rfl (by decide +kernel) ?_
    refine e_cmp false (pc := 17) q31_17 ⟨by omega, by omega⟩ ⟨by omega, by omega⟩ (n_f_ge (by omega)) ?_
    refine e_st (pc := 20) q31_20 rfl rfl ?_
    refine e_st (pc := 21) q31_21 rfl rfl ?_
    refine e_callV (pc := 22) (mz := c_m33) (a := d) (L0 := [some (.ref d), some (n_v (u.length : Int)), none, none, none, none]) q31_22 rfl rfl rfl rfl rfl rfl rfl hd rfl rfl ?_
    refine s33 hd (by omega) hne.1 hw rfl hs (fun h2 f2 c2 hs hw => ?_)
    have hd := hd.ch c2 (by simp; omega)
    have hr := hr.ch c2 (by simp; omega)
    refine e_k (pc := 22) ?_
    refine e_st (pc := 25) (L2 := [some (.ref d), some (.ref a), some (n_v (u.length : Int)), some (n_v (b_cnt u : Int))]) q31_25 rfl rfl ?_
    refine e_st (pc := 26) q31_26 rfl rfl ?_
    by_cases h0 : b_cnt u = 0
    · refine e_if false (pc := 27) q31_27 ⟨by omega, by omega⟩ (n_f_ne (by omega)) ?_
      refine e_ret (pc := 30) q31_30 rfl rfl rfl ?_
      rw [b_rem_nil F h0, List.append_nil] at hR
      subst hR
      rw [← hD] at hd
      exact K h2 f2 rf (hch.tr (c2.sub (by simp <;> omega))) hd hs hr hl
    · refine e_if true (pc := 27) q31_27 ⟨by omega, by omega⟩ (n_t_ne (by omega)) ?_
      refine e_st (pc := 31) q31_31 rfl rfl ?_
      refine e_getf (pc := 32) q31_32 hd rfl ?_
      refine e_st (pc := 35) q31_35 rfl rfl ?_
      refine e_getf (pc := 36) q31_36 hd rfl ?_
      refine e_st (pc := 39) q31_39 rfl rfl ?_
      refine e_ast (pc := 40) (j := k) q31_40 hr (by omega) (by omega) (by omega) (fun h3 u3 => ?_)
      have hd := hd.up u3 (by omega)
      have hs := hs.up u3 (by omega)
      have hr : c_ar h3 r 60 (fun t => if t = k then (b_cnt u : Int) else rf t) := u3.2.1
      refine e_st (pc := 41) q31_41 rfl rfl ?_
      refine e_st (pc := 42) q31_42 rfl rfl ?_
      refine e_getf (pc := 43) q31_43 hd rfl ?_
      refine e_cst (v := 1) (len := 1) (pc := 46) q31_46 rfl rfl rfl ?_
      refine e_add (pc := 47) q31_47 ?_
      refine e_putf (pc := 48) (fs2 := [.ref s, .ref r, n_v (↑k + 1)]) q31_48 hd (c_okv_i _) (Nat.le_of_ble_eq_true rfl) rfl (fun h4 u4 => ?_)
      have hs := hs.up u4 (by omega)
      have hr := hr.up u4 (by omega)
      have hd : c_ob h4 d 3 [.ref s, .ref r, n_v (↑k + 1)] := u4.2.1
      refine e_st (pc := 51) q31_51 rfl rfl ?_
      refine e_cst (v := 2) (len := 1) (pc := 52) q31_52 rfl rfl rfl ?_
      refine e_st (pc := 53) q31_53 rfl rfl ?_
      refine e_mul (pc := 54) q31_54 ?_
      refine e_sub (pc := 55) q31_55 ?_
      refine e_st (pc := 56) (L2 := [some (.ref d), some (.ref a), some (n_v ((u.length : Int) - (2 * (b_cnt u : Int)))), some (n_v (b_cnt u : Int))]) q31_56 rfl rfl ?_
      refine e_st (pc := 57) q31_57 rfl rfl ?_
      obtain ⟨F2, rfl⟩ : ∃ F2, F = F2 + 1 := ⟨F - 1, by omega⟩
      have e9 : (u.length : Int) - 2 * (b_cnt u : Int) = ((b_red u).length : Int) := by omega
      rw [e9]
      refine s31L hne K m (k + 1) F2 (b_red u) (D ++ [b_cnt u]) h4 f2 _ _ (by omega) (by omega) (by omega) (by simp [hD]) ?_ (((hch.tr (c2.sub (by simp <;> omega))).up u3 (by simp)).up u4 (by simp)) hd hs hr ?_ hw
      · rw [hR, b_rem, if_neg h0, List.append_assoc]
        rfl
      · intro j x hx
        by_cases h1 : j < k
        · rw [List.getElem?_append_left (by omega)] at hx
          show (if j = k then _ else rf j) = _
          rw [if_neg (by omega)]
          exact hl j x hx
        · rw [List.getElem?_append_right (by omega)] at hx
          by_cases h2 : j = k
          · rw [h2, hD, Nat.sub_self] at hx
            cases hx
            show (if j = k then _ else rf j) = _
            rw [if_pos h2]
          · rw [List.getElem?_eq_none (by simp; omega)] at hx
            cases hx
theorem s31 {d a s r c b n : Nat} {k0 rg : Value} {sf rf bf : Nat → Int} (hd : c_ob h d 3 [.ref s, .ref r, k0]) (ha : c_ob h a 6 [.ref c, .ref b, n_v ↑n, rg]) (hb : c_ar h b 60 bf) (hs : c_ar h s 120 sf) (hr : c_ar h r 60 rf) (hn : n ≤ 60) (hbf : ∀ t, t < n → bf t = 0 ∨ bf t = 1) (hne : d ≠ s ∧ d ≠ r ∧ s ≠ r) (hne2 : a ≠ s ∧ b ≠ s)
    (K : ∀ (h2 : c_Hp) (sf rf : Nat → Int), c_ch h h2 [d, s, r] → c_ob h2 d 3 [.ref s, .ref r, n_v ((b_rem 120 (m_u n bf)).length : Int)] → c_ar h2 s 120 sf → c_ar h2 r 60 rf → m_li rf (b_rem 120 (m_u n bf)) → Q (.inl none, h2)) : c_Ev X 31 0 [some (.ref d), some (.ref a), none, none] [] h Q := by
  refine e_st (pc := 0) q31_0 rfl rfl ?_
  refine e_st (pc := 1) q31_1 rfl rfl ?_
  refine e_callV (pc := 2) (mz := c_m32) (a := d) (L0 := [some (.ref d), some (.ref a), none]) q31_2 rfl rfl rfl rfl rfl rfl rfl hd rfl rfl ?_
  refine s32 hd ha hb hs hn ⟨hne.1, hne2.1, hne2.2⟩ hbf (fun h1 sf1 c1 hs hw => ?_)
  have hd := hd.ch c1 (by simp; omega)
  have hr := hr.ch c1 (by simp; omega)
  refine e_k (pc := 2) ?_
  refine e_st (pc := 5) (L2 := [some (.ref d), some (.ref a), some (n_v ((m_u n bf).length : Int)), none]) q31_5 rfl rfl ?_
  refine e_st (pc := 6) q31_6 rfl rfl ?_
  refine e_cst (v := 0) (len := 1) (pc := 7) q31_7 rfl rfl rfl ?_
  refine e_putf (pc := 8) (fs2 := [.ref s, .ref r, n_v 0]) q31_8 hd (c_okv_i _) (Nat.le_of_ble_eq_true rfl) rfl (fun h2 u2 => ?_)
  have hr := hr.up u2 (by omega)
  have hs := hs.up u2 (by omega)
  have hd : c_ob h2 d 3 [.ref s, .ref r, n_v 0] := u2.2.1
  have hl := m_u_len n bf
  exact s31L hne K 60 0 120 (m_u n bf) [] h2 sf1 rf none (by omega) (by omega) (by omega) rfl rfl ((c1.sub (by simp <;> omega)).up u2 (by simp)) hd hs hr (fun j x hx => by simp at hx) hw
def m_hd (R : List Nat) : Nat := R.headD 0
theorem s35 {d s r : Nat} {R : List Nat} {rf : Nat → Int} (hd : c_ob h d 3 [.ref s, .ref r, n_v (R.length : Int)]) (hr : c_ar h r 60 rf) (hl : m_li rf R) (hR : R.length ≤ 60) (K : Q (.inl (some (n_v (m_hd R : Int))), h)) : c_Ev X 35 0 [some (.ref d)] [] h Q := by
  refine e_st (pc := 0) q35_0 rfl rfl ?_
  refine e_cst (v := 1) (len := 1) (pc := 1) q35_1 rfl rfl rfl ?_
  refine e_callV (pc := 2) (mz := c_m34) (a := d) (L0 := [some (.ref d), some (n_v 1)]) q35_2 rfl rfl rfl rfl rfl rfl rfl hd rfl rfl ?_
  refine (?_ : c_Ev X 34 0 [some (.ref d), some (n_v 1)] [] h (c_after X 35 2 [some (.ref d)] [] Q))
  suffices K9 : c_after X 35 2 [some (.ref d)] [] Q (.inl (some (n_v (m_hd R : Int))), h) by
    cases R with
    | nil =>
      have e0 : ([] : List Nat).length = 0 := rfl
      refine e_st (pc := 0) q34_0 rfl rfl ?_
      refine e_cst (v := 1) (len := 1) (pc := 1) q34_1 rfl rfl rfl ?_
      refine e_cmp false (pc := 2) q34_2 ⟨by omega, by omega⟩ ⟨by omega, by omega⟩ (n_f_lt (by omega)) ?_
      refine e_st (pc := 5) q34_5 rfl rfl ?_
      refine e_st (pc := 6) q34_6 rfl rfl ?_
      refine e_getf (pc := 7) q34_7 hd rfl ?_
      refine e_cmp true (pc := 10) q34_10 ⟨by omega, by omega⟩ ⟨by omega, by omega⟩ (n_t_gt (by omega)) ?_
      refine e_cst (v := 0) (len := 1) (pc := 24) q34_24 rfl rfl rfl ?_
      refine e_iret (pc := 25) q34_25 rfl rfl rfl rfl ?_
      exact K9
    | cons x R =>
      refine e_st (pc := 0) q34_0 rfl rfl ?_
      refine e_cst (v := 1) (len := 1) (pc := 1) q34_1 rfl rfl rfl ?_
      refine e_cmp false (pc := 2) q34_2 ⟨by omega, by omega⟩ ⟨by omega, by omega⟩ (n_f_lt (by omega)) ?_
      refine e_st (pc := 5) q34_5 rfl rfl ?_
      refine e_st (pc := 6) q34_6 rfl rfl ?_
      have e1 : ((x :: R).length : Int) = (R.length : Int) + 1 := by simp
      refine e_getf (pc := 7) q34_7 hd rfl ?_
      refine e_cmp false (pc := 10) q34_10 ⟨by omega, by omega⟩ ⟨by omega, by omega⟩ (n_f_gt (by omega)) ?_
      refine e_st (pc := 13) q34_13 rfl rfl ?_
      refine e_getf (pc := 14) q34_14 hd rfl ?_
      refine e_st (pc := 17) q34_17 rfl rfl ?_
      refine e_cst (v := 1) (len := 1) (pc := 18) q34_18 rfl rfl rfl ?_
      refine e_sub (pc := 19) q34_19 ?_
      refine e_aldv (pc := 20) (j := 0) (v := (x : Int)) q34_20 hr (by omega) (by omega) (by omega) (hl 0 x rfl) ?_
      refine e_st (pc := 21) q34_21 rfl rfl ?_
      refine e_iret (pc := 25) q34_25 rfl rfl rfl rfl ?_
      exact K9
  refine e_k (pc := 2) ?_
  refine e_iret (pc := 5) q35_5 rfl rfl rfl rfl ?_
  exact K
theorem b_sz_take (R : List Nat) (w i : Nat) (x : Nat) (h : R[i]? = some x) : b_sz (R.take (i + 1)) w = b_sz (R.take i) w + if w < x then 1 else 0 := by
  unfold b_sz
  rw [List.take_succ, h, List.filter_append, List.length_append]
  by_cases e : w < x <;> simp [e]
theorem s36L {d s r wv : Nat} {R : List Nat} {rf : Nat → Int} (hd : c_ob h d 3 [.ref s, .ref r, n_v (R.length : Int)]) (hr : c_ar h r 60 rf) (hl : m_li rf R) (hR : R.length ≤ 60) (hv : ∀ x ∈ R, x ≤ 200) (hw : wv ≤ 200) (K : Q (.inl (some (n_v (b_sz R wv : Int))), h)) : ∀ (m i : Nat), i + m = R.length → c_Ev X 36 4 [some (.ref d), some (n_v ↑wv), some (n_v (b_sz (R.take i) wv : Int)), some (n_v ↑i)] [] h Q
  | 0, i, e => by
    refine e_st (pc := 4) q36_4 rfl rfl ?_
    refine e_st (pc := 5) q36_5 rfl rfl ?_
    refine e_getf (pc := 6) q36_6 hd rfl ?_
    refine e_cmp true (pc := 9) q36_9 ⟨by omega, by omega⟩ ⟨by omega, by omega⟩ (n_t_ge (by omega)) ?_
    refine e_st (pc := 31) q36_31 rfl rfl ?_
    refine e_iret (pc := 32) q36_32 rfl rfl rfl rfl ?_
    rw [show i = R.length by omega, List.take_length]
    exact K
  | m + 1, i, e => by
    obtain ⟨x, hx⟩ : ∃ x, R[i]? = some x := ⟨R[i]'(by omega), List.getElem?_eq_getElem (by omega)⟩
    have hx2 := hv x (List.mem_of_getElem? hx)
    have hx3 := hl i x hx
    have ih := s36L hd hr hl hR hv hw K m (i + 1) (by omega)
    rw [b_sz_take R wv i x hx] at ih
    by_cases hc : wv < x
    · refine e_st (pc := 4) q36_4 rfl rfl ?_
      refine e_st (pc := 5) q36_5 rfl rfl ?_
      refine e_getf (pc := 6) q36_6 hd rfl ?_
      refine e_cmp false (pc := 9) q36_9 ⟨by omega, by omega⟩ ⟨by omega, by omega⟩ (n_f_ge (by omega)) ?_
      refine e_st (pc := 12) q36_12 rfl rfl ?_
      refine e_getf (pc := 13) q36_13 hd rfl ?_
      refine e_st (pc := 16) q36_16 rfl rfl ?_
      refine e_aldv (pc := 17) (j := i) (v := (x : Int)) q36_17 hr (by omega) (by omega) (by omega) hx3 ?_
      refine e_st (pc := 18) q36_18 rfl rfl ?_
      refine e_cmp false (pc := 19) q36_19 ⟨by omega, by omega⟩ ⟨by omega, by omega⟩ (n_f_le (by omega)) ?_
      refine e_inc (pc := 22) (L2 := [some (.ref d), some (n_v ↑wv), some (n_v ((b_sz (R.take i) wv : Int) + 1)), some (n_v ↑i)]) q36_22 rfl rfl ?_
      refine e_inc (pc := 25) (L2 := [some (.ref d), some (n_v ↑wv), some (n_v ((b_sz (R.take i) wv : Int) + 1)), some (n_v (↑i + 1))]) q36_25 rfl rfl ?_
      refine e_st (pc := 28) q36_28 rfl rfl ?_
      rw [if_pos hc] at ih
      exact ih
    · refine e_st (pc := 4) q36_4 rfl rfl ?_
      refine e_st (pc := 5) q36_5 rfl rfl ?_
      refine e_getf (pc := 6) q36_6 hd rfl ?_
      refine e_cmp false (pc := 9) q36_9 ⟨by omega, by omega⟩ ⟨by omega, by omega⟩ (n_f_ge (by omega)) ?_
      refine e_st (pc := 12) q36_12 rfl rfl ?_
      refine e_getf (pc := 13) q36_13 hd rfl ?_
      refine e_st (pc := 16) q36_16 rfl rfl ?_
      refine e_aldv (pc := 17) (j := i) (v := (x : Int)) q36_17 hr (by omega) (by omega) (by omega) hx3 ?_
      refine e_st (pc := 18) q36_18 rfl rfl ?_
      refine e_cmp true (pc := 19) q36_19 ⟨by omega, by omega⟩ ⟨by omega, by omega⟩ (n_t_le (by omega)) ?_
      refine e_inc (pc := 25) (L2 := [some (.ref d), some (n_v ↑wv), some (n_v (b_sz (R.take i) wv : Int)), some (n_v (↑i + 1))]) q36_25 rfl rfl ?_
      refine e_st (pc := 28) q36_28 rfl rfl ?_
      rw [if_neg hc] at ih
      exact ih
theorem s36 {d s r wv : Nat} {R : List Nat} {rf : Nat → Int} (hd : c_ob h d 3 [.ref s, .ref r, n_v (R.length : Int)]) (hr : c_ar h r 60 rf) (hl : m_li rf R) (hR : R.length ≤ 60) (hv : ∀ x ∈ R, x ≤ 200) (hw : wv ≤ 200) (K : Q (.inl (some (n_v (b_sz R wv : Int))), h)) : c_Ev X 36 0 [some (.ref d), some (n_v ↑wv), none, none] [] h Q := by
  refine e_cst (v := 0) (len := 1) (pc := 0) q36_0 rfl rfl rfl ?_
  refine e_st (pc := 1) (L2 := [some (.ref d), some (n_v ↑wv), some (n_v 0), none]) q36_1 rfl rfl ?_
  refine e_cst (v := 0) (len := 1) (pc := 2) q36_2 rfl rfl rfl ?_
  refine e_st (pc := 3) (L2 := [some (.ref d), some (n_v ↑wv), some (n_v 0), some (n_v 0)]) q36_3 rfl rfl ?_
  exact s36L hd hr hl hR hv hw K R.length 0 (by omega)
theorem s37L {d s r k : Nat} {R : List Nat} {rf : Nat → Int} (hd : c_ob h d 3 [.ref s, .ref r, n_v (R.length : Int)]) (hr : c_ar h r 60 rf) (hl : m_li rf R) (hR : R.length ≤ 60) (hv : ∀ x ∈ R, x ≤ m_hd R) (hh : m_hd R ≤ 200) (hk : k ≤ 200) (K : Q (.inl (some (n_v ((((List.range (m_hd R)).map (fun t => min (b_sz R t) k)).sum : Nat) : Int))), h)) : ∀ (m i : Nat), i + m = m_hd R → c_Ev X 37 4 [some (.ref d), some (n_v ↑k), some (n_v ((((List.range i).map (fun t => min (b_sz R t) k)).sum : Nat) : Int)), some (n_v ↑i)] [] h Q
  | 0, i, e => by
    refine e_st (pc := 4) q37_4 rfl rfl ?_
    refine e_st (pc := 5) q37_5 rfl rfl ?_
    refine e_callV (pc := 6) (mz := c_m35) (a := d) (L0 := [some (.ref d)]) q37_6 rfl rfl rfl rfl rfl rfl rfl hd rfl rfl ?_
    refine s35 hd hr hl hR ?_
    refine e_k (pc := 6) ?_
    refine e_cmp true (pc := 9) q37_9 ⟨by omega, by omega⟩ ⟨by omega, by omega⟩ (n_t_ge (by omega)) ?_
    refine e_st (pc := 30) q37_30 rfl rfl ?_
    refine e_iret (pc := 31) q37_31 rfl rfl rfl rfl ?_
    rw [show i = m_hd R by omega]
    exact K
  | m + 1, i, e => by
    have hb0 : b_sz R i ≤ R.length := List.length_filter_le _ _
    refine e_st (pc := 4) q37_4 rfl rfl ?_
    refine e_st (pc := 5) q37_5 rfl rfl ?_
    refine e_callV (pc := 6) (mz := c_m35) (a := d) (L0 := [some (.ref d)]) q37_6 rfl rfl rfl rfl rfl rfl rfl hd rfl rfl ?_
    refine s35 hd hr hl hR ?_
    refine e_k (pc := 6) ?_
    refine e_cmp false (pc := 9) q37_9 ⟨by omega, by omega⟩ ⟨by omega, by omega⟩ (n_f_ge (by omega)) ?_
    refine e_st (pc := 12) q37_12 rfl rfl ?_
    refine e_st (pc := 13) q37_13 rfl rfl ?_
    refine e_st (pc := 14) q37_14 rfl rfl ?_
    refine e_callV (pc := 15) (mz := c_m36) (a := d) (L0 := [some (.ref d), some (n_v ↑i), none, none]) q37_15 rfl rfl rfl rfl rfl rfl rfl hd rfl rfl ?_
    refine s36 hd hr hl hR (fun x hx => Nat.le_trans (hv x hx) hh) (by omega) ?_
    refine e_k (pc := 15) ?_
    refine e_st (pc := 18) q37_18 rfl rfl ?_
    refine e_min (pc := 19) q37_19 ⟨by omega, by omega⟩ ⟨by omega, by omega⟩ (Nat.le_of_ble_eq_true rfl) ?_
    refine e_add (pc := 22) q37_22 ?_
    have hb : b_sz R i ≤ R.length := List.length_filter_le _ _
    have e5 : ((((List.range i).map (fun t => min (b_sz R t) k)).sum : Nat) : Int) + min (b_sz R i : Int) (k : Int) = ((((List.range (i + 1)).map (fun t => min (b_sz R t) k)).sum : Nat) : Int) := by rw [List.range_succ, List.map_append, List.sum_append]; simp only [List.map_cons, List.map_nil, List.sum_cons, List.sum_nil]; omega
    rw [e5]
    refine e_st (pc := 23) (L2 := [some (.ref d), some (n_v ↑k), some (n_v ((((List.range (i + 1)).map (fun t => min (b_sz R t) k)).sum : Nat) : Int)), some (n_v ↑i)]) q37_23 rfl rfl ?_
    refine e_inc (pc := 24) (L2 := [some (.ref d), some (n_v ↑k), some (n_v ((((List.range (i + 1)).map (fun t => min (b_sz R t) k)).sum : Nat) : Int)), some (n_v (↑i + 1))]) q37_24 rfl rfl ?_
    refine e_st (pc := 27) q37_27 rfl rfl ?_
    exact s37L hd hr hl hR hv hh hk K m (i + 1) (by omega)
theorem s37 {d s r k : Nat} {R : List Nat} {rf : Nat → Int} (hd : c_ob h d 3 [.ref s, .ref r, n_v (R.length : Int)]) (hr : c_ar h r 60 rf) (hl : m_li rf R) (hR : R.length ≤ 60) (hv : ∀ x ∈ R, x ≤ m_hd R) (hh : m_hd R ≤ 200) (hk : k ≤ 200) (K : Q (.inl (some (n_v ((((List.range (m_hd R)).map (fun t => min (b_sz R t) k)).sum : Nat) : Int))), h)) : c_Ev X 37 0 [some (.ref d), some (n_v ↑k), none, none] [] h Q := by
  refine e_cst (v := 0) (len := 1) (pc := 0) q37_0 rfl rfl rfl ?_
  refine e_st (pc := 1) (L2 := [some (.ref d), some (n_v ↑k), some (n_v 0), none]) q37_1 rfl rfl ?_
  refine e_cst (v := 0) (len := 1) (pc := 2) q37_2 rfl rfl rfl ?_
  refine e_st (pc := 3) (L2 := [some (.ref d), some (n_v ↑k), some (n_v 0), some (n_v 0)]) q37_3 rfl rfl ?_
  exact s37L hd hr hl hR hv hh hk K (m_hd R) 0 (by omega)
end Ms
end
section
/-! The carriers' counts are the sizes' sums. -/
def b_C (k : Nat) : Nat → List Bool → Nat
  | c, [] => c
  | c, true :: w => if c < k then b_C k (c + 1) w else b_C k c w
  | c, false :: w => b_C k (c - 1) w
theorem b_C_snoc (k : Nat) : ∀ (w : List Bool) (c : Nat) (x : Bool), b_C k c (w ++ [x]) = if x then (if b_C k c w < k then b_C k c w + 1 else b_C k c w) else b_C k c w - 1
  | [], c, false => rfl
  | [], c, true => rfl
  | true :: w, c, x => by
    rw [List.cons_append, b_C, b_C]
    by_cases h : c < k
    · rw [if_pos h, if_pos h, b_C_snoc k w]
    · rw [if_neg h, if_neg h, b_C_snoc k w]
  | false :: w, c, x => by rw [List.cons_append, b_C, b_C, b_C_snoc k w]
theorem b_E_snoc (k : Nat) : ∀ (w : List Bool) (c : Nat) (x : Bool), b_E k c (w ++ [x]) = b_E k c w + if x = true ∧ b_C k c w < k then 1 else 0
  | [], c, x => by cases x <;> simp [b_E, b_C]
  | true :: w, c, x => by
    rw [List.cons_append, b_E, b_E, b_C]
    by_cases h : c < k
    · rw [if_pos h, if_pos h, if_pos h, b_E_snoc k w]
      omega
    · rw [if_neg h, if_neg h, if_neg h, b_E_snoc k w]
  | false :: w, c, x => by rw [List.cons_append, b_E, b_E, b_C, b_E_snoc k w]
theorem m_wd_succ (n : Nat) (bf : Nat → Int) : m_wd (n + 1) bf = m_wd n bf ++ [decide (0 < bf n)] := by unfold m_wd; rw [List.range_succ, List.map_append]; rfl
theorem b_C_le (k : Nat) : ∀ (w : List Bool) (c : Nat), c ≤ k → b_C k c w ≤ k
  | [], c, h => h
  | true :: w, c, h => by
    rw [b_C]
    split
    · exact b_C_le k w _ (by omega)
    · exact b_C_le k w _ h
  | false :: w, c, h => by rw [b_C]; exact b_C_le k w _ (by omega)
theorem m_pk {k : Nat} {cf bf : Nat → Int} : ∀ (n : Nat), (∀ t, t < n → cf t = 1 ∧ (bf t = 0 ∨ bf t = 1)) →
    m_ld k 0 cf bf (fun t => t) n = (b_C k 0 (m_wd n bf) : Int) ∧ m_cnt n (fun t => decide (0 < bf t) && decide (m_lb k (m_ld k 0 cf bf (fun t => t) t) (cf t) (bf t) = 0)) = (b_E k 0 (m_wd n bf) : Int)
  | 0, _ => ⟨rfl, rfl⟩
  | n + 1, h => by
    obtain ⟨i1, i2⟩ := m_pk n (fun t ht => h t (by omega))
    obtain ⟨h1, h2⟩ := h n (by omega)
    have h3 := b_C_le k (m_wd n bf) 0 (by omega)
    rw [m_ld, m_cnt, i2, m_wd_succ, b_C_snoc, b_E_snoc, i1]
    generalize b_C k 0 (m_wd n bf) = c at h3 ⊢
    simp only [h1]
    rcases h2 with h2 | h2
    · simp only [h2, m_lb]
      refine ⟨?_, ?_⟩
      · simp
        omega
      · simp
    · simp only [h2, m_lb]
      by_cases e : c < k
      · refine ⟨?_, ?_⟩
        · simp [e]
          omega
        · have e2 : min (c : Int) (1 - 1) + max 0 ((c : Int) + 1 - k) = 0 := by omega
          simp [e]
          omega
      · refine ⟨?_, ?_⟩
        · simp [e]
          omega
        · have e2 : ¬ (min (c : Int) (1 - 1) + max 0 ((c : Int) + 1 - k) = 0) := by omega
          simp [e]
          omega
theorem m_hd_rem {u : List Bool} : m_hd (b_rem 120 u) = b_cnt u := by
  show m_hd (if b_cnt u = 0 then [] else b_cnt u :: b_rem 119 (b_red u)) = _
  split
  · rename_i h
    rw [h]
    rfl
  · rfl
/-- the balls picked up by a carrier of capacity k: the sizes' sum, each counted up to k -/
theorem m_energy {k n : Nat} {cf bf : Nat → Int} (hn : n ≤ 60) (h : ∀ t, t < n → cf t = 1 ∧ (bf t = 0 ∨ bf t = 1)) :
    m_cnt n (fun t => decide (0 < bf t) && decide (m_lb k (m_ld k 0 cf bf (fun t => t) t) (cf t) (bf t) = 0)) = ((((List.range (m_hd (b_rem 120 (m_u n bf)))).map (fun t => min (b_sz (b_rem 120 (m_u n bf)) t) k)).sum : Nat) : Int) := by
  have hl := m_u_len n bf
  rw [(m_pk n h).2, m_hd_rem, b_szsum 120 k (m_u n bf) (m_u_bal n bf) _ (Nat.le_refl _), ← b_E_sum 120 k (m_u n bf) (m_u_bal n bf) (by omega)]
  unfold m_u
  rw [b_E_app]
section Ms
variable {X : List Int32} {h : c_Hp} {Q : c_O × c_Hp → Prop}
def m_O : List Value := [.ref 1, .ref 4, .ref 23, .ref 25, .ref 28, .ref 31, .ref 34, .ref 37, .ref 39, .ref 41, .ref 52, .ref 55]
theorem s20L {n : Nat} {rg : Value} {cf bf rf : Nat → Int} (ho0 : c_ob h 0 10 m_O) (hr0 : c_ob h 1 6 [.ref 2, .ref 3, n_v ↑n, rg]) (hc0 : c_ar h 2 60 cf) (hb0 : c_ar h 3 60 bf) (hp0 : c_ob h 25 3 [.ref 26, .ref 27, n_v ((b_rem 120 (m_u n bf)).length : Int)]) (hm0 : c_ar h 27 60 rf) (hli : m_li rf (b_rem 120 (m_u n bf))) (hn : n ≤ 60) (hbf : ∀ t, t < n → cf t = 1 ∧ (bf t = 0 ∨ bf t = 1)) (K : ∀ (h2 : c_Hp) (lf2 : Nat → Int) (mo2 : Value), c_ch h h2 [23, 24] → c_ar h2 24 60 lf2 → c_ob h2 23 0 [.ref 24, mo2] → Q (.inl (some (n_v 1)), h2)) : ∀ (m i : Nat) (h1 : c_Hp) (lf : Nat → Int) (mo : Value), i + m = 100 → 1 ≤ i → c_ch h h1 [23, 24] → c_ar h1 24 60 lf → c_ob h1 23 0 [.ref 24, mo] → c_Ev X 20 2 [some (.ref 0), some (n_v ↑i)] [] h1 Q
  | 0, i, h1, lf, mo, e, e1, hch, hl, hd => by
    have ho := ho0.ch hch (by simp)
    have hr := hr0.ch hch (by simp)
    have hc := hc0.ch hch (by simp)
    have hb := hb0.ch hch (by simp)
    have hp := hp0.ch hch (by simp)
    have hm := hm0.ch hch (by simp)
    refine e_st (pc := 2) q20_2 rfl rfl ?_
    refine e_cst (v := 99) (len := 2) (pc := 3) q20_3 rfl rfl (by decide +kernel) ?_
    refine e_cmp true (pc := 5) q20_5 ⟨by omega, by omega⟩ ⟨by omega, by omega⟩ (n_t_gt (by omega)) ?_
    refine e_cst (v := 1) (len := 1) (pc := 39) q20_39 rfl rfl rfl ?_
    refine e_iret (pc := 40) q20_40 rfl rfl rfl (by decide +kernel) ?_
    exact K h1 lf mo hch hl hd
  | m + 1, i, h1, lf, mo, e, e1, hch, hl, hd => by
    have ho := ho0.ch hch (by simp)
    have hr := hr0.ch hch (by simp)
    have hc := hc0.ch hch (by simp)
    have hb := hb0.ch hch (by simp)
    have hp := hp0.ch hch (by simp)
    have hm := hm0.ch hch (by simp)
    have hu := m_u_len n bf
    have hrl := b_rem_len 120 (m_u n bf)
    have hrl2 := b_red_len (m_u n bf)
    have hhd : m_hd (b_rem 120 (m_u n bf)) = b_cnt (m_u n bf) := m_hd_rem
    refine e_st (pc := 2) q20_2 rfl rfl ?_
    refine e_cst (v := 99) (len := 2) (pc := 3) q20_3 rfl rfl (by decide +kernel) ?_
    refine e_cmp false (pc := 5) q20_5 ⟨by omega, by omega⟩ ⟨by omega, by omega⟩ (n_f_gt (by omega)) ?_
    refine e_st (pc := 8) q20_8 rfl rfl ?_
    refine e_getf (pc := 9) q20_9 ho rfl ?_
    refine e_st (pc := 12) q20_12 rfl rfl ?_
    refine e_getf (pc := 13) q20_13 ho rfl ?_
    refine e_st (pc := 16) q20_16 rfl rfl ?_
    refine e_callV (pc := 17) (mz := c_m27) (a := 23) (L0 := [some (.ref 23), some (.ref 1), some (n_v ↑i), none, none]) q20_17 rfl rfl rfl rfl rfl rfl rfl hd rfl rfl ?_
    refine s27 (li := (i : Int)) hr hc hb hl hd hn (fun t ht => by have := hbf t ht; omega) (by omega) (by decide) (fun h2 lf2 mo2 c2 hl hd => ?_)
    rw [m_energy hn hbf]
    have ho := ho.ch c2 (by simp)
    have hp := hp.ch c2 (by simp)
    have hm := hm.ch c2 (by simp)
    refine e_k (pc := 17) ?_
    refine e_st (pc := 20) q20_20 rfl rfl ?_
    refine e_getf (pc := 21) q20_21 ho rfl ?_
    refine e_st (pc := 24) q20_24 rfl rfl ?_
    refine e_callV (pc := 25) (mz := c_m37) (a := 25) (L0 := [some (.ref 25), some (n_v ↑i), none, none]) q20_25 rfl rfl rfl rfl rfl rfl rfl hp rfl rfl ?_
    refine s37 hp hm hli (by omega) (fun x hx => by rw [m_hd_rem]; exact b_rem_le 120 _ (m_u_bal n bf) x hx) (by omega) (by omega) ?_
    refine e_k (pc := 25) ?_
    refine e_st (pc := 28) (pc2 := 33) q20_28 rfl (by show some (if c_cmp _ _ _ then _ else _, _, _, _) = _; rw [show c_cmp .eq (Int32.ofInt ((((List.range (m_hd (b_rem 120 (m_u n bf)))).map (fun t => min (b_sz (b_rem 120 (m_u n bf)) t) i)).sum : Nat) : Int)) (Int32.ofInt ((((List.range (m_hd (b_rem 120 (m_u n bf)))).map (fun t => min (b_sz (b_rem 120 (m_u n bf)) t) i)).sum : Nat) : Int)) = true from decide_eq_true rfl]; rfl) ?_
    refine e_inc (pc := 33) (L2 := [some (.ref 0), some (n_v (↑i + 1))]) q20_33 rfl rfl ?_
    refine e_st (pc := 36) q20_36 rfl rfl ?_
    exact s20L ho0 hr0 hc0 hb0 hp0 hm0 hli hn hbf K m (i + 1) h2 lf2 _ (by omega) (by omega) (hch.tr c2) hl hd
theorem s20 {n : Nat} {rg : Value} {cf bf rf : Nat → Int} (ho0 : c_ob h 0 10 m_O) (hr0 : c_ob h 1 6 [.ref 2, .ref 3, n_v ↑n, rg]) (hc0 : c_ar h 2 60 cf) (hb0 : c_ar h 3 60 bf) (hp0 : c_ob h 25 3 [.ref 26, .ref 27, n_v ((b_rem 120 (m_u n bf)).length : Int)]) (hm0 : c_ar h 27 60 rf) (hli : m_li rf (b_rem 120 (m_u n bf))) (hn : n ≤ 60) (hbf : ∀ t, t < n → cf t = 1 ∧ (bf t = 0 ∨ bf t = 1)) (K : ∀ (h2 : c_Hp) (lf2 : Nat → Int) (mo2 : Value), c_ch h h2 [23, 24] → c_ar h2 24 60 lf2 → c_ob h2 23 0 [.ref 24, mo2] → Q (.inl (some (n_v 1)), h2)) {lf : Nat → Int} {mo : Value} (hl : c_ar h 24 60 lf) (hd : c_ob h 23 0 [.ref 24, mo]) : c_Ev X 20 0 [some (.ref 0), none] [] h Q := by
  refine e_cst (v := 1) (len := 1) (pc := 0) q20_0 rfl rfl rfl ?_
  refine e_st (pc := 1) (L2 := [some (.ref 0), some (n_v 1)]) q20_1 rfl rfl ?_
  exact s20L ho0 hr0 hc0 hb0 hp0 hm0 hli hn hbf K 99 1 h lf mo (by omega) (by omega) (c_ch.rf h _) hl hd
end Ms
end
section
/-! Runs, by the flags of their first balls. -/
def b_fgo : Nat → List Nat → List Bool
  | _, [] => []
  | q, x :: r => decide (q + 1 < x) :: b_fgo x r
def b_fl : List Nat → List Bool
  | [] => []
  | p :: r => true :: b_fgo p r
def b_nx : List Bool → Nat
  | [] => 0
  | true :: _ => 0
  | false :: t => b_nx t + 1
def b_rs : List Bool → List Nat
  | [] => []
  | true :: t => (1 + b_nx t) :: b_rs t
  | false :: t => b_rs t
theorem b_rgo_rs : ∀ (r : List Nat) (q n : Nat), b_rgo q n r = (n + b_nx (b_fgo q r)) :: b_rs (b_fgo q r)
  | [], _, _ => rfl
  | x :: r, q, n => by
    rw [b_rgo, b_fgo]
    by_cases h : q + 1 < x
    · rw [if_pos h, b_rgo_rs r, decide_eq_true h]
      rfl
    · rw [if_neg h, b_rgo_rs r, decide_eq_false h, b_nx, b_rs]
      congr 1
      omega
theorem b_rl_rs (ps : List Nat) : b_rl ps = b_rs (b_fl ps) := by
  cases ps with
  | nil => rfl
  | cons p r => exact b_rgo_rs r p 1
theorem b_fgo_len : ∀ (r : List Nat) (q : Nat), (b_fgo q r).length = r.length
  | [], _ => rfl
  | x :: r, q => by rw [b_fgo, List.length_cons, List.length_cons, b_fgo_len r]
theorem b_fl_len (ps : List Nat) : (b_fl ps).length = ps.length := by
  cases ps with
  | nil => rfl
  | cons p r => rw [b_fl, List.length_cons, List.length_cons, b_fgo_len]
theorem b_fgo_s : ∀ (r : List Nat) (q i x y : Nat), (q :: r)[i]? = some x → r[i]? = some y → (b_fgo q r)[i]? = some (decide (x + 1 < y))
  | [], _, _, _, _, _, h => by simp at h
  | z :: r, q, 0, x, y, h1, h2 => by
    cases h1
    cases h2
    rfl
  | z :: r, q, i + 1, x, y, h1, h2 => by
    rw [b_fgo]
    exact b_fgo_s r z i x y h1 h2
theorem b_fl_s (ps : List Nat) (i x y : Nat) (h1 : ps[i]? = some x) (h2 : ps[i + 1]? = some y) : (b_fl ps)[i + 1]? = some (decide (x + 1 < y)) := by
  cases ps with
  | nil => simp at h1
  | cons p r => exact b_fgo_s r p i x y h1 h2
theorem b_rs_len : ∀ (F : List Bool), (b_rs F).length = (F.filter id).length
  | [] => rfl
  | true :: t => by rw [b_rs, List.length_cons, b_rs_len t]; simp
  | false :: t => by rw [b_rs, b_rs_len t]; simp
theorem b_rs_at : ∀ (F : List Bool) (i : Nat), F[i]? = some true → (b_rs F)[((F.take i).filter id).length]? = some (1 + b_nx (F.drop (i + 1)))
  | [], _, h => by simp at h
  | true :: t, 0, _ => by simp [b_rs]
  | false :: t, 0, h => by cases h
  | true :: t, i + 1, h => by
    have := b_rs_at t i h
    rw [b_rs, List.take_succ_cons, List.filter_cons_of_pos (by rfl), List.length_cons, List.getElem?_cons_succ, this]
    rfl
  | false :: t, i + 1, h => by
    have := b_rs_at t i h
    rw [b_rs, List.take_succ_cons, List.filter_cons_of_neg (by decide), this]
    rfl
theorem b_tk (F : List Bool) (i : Nat) (x : Bool) (h : F[i]? = some x) : ((F.take (i + 1)).filter id).length = ((F.take i).filter id).length + if x = true then 1 else 0 := by
  rw [List.take_succ, h, List.filter_append, List.length_append]
  cases x <;> simp
theorem b_nx_drop (F : List Bool) (i : Nat) (h : F[i]? = some false) : b_nx (F.drop i) = b_nx (F.drop (i + 1)) + 1 := by
  have hl : i < F.length := (List.getElem?_eq_some_iff.mp h).1
  rw [List.drop_eq_getElem_cons hl, (List.getElem?_eq_some_iff.mp h).2]
  rfl
theorem b_nx_true (F : List Bool) (i : Nat) (h : F[i]? = some true) : b_nx (F.drop i) = 0 := by
  have hl : i < F.length := (List.getElem?_eq_some_iff.mp h).1
  rw [List.drop_eq_getElem_cons hl, (List.getElem?_eq_some_iff.mp h).2]
  rfl
theorem b_pos_cons : ∀ (w : List Bool) (o p : Nat) (r : List Nat), b_pos o w = p :: r → o ≤ p ∧ ∃ w', r = b_pos (p + 1) w'
  | [], _, _, _, h => by cases h
  | true :: w, o, p, r, h => by
    rw [b_pos] at h
    cases h
    exact ⟨Nat.le_refl _, w, rfl⟩
  | false :: w, o, p, r, h => by
    rw [b_pos] at h
    have := b_pos_cons w (o + 1) p r h
    exact ⟨by omega, this.2⟩
theorem b_pos_snoc : ∀ (w : List Bool) (o : Nat) (x : Bool), b_pos o (w ++ [x]) = b_pos o w ++ if x then [o + w.length] else []
  | [], o, true => rfl
  | [], o, false => rfl
  | true :: w, o, x => by
    rw [List.cons_append, b_pos, b_pos, b_pos_snoc w, List.length_cons, show o + 1 + w.length = o + (w.length + 1) by omega]
    rfl
  | false :: w, o, x => by rw [List.cons_append, b_pos, b_pos, b_pos_snoc w, List.length_cons, show o + 1 + w.length = o + (w.length + 1) by omega]
theorem b_pos_lt : ∀ (w : List Bool) (o x : Nat), x ∈ b_pos o w → x < o + w.length
  | [], _, _, h => by cases h
  | true :: w, o, x, h => by
    rw [List.length_cons]
    rcases List.mem_cons.mp h with e | e
    · omega
    · have := b_pos_lt w (o + 1) x e
      omega
  | false :: w, o, x, h => by
    have := b_pos_lt w (o + 1) x h
    rw [List.length_cons]
    omega
theorem b_pos_len : ∀ (w : List Bool) (o : Nat), (b_pos o w).length = (w.filter id).length
  | [], _ => rfl
  | true :: w, o => by rw [b_pos, List.length_cons, b_pos_len w]; simp
  | false :: w, o => by rw [b_pos, b_pos_len w]; simp
theorem b_T_cnt : ∀ (w : List Bool) (c : Nat), ((b_T c w).filter id).length = c + (w.filter id).length ∧ (b_T c w).length ≤ w.length + c + (w.filter id).length
  | [], c => by
    have : (List.replicate c true).filter id = List.replicate c true := List.filter_eq_self.mpr (fun x hx => (List.mem_replicate.mp hx).2)
    rw [b_T, this]
    simp
  | true :: w, c => by
    have := b_T_cnt w (c + 1)
    simp [b_T] at this ⊢
    omega
  | false :: w, 0 => by
    have := b_T_cnt w 0
    simp [b_T] at this ⊢
    omega
  | false :: w, c + 1 => by
    have := b_T_cnt w c
    simp [b_T] at this ⊢
    omega
theorem b_it_succ {α : Type} (f : α → α) : ∀ (n : Nat) (x : α), b_it f (n + 1) x = f (b_it f n x)
  | 0, _ => rfl
  | n + 1, x => by
    show b_it f (n + 1) (f x) = f (b_it f n (f x))
    exact b_it_succ f n (f x)
theorem b_Tit_cnt : ∀ (t : Nat) (w : List Bool), ((b_it (b_T 0) t w).filter id).length = (w.filter id).length ∧ (b_it (b_T 0) t w).length ≤ w.length + t * (w.filter id).length
  | 0, w => by simp [b_it]
  | t + 1, w => by
    have h1 := b_Tit_cnt t w
    have h2 := b_T_cnt (b_it (b_T 0) t w) 0
    rw [b_it_succ]
    rw [Nat.succ_mul]
    omega
section Ms
variable {X : List Int32} {h : c_Hp} {Q : c_O × c_Hp → Prop}
theorem s62 {f : Nat → Int} {ps : List Nat} {bl la : Value} {i : Nat} {x : Bool} (hd : c_ob h 28 7 [.ref 29, .ref 30, bl, la]) (hf : c_ar h 29 60 f) (hl : m_li f ps) (hp : ∀ y ∈ ps, y ≤ 100000) (hi : i < 60) (hx : (b_fl ps)[i]? = some x) (K : Q (.inl (some (n_v (m_bt x))), h)) : c_Ev X 62 0 [some (.ref 28), some (n_v ↑i)] [] h Q := by
  have hlen : i < ps.length := by rw [← b_fl_len]; exact (List.getElem?_eq_some_iff.mp hx).1
  rcases i with _ | i
  · refine e_st (pc := 0) q62_0 rfl rfl ?_
    refine e_if true (pc := 1) q62_1 ⟨by omega, by omega⟩ (n_t_eq (by omega)) ?_
    refine e_cst (v := 1) (len := 1) (pc := 23) q62_23 rfl rfl rfl ?_
    refine e_st (pc := 24) q62_24 rfl rfl ?_
    refine e_iret (pc := 28) q62_28 rfl rfl rfl (by decide +kernel) ?_
    cases ps with
    | nil => simp at hlen
    | cons p r =>
      cases hx
      exact K
  · obtain ⟨a, ha⟩ : ∃ a, ps[i]? = some a := ⟨ps[i]'(by omega), List.getElem?_eq_getElem (by omega)⟩
    obtain ⟨b, hb⟩ : ∃ b, ps[i + 1]? = some b := ⟨ps[i + 1]'(by omega), List.getElem?_eq_getElem (by omega)⟩
    have ha2 := hp a (List.mem_of_getElem? ha)
    have hb2 := hp b (List.mem_of_getElem? hb)
    have e := (b_fl_s ps i a b ha hb).symm.trans hx
    cases e
    refine e_st (pc := 0) q62_0 rfl rfl ?_
    refine e_if false (pc := 1) q62_1 ⟨by omega, by omega⟩ (n_f_eq (by omega)) ?_
    refine e_st (pc := 4) q62_4 rfl rfl ?_
    refine e_getf (pc := 5) q62_5 hd rfl ?_
    refine e_st (pc := 8) q62_8 rfl rfl ?_
    refine e_aldv (pc := 9) (j := i + 1) (v := (b : Int)) q62_9 hf (by omega) (by omega) (by omega) (hl _ _ hb) ?_
    refine e_st (pc := 10) q62_10 rfl rfl ?_
    refine e_getf (pc := 11) q62_11 hd rfl ?_
    refine e_st (pc := 14) q62_14 rfl rfl ?_
    refine e_cst (v := 1) (len := 1) (pc := 15) q62_15 rfl rfl rfl ?_
    refine e_sub (pc := 16) q62_16 ?_
    refine e_aldv (pc := 17) (j := i) (v := (a : Int)) q62_17 hf (by omega) (by omega) (by omega) (hl _ _ ha) ?_
    refine e_cst (v := 1) (len := 1) (pc := 18) q62_18 rfl rfl rfl ?_
    refine e_add (pc := 19) q62_19 ?_
    by_cases hc : a + 1 < b
    · refine e_cmp false (pc := 20) q62_20 ⟨by omega, by omega⟩ ⟨by omega, by omega⟩ (n_f_le (by omega)) ?_
      refine e_cst (v := 1) (len := 1) (pc := 23) q62_23 rfl rfl rfl ?_
      refine e_st (pc := 24) q62_24 rfl rfl ?_
      refine e_iret (pc := 28) q62_28 rfl rfl rfl (by decide +kernel) ?_
      rw [decide_eq_true hc] at K
      exact K
    · refine e_cmp true (pc := 20) q62_20 ⟨by omega, by omega⟩ ⟨by omega, by omega⟩ (n_t_le (by omega)) ?_
      refine e_cst (v := 0) (len := 1) (pc := 27) q62_27 rfl rfl rfl ?_
      refine e_iret (pc := 28) q62_28 rfl rfl rfl (by decide +kernel) ?_
      rw [decide_eq_false hc] at K
      exact K
theorem s63L {f : Nat → Int} {ps : List Nat} {la : Value} (hd : c_ob h 28 7 [.ref 29, .ref 30, n_v (ps.length : Int), la]) (hf : c_ar h 29 60 f) (hl : m_li f ps) (hp : ∀ y ∈ ps, y ≤ 100000) (hn : ps.length ≤ 60) (K : Q (.inl (some (n_v (((b_fl ps).filter id).length : Int))), h)) : ∀ (m i : Nat), i + m = ps.length → c_Ev X 63 4 [some (.ref 28), some (n_v ((((b_fl ps).take i).filter id).length : Int)), some (n_v ↑i)] [] h Q
  | 0, i, e => by
    refine e_st (pc := 4) q63_4 rfl rfl ?_
    refine e_st (pc := 5) q63_5 rfl rfl ?_
    refine e_getf (pc := 6) q63_6 hd rfl ?_
    refine e_cmp true (pc := 9) q63_9 ⟨by omega, by omega⟩ ⟨by omega, by omega⟩ (n_t_ge (by omega)) ?_
    refine e_st (pc := 29) q63_29 rfl rfl ?_
    refine e_iret (pc := 30) q63_30 rfl rfl rfl rfl ?_
    rw [show i = (b_fl ps).length by rw [b_fl_len]; omega, List.take_length]
    exact K
  | m + 1, i, e => by
    obtain ⟨x, hx⟩ : ∃ x, (b_fl ps)[i]? = some x := ⟨(b_fl ps)[i]'(by rw [b_fl_len]; omega), List.getElem?_eq_getElem (by rw [b_fl_len]; omega)⟩
    have htk := b_tk (b_fl ps) i x hx
    have htl := List.length_filter_le id ((b_fl ps).take i)
    have htl2 : ((b_fl ps).take i).length ≤ i := List.length_take_le _ _
    have ih := s63L hd hf hl hp hn K m (i + 1) (by omega)
    refine e_st (pc := 4) q63_4 rfl rfl ?_
    refine e_st (pc := 5) q63_5 rfl rfl ?_
    refine e_getf (pc := 6) q63_6 hd rfl ?_
    refine e_cmp false (pc := 9) q63_9 ⟨by omega, by omega⟩ ⟨by omega, by omega⟩ (n_f_ge (by omega)) ?_
    refine e_st (pc := 12) q63_12 rfl rfl ?_
    refine e_st (pc := 13) q63_13 rfl rfl ?_
    refine e_callV (pc := 14) (mz := c_m62) (a := 28) (L0 := [some (.ref 28), some (n_v ↑i)]) q63_14 rfl rfl rfl rfl rfl rfl rfl hd rfl rfl ?_
    refine s62 hd hf hl hp (by omega) hx ?_
    refine e_k (pc := 14) ?_
    cases x
    · refine e_if true (pc := 17) q63_17 ⟨by decide, by decide⟩ (by decide) ?_
      refine e_inc (pc := 23) (L2 := [some (.ref 28), some (n_v ((((b_fl ps).take i).filter id).length : Int)), some (n_v (↑i + 1))]) q63_23 rfl rfl ?_
      refine e_st (pc := 26) q63_26 rfl rfl ?_
      have e3 : ((((b_fl ps).take (i + 1)).filter id).length : Int) = ((((b_fl ps).take i).filter id).length : Int) := by rw [htk]; simp
      rw [e3] at ih
      exact ih
    · refine e_if false (pc := 17) q63_17 ⟨by decide, by decide⟩ (by decide) ?_
      refine e_inc (pc := 20) (L2 := [some (.ref 28), some (n_v (((((b_fl ps).take i).filter id).length : Int) + 1)), some (n_v ↑i)]) q63_20 rfl rfl ?_
      refine e_inc (pc := 23) (L2 := [some (.ref 28), some (n_v (((((b_fl ps).take i).filter id).length : Int) + 1)), some (n_v (↑i + 1))]) q63_23 rfl rfl ?_
      refine e_st (pc := 26) q63_26 rfl rfl ?_
      have e3 : ((((b_fl ps).take (i + 1)).filter id).length : Int) = ((((b_fl ps).take i).filter id).length : Int) + 1 := by rw [htk]; simp
      rw [e3] at ih
      exact ih
theorem s63 {f : Nat → Int} {ps : List Nat} {la : Value} (hd : c_ob h 28 7 [.ref 29, .ref 30, n_v (ps.length : Int), la]) (hf : c_ar h 29 60 f) (hl : m_li f ps) (hp : ∀ y ∈ ps, y ≤ 100000) (hn : ps.length ≤ 60) (K : Q (.inl (some (n_v (((b_fl ps).filter id).length : Int))), h)) : c_Ev X 63 0 [some (.ref 28), none, none] [] h Q := by
  refine e_cst (v := 0) (len := 1) (pc := 0) q63_0 rfl rfl rfl ?_
  refine e_st (pc := 1) (L2 := [some (.ref 28), some (n_v 0), none]) q63_1 rfl rfl ?_
  refine e_cst (v := 0) (len := 1) (pc := 2) q63_2 rfl rfl rfl ?_
  refine e_st (pc := 3) (L2 := [some (.ref 28), some (n_v 0), some (n_v 0)]) q63_3 rfl rfl ?_
  exact s63L hd hf hl hp hn K ps.length 0 (by omega)
theorem s64L {f : Nat → Int} {ps : List Nat} {la : Value} (hd : c_ob h 28 7 [.ref 29, .ref 30, n_v (ps.length : Int), la]) (hf : c_ar h 29 60 f) (hl : m_li f ps) (hp : ∀ y ∈ ps, y ≤ 100000) (hn : ps.length ≤ 60) {run : Nat} (hrun : run < ((b_fl ps).filter id).length) (K : ∀ i : Nat, i < ps.length → (b_fl ps)[i]? = some true → (((b_fl ps).take i).filter id).length = run → Q (.inl (some (n_v ↑i)), h)) : ∀ (m i : Nat), i + m = ps.length → (((b_fl ps).take i).filter id).length ≤ run → c_Ev X 64 4 [some (.ref 28), some (n_v ↑run), some (n_v ((((b_fl ps).take i).filter id).length : Int)), some (n_v ↑i)] [] h Q
  | 0, i, e, hle => by
    rw [show i = (b_fl ps).length by rw [b_fl_len]; omega, List.take_length] at hle
    omega
  | m + 1, i, e, hle => by
    obtain ⟨x, hx⟩ : ∃ x, (b_fl ps)[i]? = some x := ⟨(b_fl ps)[i]'(by rw [b_fl_len]; omega), List.getElem?_eq_getElem (by rw [b_fl_len]; omega)⟩
    have htk := b_tk (b_fl ps) i x hx
    have htl := List.length_filter_le id ((b_fl ps).take i)
    have htl2 : ((b_fl ps).take i).length ≤ i := List.length_take_le _ _
    have hrl : ((b_fl ps).filter id).length ≤ (b_fl ps).length := List.length_filter_le _ _
    rw [b_fl_len] at hrl
    refine e_st (pc := 4) q64_4 rfl rfl ?_
    refine e_st (pc := 5) q64_5 rfl rfl ?_
    refine e_getf (pc := 6) q64_6 hd rfl ?_
    refine e_cmp false (pc := 9) q64_9 ⟨by omega, by omega⟩ ⟨by omega, by omega⟩ (n_f_ge (by omega)) ?_
    refine e_st (pc := 12) q64_12 rfl rfl ?_
    refine e_st (pc := 13) q64_13 rfl rfl ?_
    refine e_callV (pc := 14) (mz := c_m62) (a := 28) (L0 := [some (.ref 28), some (n_v ↑i)]) q64_14 rfl rfl rfl rfl rfl rfl rfl hd rfl rfl ?_
    refine s62 hd hf hl hp (by omega) hx ?_
    refine e_k (pc := 14) ?_
    cases x
    · refine e_if true (pc := 17) q64_17 ⟨by decide, by decide⟩ (by decide) ?_
      refine e_inc (pc := 30) (L2 := [some (.ref 28), some (n_v ↑run), some (n_v ((((b_fl ps).take i).filter id).length : Int)), some (n_v (↑i + 1))]) q64_30 rfl rfl ?_
      refine e_st (pc := 33) q64_33 rfl rfl ?_
      have e2 : (((b_fl ps).take (i + 1)).filter id).length = (((b_fl ps).take i).filter id).length := by rw [htk]; simp
      have ih := s64L hd hf hl hp hn hrun K m (i + 1) (by omega) (by omega)
      rw [e2] at ih
      exact ih
    · refine e_if false (pc := 17) q64_17 ⟨by decide, by decide⟩ (by decide) ?_
      refine e_st (pc := 20) q64_20 rfl rfl ?_
      refine e_st (pc := 21) q64_21 rfl rfl ?_
      by_cases hc : (((b_fl ps).take i).filter id).length = run
      · refine e_cmp false (pc := 22) q64_22 ⟨by omega, by omega⟩ ⟨by omega, by omega⟩ (n_f_ne (by omega)) ?_
        refine e_st (pc := 25) q64_25 rfl rfl ?_
        refine e_iret (pc := 26) q64_26 rfl rfl rfl rfl ?_
        exact K i (by omega) hx hc
      · refine e_cmp true (pc := 22) q64_22 ⟨by omega, by omega⟩ ⟨by omega, by omega⟩ (n_t_ne (by omega)) ?_
        refine e_inc (pc := 27) (L2 := [some (.ref 28), some (n_v ↑run), some (n_v (((((b_fl ps).take i).filter id).length : Int) + 1)), some (n_v ↑i)]) q64_27 rfl rfl ?_
        refine e_inc (pc := 30) (L2 := [some (.ref 28), some (n_v ↑run), some (n_v (((((b_fl ps).take i).filter id).length : Int) + 1)), some (n_v (↑i + 1))]) q64_30 rfl rfl ?_
        refine e_st (pc := 33) q64_33 rfl rfl ?_
        have e2 : (((b_fl ps).take (i + 1)).filter id).length = (((b_fl ps).take i).filter id).length + 1 := by rw [htk]; simp
        have ih := s64L hd hf hl hp hn hrun K m (i + 1) (by omega) (by omega)
        rw [e2] at ih
        exact ih
theorem s64 {f : Nat → Int} {ps : List Nat} {la : Value} (hd : c_ob h 28 7 [.ref 29, .ref 30, n_v (ps.length : Int), la]) (hf : c_ar h 29 60 f) (hl : m_li f ps) (hp : ∀ y ∈ ps, y ≤ 100000) (hn : ps.length ≤ 60) {run : Nat} (hrun : run < ((b_fl ps).filter id).length) (K : ∀ i : Nat, i < ps.length → (b_fl ps)[i]? = some true → (((b_fl ps).take i).filter id).length = run → Q (.inl (some (n_v ↑i)), h)) : c_Ev X 64 0 [some (.ref 28), some (n_v ↑run), none, none] [] h Q := by
  refine e_cst (v := 0) (len := 1) (pc := 0) q64_0 rfl rfl rfl ?_
  refine e_st (pc := 1) (L2 := [some (.ref 28), some (n_v ↑run), some (n_v 0), none]) q64_1 rfl rfl ?_
  refine e_cst (v := 0) (len := 1) (pc := 2) q64_2 rfl rfl rfl ?_
  refine e_st (pc := 3) (L2 := [some (.ref 28), some (n_v ↑run), some (n_v 0), some (n_v 0)]) q64_3 rfl rfl ?_
  exact s64L hd hf hl hp hn hrun K ps.length 0 (by omega) (by simp)
theorem s65L {f : Nat → Int} {ps : List Nat} {la : Value} (hd : c_ob h 28 7 [.ref 29, .ref 30, n_v (ps.length : Int), la]) (hf : c_ar h 29 60 f) (hl : m_li f ps) (hp : ∀ y ∈ ps, y ≤ 100000) (hn : ps.length ≤ 60) {i : Nat} (K : Q (.inl (some (n_v ((1 + b_nx ((b_fl ps).drop (i + 1)) : Nat) : Int))), h)) : ∀ (m e : Nat), e + m = ps.length → i + 1 ≤ e → b_nx ((b_fl ps).drop (i + 1)) = (e - (i + 1)) + b_nx ((b_fl ps).drop e) → c_Ev X 65 4 [some (.ref 28), some (n_v ↑i), some (n_v ↑e)] [] h Q
  | 0, e, hm, he, hx => by
    have e9 : b_nx ((b_fl ps).drop e) = 0 := by rw [List.drop_eq_nil_of_le (by rw [b_fl_len]; omega)]; rfl
    refine e_st (pc := 4) q65_4 rfl rfl ?_
    refine e_st (pc := 5) q65_5 rfl rfl ?_
    refine e_getf (pc := 6) q65_6 hd rfl ?_
    refine e_cmp true (pc := 9) q65_9 ⟨by omega, by omega⟩ ⟨by omega, by omega⟩ (n_t_ge (by omega)) ?_
    refine e_st (pc := 26) q65_26 rfl rfl ?_
    refine e_st (pc := 27) q65_27 rfl rfl ?_
    refine e_sub (pc := 28) q65_28 ?_
    refine e_iret (pc := 29) q65_29 rfl rfl rfl rfl ?_
    have e4 : (e : Int) - (i : Int) = ((1 + b_nx ((b_fl ps).drop (i + 1)) : Nat) : Int) := by omega
    rw [e4]
    exact K
  | m + 1, e, hm, he, hnx => by
    obtain ⟨x, hx⟩ : ∃ x, (b_fl ps)[e]? = some x := ⟨(b_fl ps)[e]'(by rw [b_fl_len]; omega), List.getElem?_eq_getElem (by rw [b_fl_len]; omega)⟩
    refine e_st (pc := 4) q65_4 rfl rfl ?_
    refine e_st (pc := 5) q65_5 rfl rfl ?_
    refine e_getf (pc := 6) q65_6 hd rfl ?_
    refine e_cmp false (pc := 9) q65_9 ⟨by omega, by omega⟩ ⟨by omega, by omega⟩ (n_f_ge (by omega)) ?_
    refine e_st (pc := 12) q65_12 rfl rfl ?_
    refine e_st (pc := 13) q65_13 rfl rfl ?_
    refine e_callV (pc := 14) (mz := c_m62) (a := 28) (L0 := [some (.ref 28), some (n_v ↑e)]) q65_14 rfl rfl rfl rfl rfl rfl rfl hd rfl rfl ?_
    refine s62 hd hf hl hp (by omega) hx ?_
    refine e_k (pc := 14) ?_
    cases x
    · refine e_if false (pc := 17) q65_17 ⟨by decide, by decide⟩ (by decide) ?_
      refine e_inc (pc := 20) (L2 := [some (.ref 28), some (n_v ↑i), some (n_v (↑e + 1))]) q65_20 rfl rfl ?_
      refine e_st (pc := 23) q65_23 rfl rfl ?_
      have h3 := b_nx_drop _ _ hx
      exact s65L hd hf hl hp hn K m (e + 1) (by omega) (by omega) (by omega)
    · have e9 := b_nx_true _ _ hx
      refine e_if true (pc := 17) q65_17 ⟨by decide, by decide⟩ (by decide) ?_
      refine e_st (pc := 26) q65_26 rfl rfl ?_
      refine e_st (pc := 27) q65_27 rfl rfl ?_
      refine e_sub (pc := 28) q65_28 ?_
      refine e_iret (pc := 29) q65_29 rfl rfl rfl rfl ?_
      have e4 : (e : Int) - (i : Int) = ((1 + b_nx ((b_fl ps).drop (i + 1)) : Nat) : Int) := by omega
      rw [e4]
      exact K
theorem s65 {f : Nat → Int} {ps : List Nat} {la : Value} (hd : c_ob h 28 7 [.ref 29, .ref 30, n_v (ps.length : Int), la]) (hf : c_ar h 29 60 f) (hl : m_li f ps) (hp : ∀ y ∈ ps, y ≤ 100000) (hn : ps.length ≤ 60) {i : Nat} (hi : i < ps.length) (K : Q (.inl (some (n_v ((1 + b_nx ((b_fl ps).drop (i + 1)) : Nat) : Int))), h)) : c_Ev X 65 0 [some (.ref 28), some (n_v ↑i), none] [] h Q := by
  refine e_st (pc := 0) q65_0 rfl rfl ?_
  refine e_cst (v := 1) (len := 1) (pc := 1) q65_1 rfl rfl rfl ?_
  refine e_add (pc := 2) q65_2 ?_
  refine e_st (pc := 3) (L2 := [some (.ref 28), some (n_v ↑i), some (n_v (↑i + 1))]) q65_3 rfl rfl ?_
  exact s65L hd hf hl hp hn K (ps.length - (i + 1)) (i + 1) (by omega) (by omega) (by omega)
end Ms
end
section
/-! The walk of the runs. -/
section Ms
variable {X : List Int32} {h : c_Hp} {Q : c_O × c_Hp → Prop}
theorem s61L {bl : Value} {ld fp cn : Nat} {nf : Nat → Int} (hcn : ld + cn ≤ 60) (hfp : fp ≤ 100000) (K : ∀ (h2 : c_Hp), c_ch h h2 [28, 30] → c_ob h2 28 7 [.ref 29, .ref 30, bl, n_v ((ld + cn : Nat) : Int)] → c_ar h2 30 60 (fun t => if ld ≤ t ∧ t < ld + cn then ((fp + (t - ld) : Nat) : Int) else nf t) → Q (.inl none, h2)) :
  ∀ (m g : Nat) (h1 : c_Hp) (f : Nat → Int), g + m = cn → c_ch h h1 [28, 30] → c_ob h1 28 7 [.ref 29, .ref 30, bl, n_v ((ld + g : Nat) : Int)] → c_ar h1 30 60 f → (∀ t, f t = if ld ≤ t ∧ t < ld + g then ((fp + (t - ld) : Nat) : Int) else nf t) →
  c_Ev X 61 2 [some (.ref 28), some (n_v ↑fp), some (n_v ↑cn), some (n_v ↑g)] [] h1 Q
  | 0, g, h1, f, e, hch, hd, hr, hf => by
    have e2 : g = cn := by omega
    subst e2
    refine e_st (pc := 2) q61_2 rfl rfl ?_
    refine e_st (pc := 3) q61_3 rfl rfl ?_
    refine e_cmp true (pc := 4) q61_4 ⟨by omega, by omega⟩ ⟨by omega, by omega⟩ (n_t_ge (by omega)) ?_
    refine e_ret (pc := 44) q61_44 rfl rfl rfl ?_
    have e3 : f = fun t => if ld ≤ t ∧ t < ld + g then ((fp + (t - ld) : Nat) : Int) else nf t := funext hf
    rw [e3] at hr
    exact K h1 hch hd hr
  | m + 1, g, h0, f, e, hch, hd, hr, hf => by
    refine e_st (pc := 2) q61_2 rfl rfl ?_
    refine e_st (pc := 3) q61_3 rfl rfl ?_
    refine e_cmp false (pc := 4) q61_4 ⟨by omega, by omega⟩ ⟨by omega, by omega⟩ (n_f_ge (by omega)) ?_
    refine e_st (pc := 7) q61_7 rfl rfl ?_
    refine e_getf (pc := 8) q61_8 hd rfl ?_
    refine e_cst (v := 60) (len := 2) (pc := 11) q61_11 rfl rfl (by decide +kernel) ?_
    refine e_cmp false (pc := 13) q61_13 ⟨by omega, by omega⟩ ⟨by omega, by omega⟩ (n_f_ge (by omega)) ?_
    refine e_st (pc := 16) q61_16 rfl rfl ?_
    refine e_getf (pc := 17) q61_17 hd rfl ?_
    refine e_st (pc := 20) q61_20 rfl rfl ?_
    refine e_getf (pc := 21) q61_21 hd rfl ?_
    refine e_st (pc := 24) q61_24 rfl rfl ?_
    refine e_st (pc := 25) q61_25 rfl rfl ?_
    refine e_add (pc := 26) q61_26 ?_
    refine e_ast (pc := 27) (j := ld + g) q61_27 hr (by omega) (by omega) (by omega) (fun h1 u1 => ?_)
    have hd := hd.up u1 (by omega)
    have hr : c_ar h1 30 60 (fun t => if t = ld + g then (↑fp + ↑g) else f t) := u1.2.1
    refine e_st (pc := 28) q61_28 rfl rfl ?_
    refine e_st (pc := 29) q61_29 rfl rfl ?_
    refine e_getf (pc := 30) q61_30 hd rfl ?_
    refine e_cst (v := 1) (len := 1) (pc := 33) q61_33 rfl rfl rfl ?_
    refine e_add (pc := 34) q61_34 ?_
    refine e_putf (pc := 35) (fs2 := [.ref 29, .ref 30, bl, n_v (((ld + g : Nat) : Int) + 1)]) q61_35 hd (c_okv_i _) (Nat.le_of_ble_eq_true rfl) rfl (fun h2 u2 => ?_)
    have hr := hr.up u2 (by omega)
    have hd : c_ob h2 28 7 [.ref 29, .ref 30, bl, n_v (((ld + g : Nat) : Int) + 1)] := u2.2.1
    refine e_inc (pc := 38) (L2 := [some (.ref 28), some (n_v ↑fp), some (n_v ↑cn), some (n_v (↑g + 1))]) q61_38 rfl rfl ?_
    refine e_st (pc := 41) q61_41 rfl rfl ?_
    refine s61L hcn hfp K m (g + 1) h2 _ (by omega) ((hch.up u1 (by simp)).up u2 (by simp)) hd hr (fun t => ?_)
    by_cases e2 : t = ld + g
    · rw [if_pos e2, if_pos (by omega)]
      omega
    · rw [if_neg e2, hf t]
      by_cases e3 : ld ≤ t ∧ t < ld + g
      · rw [if_pos e3, if_pos (by omega)]
      · rw [if_neg e3, if_neg (by omega)]
theorem s61 {bl : Value} {ld fp cn : Nat} {nf : Nat → Int} (hcn : ld + cn ≤ 60) (hfp : fp ≤ 100000) (hd : c_ob h 28 7 [.ref 29, .ref 30, bl, n_v (ld : Int)]) (hr : c_ar h 30 60 nf) (K : ∀ (h2 : c_Hp), c_ch h h2 [28, 30] → c_ob h2 28 7 [.ref 29, .ref 30, bl, n_v ((ld + cn : Nat) : Int)] → c_ar h2 30 60 (fun t => if ld ≤ t ∧ t < ld + cn then ((fp + (t - ld) : Nat) : Int) else nf t) → Q (.inl none, h2)) :
  c_Ev X 61 0 [some (.ref 28), some (n_v ↑fp), some (n_v ↑cn), none] [] h Q := by
  refine e_cst (v := 0) (len := 1) (pc := 0) q61_0 rfl rfl rfl ?_
  refine e_st (pc := 1) (L2 := [some (.ref 28), some (n_v ↑fp), some (n_v ↑cn), some (n_v 0)]) q61_1 rfl rfl ?_
  exact s61L hcn hfp K cn 0 h nf (by omega) (c_ch.rf h _) hd hr (fun t => by rw [if_neg (by omega)])
def m_rst (c : Nat) : List Nat → List Nat
  | [] => []
  | p :: r => b_H (c + 1) (p + 1) r
theorem s60C {ps : List Nat} {f nf : Nat → Int} {la : Value} (hn : ps.length ≤ 60) (hnf : m_li nf (b_G ps)) (hgl : (b_G ps).length = ps.length) (hd0 : c_ob h 28 7 [.ref 29, .ref 30, n_v (ps.length : Int), la]) (hr0 : c_ar h 30 60 nf)
    (K : ∀ (h2 : c_Hp) (f2 : Nat → Int), c_ch h h2 [29] → c_ar h2 29 60 f2 → m_li f2 (b_G ps) → Q (.inl none, h2)) : ∀ (m i : Nat) (h1 : c_Hp) (f : Nat → Int) (x2 x3 x4 : Option Value), i + m = ps.length → c_ch h h1 [29] → c_ar h1 29 60 f → (∀ t, t < i → f t = nf t) → c_Ev X 60 94 [some (.ref 28), some (n_v ↑i), x2, x3, x4] [] h1 Q
  | 0, i, h1, f, x2, x3, x4, e, hch, hf, hcp => by
    have hd := hd0.ch hch (by simp)
    have hr := hr0.ch hch (by simp)
    refine e_st (pc := 94) q60_94 rfl rfl ?_
    refine e_st (pc := 95) q60_95 rfl rfl ?_
    refine e_getf (pc := 96) q60_96 hd rfl ?_
    refine e_cmp true (pc := 99) q60_99 ⟨by omega, by omega⟩ ⟨by omega, by omega⟩ (n_t_ge (by omega)) ?_
    refine e_ret (pc := 120) q60_120 rfl rfl rfl ?_
    refine K h1 f hch hf (fun j x hx => ?_)
    have hj : j < (b_G ps).length := (List.getElem?_eq_some_iff.mp hx).1
    rw [hcp j (by omega)]
    exact hnf j x hx
  | m + 1, i, h0, f, x2, x3, x4, e, hch, hf, hcp => by
    have hd := hd0.ch hch (by simp)
    have hr := hr0.ch hch (by simp)
    refine e_st (pc := 94) q60_94 rfl rfl ?_
    refine e_st (pc := 95) q60_95 rfl rfl ?_
    refine e_getf (pc := 96) q60_96 hd rfl ?_
    refine e_cmp false (pc := 99) q60_99 ⟨by omega, by omega⟩ ⟨by omega, by omega⟩ (n_f_ge (by omega)) ?_
    refine e_st (pc := 102) q60_102 rfl rfl ?_
    refine e_getf (pc := 103) q60_103 hd rfl ?_
    refine e_st (pc := 106) q60_106 rfl rfl ?_
    refine e_st (pc := 107) q60_107 rfl rfl ?_
    refine e_getf (pc := 108) q60_108 hd rfl ?_
    refine e_st (pc := 111) q60_111 rfl rfl ?_
    refine e_ald (pc := 112) (j := i) q60_112 hr (by omega) (by omega) (by omega) ?_
    refine e_ast (pc := 113) (j := i) q60_113 hf (by omega) (by omega) (by omega) (fun h1 u1 => ?_)
    have hd := hd.up u1 (by omega)
    have hr := hr.up u1 (by omega)
    have hf : c_ar h1 29 60 (fun t => if t = i then (nf i) else f t) := u1.2.1
    refine e_inc (pc := 114) (L2 := [some (.ref 28), some (n_v (↑i + 1)), x2, x3, x4]) q60_114 rfl rfl ?_
    refine e_st (pc := 117) q60_117 rfl rfl ?_
    refine s60C (f := f) hn hnf hgl hd0 hr0 K m (i + 1) h1 _ _ _ _ (by omega) (hch.up u1 (by simp)) hf (fun t ht => ?_)
    by_cases e2 : t = i
    · rw [if_pos e2, e2]
    · rw [if_neg e2]
      exact hcp t (by omega)
theorem s60L {ps : List Nat} {f : Nat → Int} (hn : ps.length ≤ 60) (hp : ∀ y ∈ ps, y ≤ 50000) (hl : m_li f ps) (hf0 : c_ar h 29 60 f)
    (K : ∀ (h2 : c_Hp) (nf : Nat → Int) (la : Value), c_ch h h2 [28, 30] → c_ob h2 28 7 [.ref 29, .ref 30, n_v (ps.length : Int), la] → c_ar h2 30 60 nf → m_li nf (b_G ps) → (b_G ps).length = ps.length → ∀ x2 x3 x4 : Option Value, c_Ev X 60 92 [some (.ref 28), some (n_v (ps.length : Int)), x2, x3, x4] [] h2 Q) :
  ∀ (q : List Nat) (i c : Nat) (E : List Nat) (h1 : c_Hp) (nf : Nat → Int) (x2 x3 x4 : Option Value), i + q.length = ps.length → (∀ j, q[j]? = ps[i + j]?) → (∃ o w, q = b_pos o w) → E.length + c = i → (q = [] → c = 0) → b_G ps = E ++ m_rst c q → c_ch h h1 [28, 30] → c_ob h1 28 7 [.ref 29, .ref 30, n_v (ps.length : Int), n_v (E.length : Int)] → c_ar h1 30 60 nf → m_li nf E →
  c_Ev X 60 7 [some (.ref 28), some (n_v ↑i), x2, x3, x4] [] h1 Q
  | [], i, c, E, h1, nf, x2, x3, x4, e, hq, hw, hE, hc, hG, hch, hd, hr, hE2 => by
    simp only [List.length_nil, Nat.add_zero] at e
    refine e_st (pc := 7) q60_7 rfl rfl ?_
    refine e_st (pc := 8) q60_8 rfl rfl ?_
    refine e_getf (pc := 9) q60_9 hd rfl ?_
    refine e_cmp true (pc := 12) q60_12 ⟨by omega, by omega⟩ ⟨by omega, by omega⟩ (n_t_ge (by omega)) ?_
    have e0 := hc rfl
    subst e0
    rw [m_rst, List.append_nil] at hG
    rw [← hG] at hE2 hE
    subst e
    exact K h1 nf _ hch hd hr hE2 (by omega) x2 x3 x4
  | p :: q, i, c, E, h0, nf, x2, x3, x4, e, hq, hw, hE, hc, hG, hch, hd, hr, hE2 => by
    simp only [List.length_cons] at e
    have hf := hf0.ch hch (by simp)
    have hp0 : ps[i]? = some p := by rw [← Nat.add_zero i, ← hq 0]; rfl
    have hp1 := hl i p hp0
    have hp2 := hp p (List.mem_of_getElem? hp0)
    obtain ⟨o, w, hw⟩ := hw
    obtain ⟨ho, w1, hw1⟩ := b_pos_cons w o p q hw.symm
    have hE3 : ∀ (M : Nat), E.length + M ≤ 60 → m_li (fun t => if E.length ≤ t ∧ t < E.length + M then ((p + 1 + (t - E.length) : Nat) : Int) else nf t) (E ++ List.range' (p + 1) M) := by
      intro M hM j x hx
      by_cases h1 : j < E.length
      · rw [List.getElem?_append_left h1] at hx
        show (if _ then _ else nf j) = _
        rw [if_neg (by omega)]
        exact hE2 j x hx
      · rw [List.getElem?_append_right (by omega)] at hx
        obtain ⟨h2, h3⟩ := List.getElem?_eq_some_iff.mp hx
        rw [List.length_range'] at h2
        rw [List.getElem_range'] at h3
        show (if _ then _ else nf j) = _
        rw [if_pos (by omega)]
        omega
    cases q with
    | nil =>
      simp only [List.length_nil, Nat.add_zero] at e
      refine e_st (pc := 7) q60_7 rfl rfl ?_
      refine e_st (pc := 8) q60_8 rfl rfl ?_
      refine e_getf (pc := 9) q60_9 hd rfl ?_
      refine e_cmp false (pc := 12) q60_12 ⟨by omega, by omega⟩ ⟨by omega, by omega⟩ (n_f_ge (by omega)) ?_
      refine e_st (pc := 15) q60_15 rfl rfl ?_
      refine e_st (pc := 16) q60_16 rfl rfl ?_
      refine e_getf (pc := 17) q60_17 hd rfl ?_
      refine e_cst (v := 1) (len := 1) (pc := 20) q60_20 rfl rfl rfl ?_
      refine e_sub (pc := 21) q60_21 ?_
      refine e_cmp false (pc := 22) q60_22 ⟨by omega, by omega⟩ ⟨by omega, by omega⟩ (n_f_ne (by omega)) ?_
      refine e_cst (v := 1) (len := 1) (pc := 25) q60_25 rfl rfl rfl ?_
      refine e_st (pc := 26) q60_26 rfl rfl ?_
      refine e_st (pc := 30) (L2 := [some (.ref 28), some (n_v ↑i), some (n_v 1), x3, x4]) q60_30 rfl rfl ?_
      refine e_st (pc := 31) q60_31 rfl rfl ?_
      refine e_if false (pc := 32) q60_32 ⟨by omega, by omega⟩ (n_f_eq (by omega)) ?_
      refine e_cst (v := 60) (len := 2) (pc := 35) q60_35 rfl rfl (by decide +kernel) ?_
      refine e_st (pc := 37) q60_37 rfl rfl ?_
      refine e_st (pc := 57) (L2 := [some (.ref 28), some (n_v ↑i), some (n_v 1), some (n_v 60), x4]) q60_57 rfl rfl ?_
      refine e_st (pc := 58) q60_58 rfl rfl ?_
      refine e_cst (v := 1) (len := 1) (pc := 59) q60_59 rfl rfl rfl ?_
      refine e_add (pc := 60) q60_60 ?_
      refine e_st (pc := 61) q60_61 rfl rfl ?_
      refine e_getf (pc := 62) q60_62 hd rfl ?_
      refine e_sub (pc := 65) q60_65 ?_
      refine e_st (pc := 66) (L2 := [some (.ref 28), some (n_v ↑i), some (n_v 1), some (n_v 60), some (n_v ((↑i + 1) - (E.length : Int)))]) q60_66 rfl rfl ?_
      refine e_st (pc := 68) q60_68 rfl rfl ?_
      refine e_st (pc := 69) q60_69 rfl rfl ?_
      refine e_getf (pc := 70) q60_70 hd rfl ?_
      refine e_st (pc := 73) q60_73 rfl rfl ?_
      refine e_aldv (pc := 74) (j := i) (v := (p : Int)) q60_74 hf (by omega) (by omega) (by omega) hp1 ?_
      refine e_cst (v := 1) (len := 1) (pc := 75) q60_75 rfl rfl rfl ?_
      refine e_add (pc := 76) q60_76 ?_
      refine e_st (pc := 77) q60_77 rfl rfl ?_
      refine e_st (pc := 79) q60_79 rfl rfl ?_
      refine e_min (pc := 80) q60_80 ⟨by omega, by omega⟩ ⟨by omega, by omega⟩ (Nat.le_of_ble_eq_true rfl) ?_
      have e1 : min ((i : Int) + 1 - (E.length : Int)) 60 = ((c + 1 : Nat) : Int) := by omega
      have e2 : (p : Int) + 1 = ((p + 1 : Nat) : Int) := by omega
      rw [e1, e2]
      refine e_callV (pc := 83) (mz := c_m61) (a := 28) (L0 := [some (.ref 28), some (n_v ((p + 1 : Nat) : Int)), some (n_v ((c + 1 : Nat) : Int)), none]) q60_83 rfl rfl rfl rfl rfl rfl rfl hd rfl rfl ?_
      refine s61 (ld := E.length) (fp := p + 1) (cn := c + 1) (by omega) (by omega) hd hr (fun h1 c1 hd hr => ?_)
      refine e_k0 (pc := 83) ?_
      refine e_inc (pc := 86) (L2 := [some (.ref 28), some (n_v (↑i + 1)), some (n_v 1), some (n_v 60), some (n_v ((↑i + 1) - (E.length : Int)))]) q60_86 rfl rfl ?_
      refine e_st (pc := 89) q60_89 rfl rfl ?_
      refine s60L hn hp hl hf0 K [] (i + 1) 0 (E ++ List.range' (p + 1) (c + 1)) h1 _ _ _ _ (by simp; omega) (fun j => ?_) ⟨0, [], rfl⟩ (by simp; omega) (fun _ => rfl) ?_ (hch.tr c1) ?_ hr (hE3 _ (by omega))
      · rw [show i + 1 + j = i + (j + 1) by omega, ← hq (j + 1)]
        rfl
      · rw [hG]
        simp [m_rst, b_H]
      · rw [List.length_append, List.length_range']
        exact hd
    | cons p2 r =>
      have hw2 := hw1.symm
      obtain ⟨ho2, w2, hw3⟩ := b_pos_cons w1 (p + 1) p2 r hw2
      have hq0 : ps[i + 1]? = some p2 := by rw [← hq 1]; rfl
      have hq1 := hl (i + 1) p2 hq0
      have hq2 := hp p2 (List.mem_of_getElem? hq0)
      simp only [List.length_cons] at e
      obtain ⟨M, hM⟩ : ∃ M, M = min (c + 1) (p2 - (p + 1)) := ⟨_, rfl⟩
      refine e_st (pc := 7) q60_7 rfl rfl ?_
      refine e_st (pc := 8) q60_8 rfl rfl ?_
      refine e_getf (pc := 9) q60_9 hd rfl ?_
      refine e_cmp false (pc := 12) q60_12 ⟨by omega, by omega⟩ ⟨by omega, by omega⟩ (n_f_ge (by omega)) ?_
      refine e_st (pc := 15) q60_15 rfl rfl ?_
      refine e_st (pc := 16) q60_16 rfl rfl ?_
      refine e_getf (pc := 17) q60_17 hd rfl ?_
      refine e_cst (v := 1) (len := 1) (pc := 20) q60_20 rfl rfl rfl ?_
      refine e_sub (pc := 21) q60_21 ?_
      refine e_cmp true (pc := 22) q60_22 ⟨by omega, by omega⟩ ⟨by omega, by omega⟩ (n_t_ne (by omega)) ?_
      refine e_cst (v := 0) (len := 1) (pc := 29) q60_29 rfl rfl rfl ?_
      refine e_st (pc := 30) (L2 := [some (.ref 28), some (n_v ↑i), some (n_v 0), x3, x4]) q60_30 rfl rfl ?_
      refine e_st (pc := 31) q60_31 rfl rfl ?_
      refine e_if true (pc := 32) q60_32 ⟨by omega, by omega⟩ (n_t_eq (by omega)) ?_
      refine e_st (pc := 40) q60_40 rfl rfl ?_
      refine e_getf (pc := 41) q60_41 hd rfl ?_
      refine e_st (pc := 44) q60_44 rfl rfl ?_
      refine e_cst (v := 1) (len := 1) (pc := 45) q60_45 rfl rfl rfl ?_
      refine e_add (pc := 46) q60_46 ?_
      refine e_aldv (pc := 47) (j := i + 1) (v := (p2 : Int)) q60_47 hf (by omega) (by omega) (by omega) hq1 ?_
      refine e_st (pc := 48) q60_48 rfl rfl ?_
      refine e_getf (pc := 49) q60_49 hd rfl ?_
      refine e_st (pc := 52) q60_52 rfl rfl ?_
      refine e_aldv (pc := 53) (j := i) (v := (p : Int)) q60_53 hf (by omega) (by omega) (by omega) hp1 ?_
      refine e_sub (pc := 54) q60_54 ?_
      refine e_cst (v := 1) (len := 1) (pc := 55) q60_55 rfl rfl rfl ?_
      refine e_sub (pc := 56) q60_56 ?_
      refine e_st (pc := 57) (L2 := [some (.ref 28), some (n_v ↑i), some (n_v 0), some (n_v (((p2 : Int) - (p : Int)) - 1)), x4]) q60_57 rfl rfl ?_
      refine e_st (pc := 58) q60_58 rfl rfl ?_
      refine e_cst (v := 1) (len := 1) (pc := 59) q60_59 rfl rfl rfl ?_
      refine e_add (pc := 60) q60_60 ?_
      refine e_st (pc := 61) q60_61 rfl rfl ?_
      refine e_getf (pc := 62) q60_62 hd rfl ?_
      refine e_sub (pc := 65) q60_65 ?_
      refine e_st (pc := 66) (L2 := [some (.ref 28), some (n_v ↑i), some (n_v 0), some (n_v (((p2 : Int) - (p : Int)) - 1)), some (n_v ((↑i + 1) - (E.length : Int)))]) q60_66 rfl rfl ?_
      refine e_st (pc := 68) q60_68 rfl rfl ?_
      refine e_st (pc := 69) q60_69 rfl rfl ?_
      refine e_getf (pc := 70) q60_70 hd rfl ?_
      refine e_st (pc := 73) q60_73 rfl rfl ?_
      refine e_aldv (pc := 74) (j := i) (v := (p : Int)) q60_74 hf (by omega) (by omega) (by omega) hp1 ?_
      refine e_cst (v := 1) (len := 1) (pc := 75) q60_75 rfl rfl rfl ?_
      refine e_add (pc := 76) q60_76 ?_
      refine e_st (pc := 77) q60_77 rfl rfl ?_
      refine e_st (pc := 79) q60_79 rfl rfl ?_
      refine e_min (pc := 80) q60_80 ⟨by omega, by omega⟩ ⟨by omega, by omega⟩ (Nat.le_of_ble_eq_true rfl) ?_
      have e1 : min ((i : Int) + 1 - (E.length : Int)) ((p2 : Int) - (p : Int) - 1) = (M : Int) := by omega
      have e2 : (p : Int) + 1 = ((p + 1 : Nat) : Int) := by omega
      rw [e1, e2]
      refine e_callV (pc := 83) (mz := c_m61) (a := 28) (L0 := [some (.ref 28), some (n_v ((p + 1 : Nat) : Int)), some (n_v (M : Int)), none]) q60_83 rfl rfl rfl rfl rfl rfl rfl hd rfl rfl ?_
      refine s61 (ld := E.length) (fp := p + 1) (cn := M) (by omega) (by omega) hd hr (fun h1 c1 hd hr => ?_)
      refine e_k0 (pc := 83) ?_
      refine e_inc (pc := 86) (L2 := [some (.ref 28), some (n_v (↑i + 1)), some (n_v 0), some (n_v (((p2 : Int) - (p : Int)) - 1)), some (n_v ((↑i + 1) - (E.length : Int)))]) q60_86 rfl rfl ?_
      refine e_st (pc := 89) q60_89 rfl rfl ?_
      refine s60L hn hp hl hf0 K (p2 :: r) (i + 1) (c + 1 - M) (E ++ List.range' (p + 1) M) h1 _ _ _ _ (by simp only [List.length_cons]; omega) (fun j => ?_) ⟨_, w1, hw1⟩ (by rw [List.length_append, List.length_range']; omega) (fun e => by cases e) ?_ (hch.tr c1) ?_ hr (hE3 _ (by omega))
      · rw [show i + 1 + j = i + (j + 1) by omega, ← hq (j + 1)]
        rfl
      · rw [hG, m_rst, b_H, ← hM, List.append_assoc]
        rfl
      · rw [List.length_append, List.length_range']
        exact hd
theorem s60 {ps : List Nat} {f nf : Nat → Int} {la : Value} (hn : ps.length ≤ 60) (hp : ∀ y ∈ ps, y ≤ 50000) (hl : m_li f ps) (hf : c_ar h 29 60 f) (hw : ∃ w, ps = b_pos 0 w) (hr : c_ar h 30 60 nf) (hd : c_ob h 28 7 [.ref 29, .ref 30, n_v (ps.length : Int), la])
    (K : ∀ (h2 : c_Hp) (f2 nf2 : Nat → Int) (la2 : Value), c_ch h h2 [28, 29, 30] → c_ob h2 28 7 [.ref 29, .ref 30, n_v ((b_G ps).length : Int), la2] → c_ar h2 29 60 f2 → c_ar h2 30 60 nf2 → m_li f2 (b_G ps) → (b_G ps).length = ps.length → Q (.inl none, h2)) : c_Ev X 60 0 [some (.ref 28), none, none, none, none] [] h Q := by
  refine e_st (pc := 0) q60_0 rfl rfl ?_
  refine e_cst (v := 0) (len := 1) (pc := 1) q60_1 rfl rfl rfl ?_
  refine e_putf (pc := 2) (fs2 := [.ref 29, .ref 30, n_v (ps.length : Int), n_v 0]) q60_2 hd (c_okv_i _) (Nat.le_of_ble_eq_true rfl) rfl (fun h1 u1 => ?_)
  have hf := hf.up u1 (by omega)
  have hr := hr.up u1 (by omega)
  have hd : c_ob h1 28 7 [.ref 29, .ref 30, n_v (ps.length : Int), n_v 0] := u1.2.1
  refine e_cst (v := 0) (len := 1) (pc := 5) q60_5 rfl rfl rfl ?_
  refine e_st (pc := 6) (L2 := [some (.ref 28), some (n_v 0), none, none, none]) q60_6 rfl rfl ?_
  obtain ⟨w, hw⟩ := hw
  refine s60L (h := h1) hn hp hl hf (fun h2 nf2 la2 c2 hd2 hr2 hnf hgl x2 x3 x4 => ?_) ps 0 0 [] h1 nf _ _ _ (by omega) (fun j => by rw [Nat.zero_add]) ⟨0, w, hw⟩ rfl (fun _ => rfl) ?_ (c_ch.rf _ _) hd hr (fun j x hx => by simp at hx)
  · refine e_cst (v := 0) (len := 1) (pc := 92) q60_92 rfl rfl rfl ?_
    refine e_st (pc := 93) (L2 := [some (.ref 28), some (n_v 0), x2, x3, x4]) q60_93 rfl rfl ?_
    have hf2 := hf.ch c2 (by simp)
    refine s60C (f := f) hn hnf hgl hd2 hr2 (fun h3 f3 c3 hf3 hl3 => ?_) ps.length 0 h2 f _ _ _ (by omega) (c_ch.rf _ _) hf2 (fun t ht => by omega)
    have hd3 := hd2.ch c3 (by simp)
    rw [← hgl] at hd3
    exact K h3 f3 nf2 la2 ((((c_ch.rf h _).up u1 (by simp)).tr (c2.sub (by simp))).tr (c3.sub (by simp))) hd3 hf3 (hr2.ch c3 (by simp)) hl3 hgl
  · cases ps with
    | nil => rfl
    | cons p r =>
      unfold b_G
      rw [b_H]
      simp [m_rst]
end Ms
end
section
/-! walk, areRunsWaves, areWavesSound -/
section Ms
variable {X : List Int32} {h : c_Hp} {Q : c_O × c_Hp → Prop}
theorem s59S {n N : Nat} {bf : Nat → Int} (hn : n ≤ 60) (hN : N ≤ 90)
    (K : ∀ (h2 : c_Hp) (f2 nf2 : Nat → Int) (la2 : Value), c_ch h h2 [28, 29, 30] → c_ob h2 28 7 [.ref 29, .ref 30, n_v ((b_it b_G N (b_pos 0 (m_wd n bf))).length : Int), la2] → c_ar h2 29 60 f2 → c_ar h2 30 60 nf2 → m_li f2 (b_it b_G N (b_pos 0 (m_wd n bf))) → Q (.inl none, h2)) :
  ∀ (m t : Nat) (h1 : c_Hp) (f nf : Nat → Int) (la : Value), t + m = N → c_ch h h1 [28, 29, 30] → c_ob h1 28 7 [.ref 29, .ref 30, n_v ((b_it b_G t (b_pos 0 (m_wd n bf))).length : Int), la] → c_ar h1 29 60 f → c_ar h1 30 60 nf → m_li f (b_it b_G t (b_pos 0 (m_wd n bf))) → c_Ev X 59 52 [some (.ref 28), some (.ref 1), some (n_v ↑N), some (n_v ↑t)] [] h1 Q
  | 0, t, h1, f, nf, la, e, hch, hd, hf, hr, hl => by
    refine e_st (pc := 52) q59_52 rfl rfl ?_
    refine e_st (pc := 53) q59_53 rfl rfl ?_
    refine e_cmp true (pc := 54) q59_54 ⟨by omega, by omega⟩ ⟨by omega, by omega⟩ (n_t_ge (by omega)) ?_
    refine e_ret (pc := 67) q59_67 rfl rfl rfl ?_
    rw [show t = N by omega] at hd hl
    exact K h1 f nf la hch hd hf hr hl
  | m + 1, t, h0, f, nf, la, e, hch, hd, hf, hr, hl => by
    have hwl := m_wd_len n bf
    have hcn := List.length_filter_le id (m_wd n bf)
    have hT := b_Tit_cnt t (m_wd n bf)
    have hw : b_it b_G t (b_pos 0 (m_wd n bf)) = b_pos 0 (b_it (b_T 0) t (m_wd n bf)) := b_Git_T t _
    have hlen : (b_it b_G t (b_pos 0 (m_wd n bf))).length ≤ 60 := by rw [hw, b_pos_len]; omega
    have hbd : ∀ y ∈ b_it b_G t (b_pos 0 (m_wd n bf)), y ≤ 50000 := by
      intro y hy
      rw [hw] at hy
      have h1 := b_pos_lt _ _ _ hy
      have h2 : t * ((m_wd n bf).filter id).length ≤ 90 * 60 := Nat.mul_le_mul (by omega) (by omega)
      omega
    refine e_st (pc := 52) q59_52 rfl rfl ?_
    refine e_st (pc := 53) q59_53 rfl rfl ?_
    refine e_cmp false (pc := 54) q59_54 ⟨by omega, by omega⟩ ⟨by omega, by omega⟩ (n_f_ge (by omega)) ?_
    refine e_st (pc := 57) q59_57 rfl rfl ?_
    refine e_callV (pc := 58) (mz := c_m60) (a := 28) (L0 := [some (.ref 28), none, none, none, none]) (rest := []) q59_58 rfl rfl rfl rfl rfl rfl rfl hd rfl rfl ?_
    refine s60 hlen hbd hl hf ⟨_, hw⟩ hr hd (fun h1 f2 nf2 la2 c1 hd hf hr hl hle => ?_)
    refine e_k0 (pc := 58) ?_
    refine e_inc (pc := 61) (L2 := [some (.ref 28), some (.ref 1), some (n_v ↑N), some (n_v (↑t + 1))]) q59_61 rfl rfl ?_
    refine e_st (pc := 64) q59_64 rfl rfl ?_
    rw [← b_it_succ b_G] at hd hl
    exact s59S hn hN K m (t + 1) h1 f2 nf2 la2 (by omega) (hch.tr c1) hd hf hr hl
theorem s59L {n N : Nat} {rg : Value} {bf : Nat → Int} (hr0 : c_ob h 1 6 [.ref 2, .ref 3, n_v ↑n, rg]) (hb0 : c_ar h 3 60 bf) (hn : n ≤ 60) (hN : N ≤ 90) (hbf : ∀ t, t < n → bf t = 0 ∨ bf t = 1) {nf : Nat → Int} (hq0 : c_ar h 30 60 nf)
    (K : ∀ (h2 : c_Hp) (f2 nf2 : Nat → Int) (la2 : Value), c_ch h h2 [28, 29, 30] → c_ob h2 28 7 [.ref 29, .ref 30, n_v ((b_it b_G N (b_pos 0 (m_wd n bf))).length : Int), la2] → c_ar h2 29 60 f2 → c_ar h2 30 60 nf2 → m_li f2 (b_it b_G N (b_pos 0 (m_wd n bf))) → Q (.inl none, h2)) :
  ∀ (m i : Nat) (h1 : c_Hp) (f : Nat → Int) (la : Value), i + m = n → c_ch h h1 [28, 29] → c_ob h1 28 7 [.ref 29, .ref 30, n_v ((b_pos 0 (m_wd i bf)).length : Int), la] → c_ar h1 29 60 f → m_li f (b_pos 0 (m_wd i bf)) → c_Ev X 59 7 [some (.ref 28), some (.ref 1), some (n_v ↑N), some (n_v ↑i)] [] h1 Q
  | 0, i, h1, f, la, e, hch, hd, hf, hl => by
    have hr := hr0.ch hch (by simp)
    have hb := hb0.ch hch (by simp)
    refine e_st (pc := 7) q59_7 rfl rfl ?_
    refine e_st (pc := 8) q59_8 rfl rfl ?_
    refine e_getf (pc := 9) q59_9 hr rfl ?_
    refine e_cmp true (pc := 12) q59_12 ⟨by omega, by omega⟩ ⟨by omega, by omega⟩ (n_t_ge (by omega)) ?_
    refine e_cst (v := 0) (len := 1) (pc := 50) q59_50 rfl rfl rfl ?_
    refine e_st (pc := 51) (L2 := [some (.ref 28), some (.ref 1), some (n_v ↑N), some (n_v 0)]) q59_51 rfl rfl ?_
    have e2 : i = n := by omega
    subst e2
    exact s59S (h := h) hn hN K N 0 h1 f nf la (by omega) (hch.sub (by simp)) hd hf (hq0.ch hch (by simp)) hl
  | m + 1, i, h0, f, la, e, hch, hd, hf, hl => by
    have hr := hr0.ch hch (by simp)
    have hb := hb0.ch hch (by simp)
    have hpl : (b_pos 0 (m_wd i bf)).length ≤ i := by
      rw [b_pos_len]
      have := List.length_filter_le id (m_wd i bf)
      rw [m_wd_len] at this
      exact this
    have hs : b_pos 0 (m_wd (i + 1) bf) = b_pos 0 (m_wd i bf) ++ if decide (0 < bf i) then [i] else [] := by rw [m_wd_succ, b_pos_snoc, m_wd_len, Nat.zero_add]
    have hv := hbf i (by omega)
    by_cases hc : 0 < bf i
    · refine e_st (pc := 7) q59_7 rfl rfl ?_
      refine e_st (pc := 8) q59_8 rfl rfl ?_
      refine e_getf (pc := 9) q59_9 hr rfl ?_
      refine e_cmp false (pc := 12) q59_12 ⟨by omega, by omega⟩ ⟨by omega, by omega⟩ (n_f_ge (by omega)) ?_
      refine e_st (pc := 15) q59_15 rfl rfl ?_
      refine e_getf (pc := 16) q59_16 hr rfl ?_
      refine e_st (pc := 19) q59_19 rfl rfl ?_
      refine e_ald (pc := 20) (j := i) q59_20 hb (by omega) (by omega) (by omega) ?_
      refine e_if false (pc := 21) q59_21 ⟨by omega, by omega⟩ (n_f_le (by omega)) ?_
      refine e_st (pc := 24) q59_24 rfl rfl ?_
      refine e_getf (pc := 25) q59_25 hd rfl ?_
      refine e_st (pc := 28) q59_28 rfl rfl ?_
      refine e_getf (pc := 29) q59_29 hd rfl ?_
      refine e_st (pc := 32) q59_32 rfl rfl ?_
      refine e_ast (pc := 33) (j := (b_pos 0 (m_wd i bf)).length) q59_33 hf (by omega) (by omega) (by omega) (fun h1 u1 => ?_)
      have hd := hd.up u1 (by omega)
      have hr := hr.up u1 (by omega)
      have hb := hb.up u1 (by omega)
      have hf : c_ar h1 29 60 (fun t => if t = (b_pos 0 (m_wd i bf)).length then ↑i else f t) := u1.2.1
      refine e_st (pc := 34) q59_34 rfl rfl ?_
      refine e_st (pc := 35) q59_35 rfl rfl ?_
      refine e_getf (pc := 36) q59_36 hd rfl ?_
      refine e_cst (v := 1) (len := 1) (pc := 39) q59_39 rfl rfl rfl ?_
      refine e_add (pc := 40) q59_40 ?_
      refine e_putf (pc := 41) (fs2 := [.ref 29, .ref 30, n_v (((b_pos 0 (m_wd i bf)).length : Int) + 1), la]) q59_41 hd (c_okv_i _) (Nat.le_of_ble_eq_true rfl) rfl (fun h2 u2 => ?_)
      have hr := hr.up u2 (by omega)
      have hf := hf.up u2 (by omega)
      have hb := hb.up u2 (by omega)
      have hd : c_ob h2 28 7 [.ref 29, .ref 30, n_v (((b_pos 0 (m_wd i bf)).length : Int) + 1), la] := u2.2.1
      refine e_inc (pc := 44) (L2 := [some (.ref 28), some (.ref 1), some (n_v ↑N), some (n_v (↑i + 1))]) q59_44 rfl rfl ?_
      refine e_st (pc := 47) q59_47 rfl rfl ?_
      rw [decide_eq_true hc] at hs
      refine s59L hr0 hb0 hn hN hbf hq0 K m (i + 1) h2 _ la (by omega) ((hch.up u1 (by simp)).up u2 (by simp)) ?_ hf ?_
      · rw [hs, List.length_append]
        exact hd
      · rw [hs]
        intro j x hx
        by_cases h1 : j < (b_pos 0 (m_wd i bf)).length
        · rw [List.getElem?_append_left h1] at hx
          show (if j = _ then _ else f j) = _
          rw [if_neg (by omega)]
          exact hl j x hx
        · rw [List.getElem?_append_right (by omega)] at hx
          by_cases h2 : j = (b_pos 0 (m_wd i bf)).length
          · rw [h2, Nat.sub_self] at hx
            cases hx
            exact if_pos h2
          · rw [List.getElem?_eq_none (by simp; omega)] at hx
            cases hx
    · refine e_st (pc := 7) q59_7 rfl rfl ?_
      refine e_st (pc := 8) q59_8 rfl rfl ?_
      refine e_getf (pc := 9) q59_9 hr rfl ?_
      refine e_cmp false (pc := 12) q59_12 ⟨by omega, by omega⟩ ⟨by omega, by omega⟩ (n_f_ge (by omega)) ?_
      refine e_st (pc := 15) q59_15 rfl rfl ?_
      refine e_getf (pc := 16) q59_16 hr rfl ?_
      refine e_st (pc := 19) q59_19 rfl rfl ?_
      refine e_ald (pc := 20) (j := i) q59_20 hb (by omega) (by omega) (by omega) ?_
      refine e_if true (pc := 21) q59_21 ⟨by omega, by omega⟩ (n_t_le (by omega)) ?_
      refine e_inc (pc := 44) (L2 := [some (.ref 28), some (.ref 1), some (n_v ↑N), some (n_v (↑i + 1))]) q59_44 rfl rfl ?_
      refine e_st (pc := 47) q59_47 rfl rfl ?_
      rw [decide_eq_false hc] at hs
      simp only [Bool.false_eq_true, if_false, List.append_nil] at hs
      refine s59L hr0 hb0 hn hN hbf hq0 K m (i + 1) h0 _ la (by omega) hch ?_ hf ?_
      · rw [hs]; exact hd
      · rw [hs]; exact hl
theorem s59 {n N : Nat} {rg bl la : Value} {bf f nf : Nat → Int} (hr : c_ob h 1 6 [.ref 2, .ref 3, n_v ↑n, rg]) (hb : c_ar h 3 60 bf) (hn : n ≤ 60) (hN : N ≤ 90) (hbf : ∀ t, t < n → bf t = 0 ∨ bf t = 1) (hd : c_ob h 28 7 [.ref 29, .ref 30, bl, la]) (hf : c_ar h 29 60 f) (hq : c_ar h 30 60 nf)
    (K : ∀ (h2 : c_Hp) (f2 nf2 : Nat → Int) (la2 : Value), c_ch h h2 [28, 29, 30] → c_ob h2 28 7 [.ref 29, .ref 30, n_v ((b_it b_G N (b_pos 0 (m_wd n bf))).length : Int), la2] → c_ar h2 29 60 f2 → c_ar h2 30 60 nf2 → m_li f2 (b_it b_G N (b_pos 0 (m_wd n bf))) → Q (.inl none, h2)) : c_Ev X 59 0 [some (.ref 28), some (.ref 1), some (n_v ↑N), none] [] h Q := by
  refine e_st (pc := 0) q59_0 rfl rfl ?_
  refine e_cst (v := 0) (len := 1) (pc := 1) q59_1 rfl rfl rfl ?_
  refine e_putf (pc := 2) (fs2 := [.ref 29, .ref 30, n_v 0, la]) q59_2 hd (c_okv_i _) (Nat.le_of_ble_eq_true rfl) rfl (fun h1 u1 => ?_)
  have hr := hr.up u1 (by omega)
  have hf := hf.up u1 (by omega)
  have hb := hb.up u1 (by omega)
  have hq := hq.up u1 (by omega)
  have hd : c_ob h1 28 7 [.ref 29, .ref 30, n_v 0, la] := u1.2.1
  refine e_cst (v := 0) (len := 1) (pc := 5) q59_5 rfl rfl rfl ?_
  refine e_st (pc := 6) (L2 := [some (.ref 28), some (.ref 1), some (n_v ↑N), some (n_v 0)]) q59_6 rfl rfl ?_
  exact s59L (h := h1) hr hb hn hN hbf hq (fun h2 f2 nf2 la2 c2 => K h2 f2 nf2 la2 (((c_ch.rf h _).up u1 (by simp)).tr c2)) n 0 h1 f la (by omega) (c_ch.rf _ _) hd hf (fun j x hx => by simp [m_wd, b_pos] at hx)
theorem m_runs {n : Nat} {bf : Nat → Int} (hn : n ≤ 40) : b_rs (b_fl (b_it b_G 90 (b_pos 0 (m_wd n bf)))) = (List.range (m_hd (b_rem 120 (m_u n bf)))).map (fun i => b_sz (b_rem 120 (m_u n bf)) (m_hd (b_rem 120 (m_u n bf)) - 1 - i)) := by
  have hl := m_u_len n bf
  have e : b_pos 0 (m_wd n bf) = b_pos 0 (m_u n bf) := (b_pos_apps _ _ _).symm
  rw [← b_rl_rs, m_hd_rem, e, b_runs 120 (m_u n bf) 90 (m_u_bal n bf) (by omega) (by omega)]
theorem s21L {n : Nat} {bf rf : Nat → Int} (hn : n ≤ 40) {f : Nat → Int} {la : Value} (ho : c_ob h 0 10 m_O) (hp : c_ob h 25 3 [.ref 26, .ref 27, n_v ((b_rem 120 (m_u n bf)).length : Int)]) (hm : c_ar h 27 60 rf) (hli : m_li rf (b_rem 120 (m_u n bf))) (hd : c_ob h 28 7 [.ref 29, .ref 30, n_v ((b_it b_G 90 (b_pos 0 (m_wd n bf))).length : Int), la]) (hf : c_ar h 29 60 f) (hl : m_li f (b_it b_G 90 (b_pos 0 (m_wd n bf)))) (K : Q (.inl (some (n_v 1)), h)) : ∀ (m i : Nat), i + m = m_hd (b_rem 120 (m_u n bf)) → c_Ev X 21 36 [some (.ref 0), some (n_v (m_hd (b_rem 120 (m_u n bf)) : Int)), some (n_v ↑i)] [] h Q
  | 0, i, e => by
    have hu := m_u_len n bf
    have hrl := b_rem_len 120 (m_u n bf)
    have hrl2 := b_red_len (m_u n bf)
    have hhd : m_hd (b_rem 120 (m_u n bf)) = b_cnt (m_u n bf) := m_hd_rem
    have hwl := m_wd_len n bf
    have hcn := List.length_filter_le id (m_wd n bf)
    have hT := b_Tit_cnt 90 (m_wd n bf)
    have hw : (b_it b_G 90 (b_pos 0 (m_wd n bf))) = b_pos 0 (b_it (b_T 0) 90 (m_wd n bf)) := b_Git_T 90 _
    have hlen : (b_it b_G 90 (b_pos 0 (m_wd n bf))).length ≤ 60 := by rw [hw, b_pos_len]; omega
    have hbd : ∀ y ∈ (b_it b_G 90 (b_pos 0 (m_wd n bf))), y ≤ 100000 := by
      intro y hy
      rw [hw] at hy
      have h1 := b_pos_lt _ _ _ hy
      omega
    have hrs := m_runs (bf := bf) hn
    have hrl3 := b_rs_len (b_fl (b_it b_G 90 (b_pos 0 (m_wd n bf))))
    rw [hrs, List.length_map, List.length_range] at hrl3
    refine e_st (pc := 36) q21_36 rfl rfl ?_
    refine e_st (pc := 37) q21_37 rfl rfl ?_
    refine e_cmp true (pc := 38) q21_38 ⟨by omega, by omega⟩ ⟨by omega, by omega⟩ (n_t_ge (by omega)) ?_
    refine e_cst (v := 1) (len := 1) (pc := 79) q21_79 rfl rfl rfl ?_
    refine e_iret (pc := 80) q21_80 rfl rfl rfl (by decide +kernel) ?_
    exact K
  | m + 1, i, e => by
    have hu := m_u_len n bf
    have hrl := b_rem_len 120 (m_u n bf)
    have hrl2 := b_red_len (m_u n bf)
    have hhd : m_hd (b_rem 120 (m_u n bf)) = b_cnt (m_u n bf) := m_hd_rem
    have hwl := m_wd_len n bf
    have hcn := List.length_filter_le id (m_wd n bf)
    have hT := b_Tit_cnt 90 (m_wd n bf)
    have hw : (b_it b_G 90 (b_pos 0 (m_wd n bf))) = b_pos 0 (b_it (b_T 0) 90 (m_wd n bf)) := b_Git_T 90 _
    have hlen : (b_it b_G 90 (b_pos 0 (m_wd n bf))).length ≤ 60 := by rw [hw, b_pos_len]; omega
    have hbd : ∀ y ∈ (b_it b_G 90 (b_pos 0 (m_wd n bf))), y ≤ 100000 := by
      intro y hy
      rw [hw] at hy
      have h1 := b_pos_lt _ _ _ hy
      omega
    have hrs := m_runs (bf := bf) hn
    have hrl3 := b_rs_len (b_fl (b_it b_G 90 (b_pos 0 (m_wd n bf))))
    rw [hrs, List.length_map, List.length_range] at hrl3
    refine e_st (pc := 36) q21_36 rfl rfl ?_
    refine e_st (pc := 37) q21_37 rfl rfl ?_
    refine e_cmp false (pc := 38) q21_38 ⟨by omega, by omega⟩ ⟨by omega, by omega⟩ (n_f_ge (by omega)) ?_
    refine e_st (pc := 41) q21_41 rfl rfl ?_
    refine e_getf (pc := 42) q21_42 ho rfl ?_
    refine e_st (pc := 45) q21_45 rfl rfl ?_
    refine e_getf (pc := 46) q21_46 ho rfl ?_
    refine e_st (pc := 49) q21_49 rfl rfl ?_
    refine e_callV (pc := 50) (mz := c_m64) (a := 28) (L0 := [some (.ref 28), some (n_v ↑i), none, none]) (rest := [.ref 28]) q21_50 rfl rfl rfl rfl rfl rfl rfl hd rfl rfl ?_
    refine s64 hd hf hl hbd hlen (by omega) (fun j hj1 hj2 hj3 => ?_)
    refine e_k (pc := 50) ?_
    refine e_callV (pc := 53) (mz := c_m65) (a := 28) (L0 := [some (.ref 28), some (n_v ↑j), none]) (rest := []) q21_53 rfl rfl rfl rfl rfl rfl rfl hd rfl rfl ?_
    refine s65 hd hf hl hbd hlen hj1 ?_
    refine e_k (pc := 53) ?_
    refine e_st (pc := 56) q21_56 rfl rfl ?_
    refine e_getf (pc := 57) q21_57 ho rfl ?_
    refine e_st (pc := 60) q21_60 rfl rfl ?_
    refine e_cst (v := 1) (len := 1) (pc := 61) q21_61 rfl rfl rfl ?_
    refine e_sub (pc := 62) q21_62 ?_
    refine e_st (pc := 63) q21_63 rfl rfl ?_
    refine e_sub (pc := 64) q21_64 ?_
    have e3 : (m_hd (b_rem 120 (m_u n bf)) : Int) - 1 - (i : Int) = ((m_hd (b_rem 120 (m_u n bf)) - 1 - i : Nat) : Int) := by omega
    rw [e3]
    refine e_callV (pc := 65) (mz := c_m36) (a := 25) (L0 := [some (.ref 25), some (n_v ((m_hd (b_rem 120 (m_u n bf)) - 1 - i : Nat) : Int)), none, none]) (rest := [n_v ((1 + b_nx ((b_fl (b_it b_G 90 (b_pos 0 (m_wd n bf)))).drop (j + 1)) : Nat) : Int)]) q21_65 rfl rfl rfl rfl rfl rfl rfl hp rfl rfl ?_
    refine s36 hp hm hli (by omega) (fun x hx => by have := b_rem_le 120 _ (m_u_bal n bf) x hx; omega) (by omega) ?_
    refine e_k (pc := 65) ?_
    have e4 : 1 + b_nx ((b_fl (b_it b_G 90 (b_pos 0 (m_wd n bf)))).drop (j + 1)) = b_sz (b_rem 120 (m_u n bf)) (m_hd (b_rem 120 (m_u n bf)) - 1 - i) := by
      have h5 := b_rs_at _ _ hj2
      rw [hj3, hrs, List.getElem?_map, List.getElem?_range (by omega)] at h5
      exact (Option.some.inj h5).symm
    have hsz : b_sz (b_rem 120 (m_u n bf)) (m_hd (b_rem 120 (m_u n bf)) - 1 - i) ≤ (b_rem 120 (m_u n bf)).length := List.length_filter_le _ _
    refine e_cmp true (pc := 68) q21_68 ⟨by omega, by omega⟩ ⟨by omega, by omega⟩ (n_t_eq (by omega)) ?_
    refine e_inc (pc := 73) (L2 := [some (.ref 0), some (n_v (m_hd (b_rem 120 (m_u n bf)) : Int)), some (n_v (↑i + 1))]) q21_73 rfl rfl ?_
    refine e_st (pc := 76) q21_76 rfl rfl ?_
    exact s21L hn ho hp hm hli hd hf hl K m (i + 1) (by omega)
theorem s21 {n : Nat} {rg bl la : Value} {bf rf f nf : Nat → Int} (hn : n ≤ 40) (hbf : ∀ t, t < n → bf t = 0 ∨ bf t = 1) (ho : c_ob h 0 10 m_O) (hr : c_ob h 1 6 [.ref 2, .ref 3, n_v ↑n, rg]) (hb : c_ar h 3 60 bf) (hp : c_ob h 25 3 [.ref 26, .ref 27, n_v ((b_rem 120 (m_u n bf)).length : Int)]) (hm : c_ar h 27 60 rf) (hli : m_li rf (b_rem 120 (m_u n bf))) (hd : c_ob h 28 7 [.ref 29, .ref 30, bl, la]) (hf : c_ar h 29 60 f) (hq : c_ar h 30 60 nf)
    (K : ∀ (h2 : c_Hp) (f2 nf2 : Nat → Int) (bl2 la2 : Value), c_ch h h2 [28, 29, 30] → c_ob h2 28 7 [.ref 29, .ref 30, bl2, la2] → c_ar h2 29 60 f2 → c_ar h2 30 60 nf2 → Q (.inl (some (n_v 1)), h2)) : c_Ev X 21 0 [some (.ref 0), none, none] [] h Q := by
  have hu := m_u_len n bf
  have hrl := b_rem_len 120 (m_u n bf)
  have hrl2 := b_red_len (m_u n bf)
  have hhd : m_hd (b_rem 120 (m_u n bf)) = b_cnt (m_u n bf) := m_hd_rem
  have hwl := m_wd_len n bf
  have hcn := List.length_filter_le id (m_wd n bf)
  have hT := b_Tit_cnt 90 (m_wd n bf)
  have hw : (b_it b_G 90 (b_pos 0 (m_wd n bf))) = b_pos 0 (b_it (b_T 0) 90 (m_wd n bf)) := b_Git_T 90 _
  have hlen : (b_it b_G 90 (b_pos 0 (m_wd n bf))).length ≤ 60 := by rw [hw, b_pos_len]; omega
  have hbd : ∀ y ∈ (b_it b_G 90 (b_pos 0 (m_wd n bf))), y ≤ 100000 := by
    intro y hy
    rw [hw] at hy
    have h1 := b_pos_lt _ _ _ hy
    omega
  have hrs := m_runs (bf := bf) hn
  have hrl3 := b_rs_len (b_fl (b_it b_G 90 (b_pos 0 (m_wd n bf))))
  rw [hrs, List.length_map, List.length_range] at hrl3
  refine e_st (pc := 0) q21_0 rfl rfl ?_
  refine e_getf (pc := 1) q21_1 ho rfl ?_
  refine e_st (pc := 4) q21_4 rfl rfl ?_
  refine e_getf (pc := 5) q21_5 ho rfl ?_
  refine e_cst (v := 90) (len := 2) (pc := 8) q21_8 rfl rfl (by decide +kernel) ?_
  rw [show (n_v 90 : Value) = n_v ((90 : Nat) : Int) from rfl]
  refine e_callV (pc := 10) (mz := c_m59) (a := 28) (L0 := [some (.ref 28), some (.ref 1), some (n_v ((90 : Nat) : Int)), none]) (rest := []) q21_10 rfl rfl rfl rfl rfl rfl rfl hd rfl rfl ?_
  refine s59 hr hb (by omega) (Nat.le_refl 90) hbf hd hf hq (fun h1 f1 nf1 la1 c1 hd hf hq hl => ?_)
  have ho := ho.ch c1 (by simp)
  have hp := hp.ch c1 (by simp)
  have hm := hm.ch c1 (by simp)
  refine e_k0 (pc := 10) ?_
  refine e_st (pc := 13) q21_13 rfl rfl ?_
  refine e_getf (pc := 14) q21_14 ho rfl ?_
  refine e_callV (pc := 17) (mz := c_m35) (a := 25) (L0 := [some (.ref 25)]) (rest := []) q21_17 rfl rfl rfl rfl rfl rfl rfl hp rfl rfl ?_
  refine s35 hp hm hli (by omega) ?_
  refine e_k (pc := 17) ?_
  refine e_st (pc := 20) (L2 := [some (.ref 0), some (n_v (m_hd (b_rem 120 (m_u n bf)) : Int)), none]) q21_20 rfl rfl ?_
  refine e_st (pc := 21) q21_21 rfl rfl ?_
  refine e_getf (pc := 22) q21_22 ho rfl ?_
  refine e_callV (pc := 25) (mz := c_m63) (a := 28) (L0 := [some (.ref 28), none, none]) (rest := []) q21_25 rfl rfl rfl rfl rfl rfl rfl hd rfl rfl ?_
  refine s63 hd hf hl hbd hlen ?_
  refine e_k (pc := 25) ?_
  rw [← hrl3]
  refine e_st (pc := 28) q21_28 rfl rfl ?_
  refine e_cmp true (pc := 29) q21_29 ⟨by omega, by omega⟩ ⟨by omega, by omega⟩ (n_t_eq (by omega)) ?_
  refine e_cst (v := 0) (len := 1) (pc := 34) q21_34 rfl rfl rfl ?_
  refine e_st (pc := 35) (L2 := [some (.ref 0), some (n_v (m_hd (b_rem 120 (m_u n bf)) : Int)), some (n_v 0)]) q21_35 rfl rfl ?_
  exact s21L hn ho hp hm hli hd hf hl (K h1 f1 nf1 _ la1 c1 hd hf hq) (m_hd (b_rem 120 (m_u n bf))) 0 (by omega)
theorem s55L {a c b n : Nat} {rg : Value} {f : Nat → Int} (hr : c_ob h a 6 [.ref c, .ref b, n_v ↑n, rg]) (hc : c_ar h c 60 f) (hn : n ≤ 60) (hf : ∀ t, t < n → 0 ≤ f t ∧ f t ≤ 200) (K1 : (∀ t, t < n → f t = 1) → Q (.inl (some (n_v 1)), h)) (K0 : Q (.inl (some (n_v 0)), h)) : ∀ (m i : Nat), i + m = n → (∀ t, t < i → f t = 1) → c_Ev X 55 2 [some (.ref a), some (n_v ↑i)] [] h Q
  | 0, i, e, hi => by
    refine e_st (pc := 2) q55_2 rfl rfl ?_
    refine e_st (pc := 3) q55_3 rfl rfl ?_
    refine e_getf (pc := 4) q55_4 hr rfl ?_
    refine e_cmp true (pc := 7) q55_7 ⟨by omega, by omega⟩ ⟨by omega, by omega⟩ (n_t_ge (by omega)) ?_
    refine e_cst (v := 1) (len := 1) (pc := 28) q55_28 rfl rfl rfl ?_
    refine e_iret (pc := 29) q55_29 rfl rfl rfl (by decide +kernel) ?_
    exact K1 (fun t ht => hi t (by omega))
  | m + 1, i, e, hi => by
    have hfi := hf i (by omega)
    by_cases h1 : f i = 1
    · refine e_st (pc := 2) q55_2 rfl rfl ?_
      refine e_st (pc := 3) q55_3 rfl rfl ?_
      refine e_getf (pc := 4) q55_4 hr rfl ?_
      refine e_cmp false (pc := 7) q55_7 ⟨by omega, by omega⟩ ⟨by omega, by omega⟩ (n_f_ge (by omega)) ?_
      refine e_st (pc := 10) q55_10 rfl rfl ?_
      refine e_getf (pc := 11) q55_11 hr rfl ?_
      refine e_st (pc := 14) q55_14 rfl rfl ?_
      refine e_ald (pc := 15) (j := i) q55_15 hc (by omega) (by omega) (by omega) ?_
      refine e_cst (v := 1) (len := 1) (pc := 16) q55_16 rfl rfl rfl ?_
      refine e_cmp true (pc := 17) q55_17 ⟨by omega, by omega⟩ ⟨by omega, by omega⟩ (n_t_eq (by omega)) ?_
      refine e_inc (pc := 22) (L2 := [some (.ref a), some (n_v (↑i + 1))]) q55_22 rfl rfl ?_
      refine e_st (pc := 25) q55_25 rfl rfl ?_
      exact s55L hr hc hn hf K1 K0 m (i + 1) (by omega) (fun t ht => by
        by_cases e2 : t = i
        · rw [e2]; exact h1
        · exact hi t (by omega))
    · refine e_st (pc := 2) q55_2 rfl rfl ?_
      refine e_st (pc := 3) q55_3 rfl rfl ?_
      refine e_getf (pc := 4) q55_4 hr rfl ?_
      refine e_cmp false (pc := 7) q55_7 ⟨by omega, by omega⟩ ⟨by omega, by omega⟩ (n_f_ge (by omega)) ?_
      refine e_st (pc := 10) q55_10 rfl rfl ?_
      refine e_getf (pc := 11) q55_11 hr rfl ?_
      refine e_st (pc := 14) q55_14 rfl rfl ?_
      refine e_ald (pc := 15) (j := i) q55_15 hc (by omega) (by omega) (by omega) ?_
      refine e_cst (v := 1) (len := 1) (pc := 16) q55_16 rfl rfl rfl ?_
      refine e_cmp false (pc := 17) q55_17 ⟨by omega, by omega⟩ ⟨by omega, by omega⟩ (n_f_eq (by omega)) ?_
      refine e_cst (v := 0) (len := 1) (pc := 20) q55_20 rfl rfl rfl ?_
      refine e_iret (pc := 21) q55_21 rfl rfl rfl (by decide +kernel) ?_
      exact K0
theorem s55 {a c b n : Nat} {rg : Value} {f : Nat → Int} (hr : c_ob h a 6 [.ref c, .ref b, n_v ↑n, rg]) (hc : c_ar h c 60 f) (hn : n ≤ 60) (hf : ∀ t, t < n → 0 ≤ f t ∧ f t ≤ 200) (K1 : (∀ t, t < n → f t = 1) → Q (.inl (some (n_v 1)), h)) (K0 : Q (.inl (some (n_v 0)), h)) : c_Ev X 55 0 [some (.ref a), none] [] h Q := by
  refine e_cst (v := 0) (len := 1) (pc := 0) q55_0 rfl rfl rfl ?_
  refine e_st (pc := 1) (L2 := [some (.ref a), some (n_v 0)]) q55_1 rfl rfl ?_
  exact s55L hr hc hn hf K1 K0 n 0 (by omega) (fun t ht => by omega)
end Ms
end
section
/-! Rows taken over, turned back, queues. -/
/-- at a lies a row of n rows, at the places g -/
def c_aa (h : c_Hp) (a n : Nat) (g : Nat → Nat) : Prop := h[a]? = some (some (.inr (2, (List.range n).map (fun t => Value.ref (g t)))))
theorem c_aa.up {h h2 : c_Hp} {b n a : Nat} {g : Nat → Nat} {c : c_Cell} (o : c_aa h b n g) (u : c_up h h2 a c) (hne : b ≠ a) : c_aa h2 b n g := by
  unfold c_aa
  rw [u.2.2.1 b hne]
  exact o
theorem c_aa.ch {h h2 : c_Hp} {W : List Nat} {b n : Nat} {g : Nat → Nat} (o : c_aa h b n g) (r : c_ch h h2 W) (hb : b ∉ W) : c_aa h2 b n g := by
  unfold c_aa
  rw [r.2.2 b hb]
  exact o
theorem e_aald {X : List Int32} {k pc : Nat} {L : c_Ls} {st : List Value} {h : c_Hp} {Q : c_O × c_Hp → Prop} {b n j : Nat} {e : Int} {g : Nat → Nat} {x y z} (hq : c_q k pc = some (.aaload, x, y, z)) (o : c_aa h b n g) (he : e = (j : Int)) (hj : j < n) (hn : n ≤ 100000) (K : c_Ev X k (pc + 1) L (.ref (g j) :: st) h Q) : c_Ev X k pc L (n_v e :: .ref b :: st) h Q := by
  subst he
  refine e_st hq rfl ?_ K
  show c_aald pc L (n_v (j : Int) :: .ref b :: st) h = _
  have hv : c_vs h b 2 = some ((List.range n).map (fun t => Value.ref (g t))) := by
    unfold c_vs
    rw [show h[b]? = _ from o]
    rfl
  unfold c_aald
  simp only [hv, List.length_map, List.length_range, n_ix hj hn, List.getElem?_map, List.getElem?_range hj, Option.map_some]
theorem c_okv_z {a : Int} (h : a = 0 ∨ a = 1) : c_okv .boolean (n_v a) = true := by
  rcases h with rfl | rfl <;> decide +kernel
section Ms
variable {X : List Int32} {h : c_Hp} {Q : c_O × c_Hp → Prop}
theorem s52L {a b c e n : Nat} {rg : Value} {f g : Nat → Int} (hr0 : c_ob h a 6 [.ref c, .ref b, n_v ↑n, rg]) (hg0 : c_ar h e 60 g) (hn : n ≤ 60) (hne : a ≠ c ∧ e ≠ c) (K : ∀ (h2 : c_Hp), c_ch h h2 [c] → c_ar h2 c 60 (fun t => if t < n then g t else f t) → Q (.inl none, h2)) : ∀ (m i : Nat) (h1 : c_Hp) (f1 : Nat → Int), i + m = n → c_ch h h1 [c] → c_ar h1 c 60 f1 → (∀ t, f1 t = if t < i then g t else f t) → c_Ev X 52 2 [some (.ref a), some (.ref e), some (n_v ↑i)] [] h1 Q
  | 0, i, h1, f1, e1, hch, hf, hx => by
    have hr := hr0.ch hch (by simp; omega)
    have hg := hg0.ch hch (by simp; omega)
    refine e_st (pc := 2) q52_2 rfl rfl ?_
    refine e_st (pc := 3) q52_3 rfl rfl ?_
    refine e_getf (pc := 4) q52_4 hr rfl ?_
    refine e_cmp true (pc := 7) q52_7 ⟨by omega, by omega⟩ ⟨by omega, by omega⟩ (n_t_ge (by omega)) ?_
    refine e_ret (pc := 31) q52_31 rfl rfl rfl ?_
    have e2 : i = n := by omega
    subst e2
    have e3 : f1 = fun t => if t < i then g t else f t := funext hx
    rw [e3] at hf
    exact K h1 hch hf
  | m + 1, i, h0, f1, e1, hch, hf, hx => by
    have hr := hr0.ch hch (by simp; omega)
    have hg := hg0.ch hch (by simp; omega)
    refine e_st (pc := 2) q52_2 rfl rfl ?_
    refine e_st (pc := 3) q52_3 rfl rfl ?_
    refine e_getf (pc := 4) q52_4 hr rfl ?_
    refine e_cmp false (pc := 7) q52_7 ⟨by omega, by omega⟩ ⟨by omega, by omega⟩ (n_f_ge (by omega)) ?_
    refine e_st (pc := 10) q52_10 rfl rfl ?_
    refine e_st (pc := 11) q52_11 rfl rfl ?_
    refine e_len (pc := 12) q52_12 hg ?_
    refine e_cmp false (pc := 13) q52_13 ⟨by omega, by omega⟩ ⟨by omega, by omega⟩ (n_f_ge (by omega)) ?_
    refine e_st (pc := 16) q52_16 rfl rfl ?_
    refine e_getf (pc := 17) q52_17 hr rfl ?_
    refine e_st (pc := 20) q52_20 rfl rfl ?_
    refine e_st (pc := 21) q52_21 rfl rfl ?_
    refine e_st (pc := 22) q52_22 rfl rfl ?_
    refine e_ald (pc := 23) (j := i) q52_23 hg (by omega) (by omega) (by omega) ?_
    refine e_ast (pc := 24) (j := i) q52_24 hf (by omega) (by omega) (by omega) (fun h1 u1 => ?_)
    have hr := hr.up u1 (by omega)
    have hg := hg.up u1 (by omega)
    have hf : c_ar h1 c 60 (fun t => if t = i then (g i) else f1 t) := u1.2.1
    refine e_inc (pc := 25) (L2 := [some (.ref a), some (.ref e), some (n_v (↑i + 1))]) q52_25 rfl rfl ?_
    refine e_st (pc := 28) q52_28 rfl rfl ?_
    exact s52L hr0 hg0 hn hne K m (i + 1) h1 _ (by omega) (hch.up u1 (by simp)) hf (fun t => by
      by_cases e2 : t = i
      · rw [if_pos e2, if_pos (by omega), e2]
      · rw [if_neg e2, hx t]
        by_cases e3 : t < i
        · rw [if_pos e3, if_pos (by omega)]
        · rw [if_neg e3, if_neg (by omega)])
theorem s52 {a b c e n : Nat} {rg : Value} {f g : Nat → Int} (hr0 : c_ob h a 6 [.ref c, .ref b, n_v ↑n, rg]) (hg0 : c_ar h e 60 g) (hn : n ≤ 60) (hne : a ≠ c ∧ e ≠ c) (K : ∀ (h2 : c_Hp), c_ch h h2 [c] → c_ar h2 c 60 (fun t => if t < n then g t else f t) → Q (.inl none, h2)) (hf : c_ar h c 60 f) : c_Ev X 52 0 [some (.ref a), some (.ref e), none] [] h Q := by
  refine e_cst (v := 0) (len := 1) (pc := 0) q52_0 rfl rfl rfl ?_
  refine e_st (pc := 1) (L2 := [some (.ref a), some (.ref e), some (n_v 0)]) q52_1 rfl rfl ?_
  exact s52L hr0 hg0 hn hne K n 0 h f (by omega) (c_ch.rf h _) hf (fun t => by rw [if_neg (by omega)])
theorem s53L {a b c e n : Nat} {rg : Value} {f g : Nat → Int} (hr0 : c_ob h a 6 [.ref c, .ref b, n_v ↑n, rg]) (hg0 : c_ar h e 60 g) (hn : n ≤ 60) (hne : a ≠ b ∧ e ≠ b) (K : ∀ (h2 : c_Hp), c_ch h h2 [b] → c_ar h2 b 60 (fun t => if t < n then g t else f t) → Q (.inl none, h2)) : ∀ (m i : Nat) (h1 : c_Hp) (f1 : Nat → Int), i + m = n → c_ch h h1 [b] → c_ar h1 b 60 f1 → (∀ t, f1 t = if t < i then g t else f t) → c_Ev X 53 2 [some (.ref a), some (.ref e), some (n_v ↑i)] [] h1 Q
  | 0, i, h1, f1, e1, hch, hf, hx => by
    have hr := hr0.ch hch (by simp; omega)
    have hg := hg0.ch hch (by simp; omega)
    refine e_st (pc := 2) q53_2 rfl rfl ?_
    refine e_st (pc := 3) q53_3 rfl rfl ?_
    refine e_getf (pc := 4) q53_4 hr rfl ?_
    refine e_cmp true (pc := 7) q53_7 ⟨by omega, by omega⟩ ⟨by omega, by omega⟩ (n_t_ge (by omega)) ?_
    refine e_ret (pc := 31) q53_31 rfl rfl rfl ?_
    have e2 : i = n := by omega
    subst e2
    have e3 : f1 = fun t => if t < i then g t else f t := funext hx
    rw [e3] at hf
    exact K h1 hch hf
  | m + 1, i, h0, f1, e1, hch, hf, hx => by
    have hr := hr0.ch hch (by simp; omega)
    have hg := hg0.ch hch (by simp; omega)
    refine e_st (pc := 2) q53_2 rfl rfl ?_
    refine e_st (pc := 3) q53_3 rfl rfl ?_
    refine e_getf (pc := 4) q53_4 hr rfl ?_
    refine e_cmp false (pc := 7) q53_7 ⟨by omega, by omega⟩ ⟨by omega, by omega⟩ (n_f_ge (by omega)) ?_
    refine e_st (pc := 10) q53_10 rfl rfl ?_
    refine e_st (pc := 11) q53_11 rfl rfl ?_
    refine e_len (pc := 12) q53_12 hg ?_
    refine e_cmp false (pc := 13) q53_13 ⟨by omega, by omega⟩ ⟨by omega, by omega⟩ (n_f_ge (by omega)) ?_
    refine e_st (pc := 16) q53_16 rfl rfl ?_
    refine e_getf (pc := 17) q53_17 hr rfl ?_
    refine e_st (pc := 20) q53_20 rfl rfl ?_
    refine e_st (pc := 21) q53_21 rfl rfl ?_
    refine e_st (pc := 22) q53_22 rfl rfl ?_
    refine e_ald (pc := 23) (j := i) q53_23 hg (by omega) (by omega) (by omega) ?_
    refine e_ast (pc := 24) (j := i) q53_24 hf (by omega) (by omega) (by omega) (fun h1 u1 => ?_)
    have hr := hr.up u1 (by omega)
    have hg := hg.up u1 (by omega)
    have hf : c_ar h1 b 60 (fun t => if t = i then (g i) else f1 t) := u1.2.1
    refine e_inc (pc := 25) (L2 := [some (.ref a), some (.ref e), some (n_v (↑i + 1))]) q53_25 rfl rfl ?_
    refine e_st (pc := 28) q53_28 rfl rfl ?_
    exact s53L hr0 hg0 hn hne K m (i + 1) h1 _ (by omega) (hch.up u1 (by simp)) hf (fun t => by
      by_cases e2 : t = i
      · rw [if_pos e2, if_pos (by omega), e2]
      · rw [if_neg e2, hx t]
        by_cases e3 : t < i
        · rw [if_pos e3, if_pos (by omega)]
        · rw [if_neg e3, if_neg (by omega)])
theorem s53 {a b c e n : Nat} {rg : Value} {f g : Nat → Int} (hr0 : c_ob h a 6 [.ref c, .ref b, n_v ↑n, rg]) (hg0 : c_ar h e 60 g) (hn : n ≤ 60) (hne : a ≠ b ∧ e ≠ b) (K : ∀ (h2 : c_Hp), c_ch h h2 [b] → c_ar h2 b 60 (fun t => if t < n then g t else f t) → Q (.inl none, h2)) (hf : c_ar h b 60 f) : c_Ev X 53 0 [some (.ref a), some (.ref e), none] [] h Q := by
  refine e_cst (v := 0) (len := 1) (pc := 0) q53_0 rfl rfl rfl ?_
  refine e_st (pc := 1) (L2 := [some (.ref a), some (.ref e), some (n_v 0)]) q53_1 rfl rfl ?_
  exact s53L hr0 hg0 hn hne K n 0 h f (by omega) (c_ch.rf h _) hf (fun t => by rw [if_neg (by omega)])
theorem s51 {n : Nat} {rg : Int} {n2 rg2 : Value} {cf bf cf2 bf2 : Nat → Int} (hr : c_ob h 1 6 [.ref 2, .ref 3, n_v ↑n, n_v rg]) (hc : c_ar h 2 60 cf) (hb : c_ar h 3 60 bf) (ht : c_ob h 52 6 [.ref 53, .ref 54, n2, rg2]) (hc2 : c_ar h 53 60 cf2) (hb2 : c_ar h 54 60 bf2) (hn : n ≤ 60) (hrg : rg = 0 ∨ rg = 1)
    (K : ∀ (h2 : c_Hp), c_ch h h2 [52, 53, 54] → c_ob h2 52 6 [.ref 53, .ref 54, n_v ↑n, n_v rg] → c_ar h2 53 60 (fun t => if t < n then cf t else cf2 t) → c_ar h2 54 60 (fun t => if t < n then bf t else bf2 t) → Q (.inl none, h2)) : c_Ev X 51 0 [some (.ref 52), some (.ref 1)] [] h Q := by
  refine e_st (pc := 0) q51_0 rfl rfl ?_
  refine e_st (pc := 1) q51_1 rfl rfl ?_
  refine e_getf (pc := 2) q51_2 hr rfl ?_
  refine e_putf (pc := 5) (fs2 := [.ref 53, .ref 54, n_v ↑n, rg2]) q51_5 ht (c_okv_i _) (Nat.le_of_ble_eq_true rfl) rfl (fun h1 u1 => ?_)
  have hr := hr.up u1 (by omega)
  have hc := hc.up u1 (by omega)
  have hb := hb.up u1 (by omega)
  have hc2 := hc2.up u1 (by omega)
  have hb2 := hb2.up u1 (by omega)
  have ht : c_ob h1 52 6 [.ref 53, .ref 54, n_v ↑n, rg2] := u1.2.1
  refine e_st (pc := 8) q51_8 rfl rfl ?_
  refine e_st (pc := 9) q51_9 rfl rfl ?_
  refine e_getf (pc := 10) q51_10 hr rfl ?_
  refine e_putf (pc := 13) (fs2 := [.ref 53, .ref 54, n_v ↑n, n_v rg]) q51_13 ht (c_okv_z hrg) (Nat.le_of_ble_eq_true rfl) rfl (fun h2 u2 => ?_)
  have hr := hr.up u2 (by omega)
  have hc := hc.up u2 (by omega)
  have hb := hb.up u2 (by omega)
  have hc2 := hc2.up u2 (by omega)
  have hb2 := hb2.up u2 (by omega)
  have ht : c_ob h2 52 6 [.ref 53, .ref 54, n_v ↑n, n_v rg] := u2.2.1
  refine e_st (pc := 16) q51_16 rfl rfl ?_
  refine e_st (pc := 17) q51_17 rfl rfl ?_
  refine e_getf (pc := 18) q51_18 hr rfl ?_
  refine e_callV (pc := 21) (mz := c_m52) (a := 52) (L0 := [some (.ref 52), some (.ref 2), none]) (rest := []) q51_21 rfl rfl rfl rfl rfl rfl rfl ht rfl rfl ?_
  refine s52 ht hc hn (by decide) (fun h3 c3 hc2 => ?_) hc2
  have hr := hr.ch c3 (by simp)
  have hb := hb.ch c3 (by simp)
  have ht := ht.ch c3 (by simp)
  have hb2 := hb2.ch c3 (by simp)
  refine e_k0 (pc := 21) ?_
  refine e_st (pc := 24) q51_24 rfl rfl ?_
  refine e_st (pc := 25) q51_25 rfl rfl ?_
  refine e_getf (pc := 26) q51_26 hr rfl ?_
  refine e_callV (pc := 29) (mz := c_m53) (a := 52) (L0 := [some (.ref 52), some (.ref 3), none]) (rest := []) q51_29 rfl rfl rfl rfl rfl rfl rfl ht rfl rfl ?_
  refine s53 ht hb hn (by decide) (fun h4 c4 hb2 => ?_) hb2
  have ht := ht.ch c4 (by simp)
  have hc2 := hc2.ch c4 (by simp)
  refine e_k0 (pc := 29) ?_
  refine e_ret (pc := 32) q51_32 rfl rfl rfl ?_
  exact K h4 (((((c_ch.rf h _).up u1 (by simp)).up u2 (by simp)).tr (c3.sub (by simp))).tr (c4.sub (by simp))) ht hc2 hb2
theorem s54L {n : Nat} {rg n2 rg2 : Value} {f g : Nat → Int} (hr : c_ob h 52 6 [.ref 53, .ref 54, n_v ↑n, rg]) (ht : c_ob h 1 6 [.ref 2, .ref 3, n2, rg2]) (hf : c_ar h 54 60 f) (hg : c_ar h 3 60 g) (hn : n ≤ 60) (he : ∀ t, t < n → f t = g t ∧ 0 ≤ g t ∧ g t ≤ 200) (K : Q (.inl (some (n_v 1)), h)) : ∀ (m i : Nat), i + m = n → c_Ev X 54 2 [some (.ref 52), some (.ref 1), some (n_v ↑i)] [] h Q
  | 0, i, e => by
    refine e_st (pc := 2) q54_2 rfl rfl ?_
    refine e_st (pc := 3) q54_3 rfl rfl ?_
    refine e_getf (pc := 4) q54_4 hr rfl ?_
    refine e_cmp true (pc := 7) q54_7 ⟨by omega, by omega⟩ ⟨by omega, by omega⟩ (n_t_ge (by omega)) ?_
    refine e_cst (v := 1) (len := 1) (pc := 33) q54_33 rfl rfl rfl ?_
    refine e_iret (pc := 34) q54_34 rfl rfl rfl (by decide +kernel) ?_
    exact K
  | m + 1, i, e => by
    have hei := he i (by omega)
    refine e_st (pc := 2) q54_2 rfl rfl ?_
    refine e_st (pc := 3) q54_3 rfl rfl ?_
    refine e_getf (pc := 4) q54_4 hr rfl ?_
    refine e_cmp false (pc := 7) q54_7 ⟨by omega, by omega⟩ ⟨by omega, by omega⟩ (n_f_ge (by omega)) ?_
    refine e_st (pc := 10) q54_10 rfl rfl ?_
    refine e_getf (pc := 11) q54_11 hr rfl ?_
    refine e_st (pc := 14) q54_14 rfl rfl ?_
    refine e_ald (pc := 15) (j := i) q54_15 hf (by omega) (by omega) (by omega) ?_
    refine e_st (pc := 16) q54_16 rfl rfl ?_
    refine e_getf (pc := 17) q54_17 ht rfl ?_
    refine e_st (pc := 20) q54_20 rfl rfl ?_
    refine e_ald (pc := 21) (j := i) q54_21 hg (by omega) (by omega) (by omega) ?_
    refine e_cmp true (pc := 22) q54_22 ⟨by omega, by omega⟩ ⟨by omega, by omega⟩ (n_t_eq (by omega)) ?_
    refine e_inc (pc := 27) (L2 := [some (.ref 52), some (.ref 1), some (n_v (↑i + 1))]) q54_27 rfl rfl ?_
    refine e_st (pc := 30) q54_30 rfl rfl ?_
    exact s54L hr ht hf hg hn he K m (i + 1) (by omega)
theorem s54 {n : Nat} {rg n2 rg2 : Value} {f g : Nat → Int} (hr : c_ob h 52 6 [.ref 53, .ref 54, n_v ↑n, rg]) (ht : c_ob h 1 6 [.ref 2, .ref 3, n2, rg2]) (hf : c_ar h 54 60 f) (hg : c_ar h 3 60 g) (hn : n ≤ 60) (he : ∀ t, t < n → f t = g t ∧ 0 ≤ g t ∧ g t ≤ 200) (K : Q (.inl (some (n_v 1)), h)) : c_Ev X 54 0 [some (.ref 52), some (.ref 1), none] [] h Q := by
  refine e_cst (v := 0) (len := 1) (pc := 0) q54_0 rfl rfl rfl ?_
  refine e_st (pc := 1) (L2 := [some (.ref 52), some (.ref 1), some (n_v 0)]) q54_1 rfl rfl ?_
  exact s54L hr ht hf hg hn he K n 0 (by omega)
theorem m_lb_b {li lo ca ba : Int} (h1 : 0 ≤ lo ∧ lo ≤ li) (h2 : 0 ≤ ba ∧ ba ≤ ca) : 0 ≤ m_lb li lo ca ba ∧ m_lb li lo ca ba ≤ ca := by
  unfold m_lb
  omega
theorem m_lb_inv {li lo ca ba : Int} (h1 : 0 ≤ lo ∧ lo ≤ li) (h2 : 0 ≤ ba ∧ ba ≤ ca) : m_lb li (lo + (ba - m_lb li lo ca ba)) ca (m_lb li lo ca ba) = ba := by
  unfold m_lb
  omega
/-- the way back over what a carrier left -/
theorem m_back {li : Int} {n : Nat} {cf cf2 bf lf : Nat → Int} (hli : 0 ≤ li) (hbf : ∀ t, t < n → 0 ≤ bf t ∧ bf t ≤ cf t) (hcf : ∀ t, t < n → cf2 t = cf t) (hlf : ∀ t, t < n → lf t = m_lb li (m_ld li 0 cf bf (fun t => t) t) (cf t) (bf t)) (h0 : m_ld li 0 cf bf (fun t => t) n = 0) :
    ∀ g, g ≤ n → m_ld li 0 cf2 lf (fun t => n - 1 - t) g = m_ld li 0 cf bf (fun t => t) (n - g)
  | 0, _ => by rw [Nat.sub_zero, h0]; rfl
  | g + 1, hg => by
    have ih := m_back hli hbf hcf hlf h0 g (by omega)
    have hb := m_ld_b (li := li) (st := 0) (cf := cf) (bf := bf) (o := fun t => t) (n := n) ⟨by omega, hli⟩ hbf (n - (g + 1)) (by omega)
    have h1 := hbf (n - (g + 1)) (by omega)
    have e1 : n - g = (n - (g + 1)) + 1 := by omega
    have e2 : n - 1 - g = n - (g + 1) := by omega
    rw [m_ld, ih, e1, m_ld]
    simp only [e2]
    rw [hcf _ (by omega), hlf _ (by omega), m_lb_inv hb h1]
    omega
theorem m_back_l {li : Int} {n : Nat} {cf cf2 bf lf : Nat → Int} (hli : 0 ≤ li) (hbf : ∀ t, t < n → 0 ≤ bf t ∧ bf t ≤ cf t) (hcf : ∀ t, t < n → cf2 t = cf t) (hlf : ∀ t, t < n → lf t = m_lb li (m_ld li 0 cf bf (fun t => t) t) (cf t) (bf t)) (h0 : m_ld li 0 cf bf (fun t => t) n = 0) (g : Nat) (hg : g < n) :
    m_lb li (m_ld li 0 cf2 lf (fun t => n - 1 - t) g) (cf2 (n - 1 - g)) (lf (n - 1 - g)) = bf (n - 1 - g) := by
  have hb := m_ld_b (li := li) (st := 0) (cf := cf) (bf := bf) (o := fun t => t) (n := n) ⟨by omega, hli⟩ hbf (n - 1 - g) (by omega)
  have h1 := hbf (n - 1 - g) (by omega)
  rw [m_back hli hbf hcf hlf h0 g (by omega), show n - g = (n - 1 - g) + 1 by omega, m_ld, hcf _ (by omega), hlf _ (by omega), m_lb_inv hb h1]
/-- the objects that are worked with -/
def m_SC (h : c_Hp) : Prop := (∃ mo, c_ob h 23 0 [.ref 24, mo]) ∧ (∃ lf, c_ar h 24 60 lf) ∧ (∃ k, c_ob h 25 3 [.ref 26, .ref 27, k]) ∧ (∃ f, c_ar h 26 120 f) ∧ (∃ f, c_ar h 27 60 f) ∧ (∃ bl la, c_ob h 28 7 [.ref 29, .ref 30, bl, la]) ∧ (∃ f, c_ar h 29 60 f) ∧ (∃ f, c_ar h 30 60 f) ∧ (∃ n r, c_ob h 52 6 [.ref 53, .ref 54, n, r]) ∧ (∃ f, c_ar h 53 60 f) ∧ (∃ f, c_ar h 54 60 f)
def m_W : List Nat := [23, 24, 25, 26, 27, 28, 29, 30, 51, 52, 53, 54]
theorem s18 {n : Nat} {rg : Int} {cf bf : Nat → Int} (ho : c_ob h 0 10 m_O) (hr : c_ob h 1 6 [.ref 2, .ref 3, n_v ↑n, n_v rg]) (hc : c_ar h 2 60 cf) (hb : c_ar h 3 60 bf) (hn : n ≤ 60) (hrg : rg = 0 ∨ rg = 1) (hbf : ∀ t, t < n → 0 ≤ bf t ∧ bf t ≤ cf t ∧ cf t ≤ 4) (hS : m_SC h)
    (K : ∀ (h2 : c_Hp), c_ch h h2 m_W → m_SC h2 → Q (.inl (some (n_v 1)), h2)) : c_Ev X 18 0 [some (.ref 0)] [] h Q := by
  obtain ⟨⟨mo, s1⟩, ⟨lf, s2⟩, s3, s4, s5, s6, s7, s8, ⟨n2, r2, s9⟩, ⟨cf2, s10⟩, ⟨bf2, s11⟩⟩ := id hS
  rcases hrg with hrg | hrg
  · subst hrg
    refine e_st (pc := 0) q18_0 rfl rfl ?_
    refine e_getf (pc := 1) q18_1 ho rfl ?_
    refine e_getf (pc := 4) q18_4 hr rfl ?_
    refine e_if false (pc := 7) q18_7 ⟨by omega, by omega⟩ (n_f_ne (by omega)) ?_
    refine e_st (pc := 10) q18_10 rfl rfl ?_
    refine e_getf (pc := 11) q18_11 ho rfl ?_
    refine e_st (pc := 14) q18_14 rfl rfl ?_
    refine e_getf (pc := 15) q18_15 ho rfl ?_
    refine e_cst (v := 3) (len := 1) (pc := 18) q18_18 rfl rfl rfl ?_
    refine e_cst (v := 1) (len := 1) (pc := 19) q18_19 rfl rfl rfl ?_
    refine e_callV (pc := 20) (mz := c_m25) (a := 23) (L0 := [some (.ref 23), some (.ref 1), some (n_v 3), some (n_v 1), none]) (rest := []) q18_20 rfl rfl rfl rfl rfl rfl rfl s1 rfl rfl ?_
    refine s25f0 hr hc hb s2 s1 hn hbf (by omega) (by decide) (fun h1 lf1 c1 s2 s1 hlf => ?_)
    have ho := ho.ch c1 (by simp)
    have hr := hr.ch c1 (by simp)
    have hc := hc.ch c1 (by simp)
    have hb := hb.ch c1 (by simp)
    have s9 := s9.ch c1 (by simp)
    have s10 := s10.ch c1 (by simp)
    have s11 := s11.ch c1 (by simp)
    refine e_k (pc := 20) ?_
    by_cases h0 : m_ld 3 0 cf bf (fun t => t) n = 0
    · rw [if_pos h0]
      refine e_if true (pc := 23) q18_23 ⟨by omega, by omega⟩ (n_t_ne (by omega)) ?_
      refine e_st (pc := 28) q18_28 rfl rfl ?_
      refine e_getf (pc := 29) q18_29 ho rfl ?_
      refine e_st (pc := 32) q18_32 rfl rfl ?_
      refine e_getf (pc := 33) q18_33 ho rfl ?_
      refine e_callV (pc := 36) (mz := c_m51) (a := 52) (L0 := [some (.ref 52), some (.ref 1)]) (rest := []) q18_36 rfl rfl rfl rfl rfl rfl rfl s9 rfl rfl ?_
      refine s51 hr hc hb s9 s10 s11 hn (Or.inl rfl) (fun h2 c2 s9 s10 s11 => ?_)
      have ho := ho.ch c2 (by simp)
      have hr := hr.ch c2 (by simp)
      have hc := hc.ch c2 (by simp)
      have hb := hb.ch c2 (by simp)
      have s1 := s1.ch c2 (by simp)
      have s2 := s2.ch c2 (by simp)
      refine e_k0 (pc := 36) ?_
      refine e_st (pc := 39) q18_39 rfl rfl ?_
      refine e_getf (pc := 40) q18_40 ho rfl ?_
      refine e_st (pc := 43) q18_43 rfl rfl ?_
      refine e_getf (pc := 44) q18_44 ho rfl ?_
      refine e_getf (pc := 47) q18_47 s1 rfl ?_
      refine e_callV (pc := 50) (mz := c_m53) (a := 52) (L0 := [some (.ref 52), some (.ref 24), none]) (rest := []) q18_50 rfl rfl rfl rfl rfl rfl rfl s9 rfl rfl ?_
      refine s53 s9 s2 hn (by decide) (fun h3 c3 s11 => ?_) s11
      have ho := ho.ch c3 (by simp)
      have hr := hr.ch c3 (by simp)
      have hc := hc.ch c3 (by simp)
      have hb := hb.ch c3 (by simp)
      have s1 := s1.ch c3 (by simp)
      have s2 := s2.ch c3 (by simp)
      have s9 := s9.ch c3 (by simp)
      have s10 := s10.ch c3 (by simp)
      refine e_k0 (pc := 50) ?_
      refine e_st (pc := 53) q18_53 rfl rfl ?_
      refine e_getf (pc := 54) q18_54 ho rfl ?_
      refine e_st (pc := 57) q18_57 rfl rfl ?_
      refine e_getf (pc := 58) q18_58 ho rfl ?_
      refine e_cst (v := 3) (len := 1) (pc := 61) q18_61 rfl rfl rfl ?_
      refine e_cst (v := 0) (len := 1) (pc := 62) q18_62 rfl rfl rfl ?_
      have hb1 : ∀ t, t < n → 0 ≤ bf t ∧ bf t ≤ cf t := fun t ht => ⟨(hbf t ht).1, (hbf t ht).2.1⟩
      have hcx : ∀ t, t < n → (fun t => if t < n then cf t else cf2 t) t = cf t := fun t ht => if_pos ht
      have hlx : ∀ t, t < n → (fun t => if t < n then lf1 t else (if t < n then bf t else bf2 t)) t = m_lb 3 (m_ld 3 0 cf bf (fun t => t) t) (cf t) (bf t) := fun t ht => (if_pos ht).trans (hlf t ht)
      have hbk : ∀ t, t < n → 0 ≤ (fun t => if t < n then lf1 t else (if t < n then bf t else bf2 t)) t ∧ (fun t => if t < n then lf1 t else (if t < n then bf t else bf2 t)) t ≤ (fun t => if t < n then cf t else cf2 t) t ∧ (fun t => if t < n then cf t else cf2 t) t ≤ 4 := by
        intro t ht
        have g1 := m_ld_b (li := 3) (st := 0) (cf := cf) (bf := bf) (o := fun t => t) (n := n) ⟨by omega, by omega⟩ hb1 t (by omega)
        have g2 := m_lb_b g1 (hb1 t ht)
        rw [hlx t ht, hcx t ht]
        exact ⟨g2.1, g2.2, (hbf t ht).2.2⟩
      have hB := m_back (by omega) hb1 hcx hlx h0 n (Nat.le_refl n)
      rw [Nat.sub_self] at hB
      have hB2 := m_back_l (by omega) hb1 hcx hlx h0
      refine e_callV (pc := 63) (mz := c_m25) (a := 23) (L0 := [some (.ref 23), some (.ref 52), some (n_v 3), some (n_v 0), none]) (rest := []) q18_63 rfl rfl rfl rfl rfl rfl rfl s1 rfl rfl ?_
      refine s25b0 s9 s10 s11 s2 s1 hn hbk (by omega) (by decide) (fun h4 lf4 c4 s2 s1 hlf4 => ?_)
      rw [if_pos (show _ = (0 : Int) from hB)]
      have ho := ho.ch c4 (by simp)
      have hr := hr.ch c4 (by simp)
      have hc := hc.ch c4 (by simp)
      have hb := hb.ch c4 (by simp)
      have s9 := s9.ch c4 (by simp)
      have s10 := s10.ch c4 (by simp)
      have s11 := s11.ch c4 (by simp)
      refine e_k (pc := 63) ?_
      refine e_if true (pc := 66) q18_66 ⟨by omega, by omega⟩ (n_t_ne (by omega)) ?_
      refine e_st (pc := 71) q18_71 rfl rfl ?_
      refine e_getf (pc := 72) q18_72 ho rfl ?_
      refine e_st (pc := 75) q18_75 rfl rfl ?_
      refine e_getf (pc := 76) q18_76 ho rfl ?_
      refine e_getf (pc := 79) q18_79 s1 rfl ?_
      refine e_callV (pc := 82) (mz := c_m53) (a := 52) (L0 := [some (.ref 52), some (.ref 24), none]) (rest := []) q18_82 rfl rfl rfl rfl rfl rfl rfl s9 rfl rfl ?_
      refine s53 s9 s2 hn (by decide) (fun h5 c5 s11 => ?_) s11
      have ho := ho.ch c5 (by simp)
      have hr := hr.ch c5 (by simp)
      have hb := hb.ch c5 (by simp)
      have s1 := s1.ch c5 (by simp)
      have s2 := s2.ch c5 (by simp)
      have s9 := s9.ch c5 (by simp)
      have s10 := s10.ch c5 (by simp)
      refine e_k0 (pc := 82) ?_
      refine e_st (pc := 85) q18_85 rfl rfl ?_
      refine e_getf (pc := 86) q18_86 ho rfl ?_
      refine e_st (pc := 89) q18_89 rfl rfl ?_
      refine e_getf (pc := 90) q18_90 ho rfl ?_
      refine e_callV (pc := 93) (mz := c_m54) (a := 52) (L0 := [some (.ref 52), some (.ref 1), none]) (rest := []) q18_93 rfl rfl rfl rfl rfl rfl rfl s9 rfl rfl ?_
      refine s54 s9 hr s11 hb hn (fun t ht => ?_) ?_
      · have e1 := hlf4 (n - 1 - t) (by omega)
        rw [hB2 (n - 1 - t) (by omega), show n - 1 - (n - 1 - t) = t by omega] at e1
        have e2 := hbf t ht
        exact ⟨(if_pos ht).trans e1, by omega, by omega⟩
      refine e_k (pc := 93) ?_
      refine e_iret (pc := 96) q18_96 rfl rfl rfl (by decide +kernel) ?_
      have hW : c_ch h h5 m_W := ((((c1.sub (by simp [m_W])).tr (c2.sub (by simp [m_W]))).tr (c3.sub (by simp [m_W]))).tr (c4.sub (by simp [m_W]))).tr (c5.sub (by simp [m_W]))
      have hx : ∀ q, q = 25 ∨ q = 26 ∨ q = 27 ∨ q = 28 ∨ q = 29 ∨ q = 30 → h5[q]? = h[q]? := fun q hq => by
        rw [c5.2.2 q (by simp; omega), c4.2.2 q (by simp; omega), c3.2.2 q (by simp; omega), c2.2.2 q (by simp; omega), c1.2.2 q (by simp; omega)]
      refine K h5 hW ⟨⟨_, s1⟩, ⟨_, s2⟩, ?_, ?_, ?_, ?_, ?_, ?_, ⟨_, _, s9⟩, ⟨_, s10⟩, ⟨_, s11⟩⟩
      · unfold c_ob; rw [hx 25 (by omega)]; exact s3
      · unfold c_ar; rw [hx 26 (by omega)]; exact s4
      · unfold c_ar; rw [hx 27 (by omega)]; exact s5
      · unfold c_ob; rw [hx 28 (by omega)]; exact s6
      · unfold c_ar; rw [hx 29 (by omega)]; exact s7
      · unfold c_ar; rw [hx 30 (by omega)]; exact s8
    · rw [if_neg h0]
      refine e_if false (pc := 23) q18_23 ⟨by omega, by omega⟩ (n_f_ne (by omega)) ?_
      refine e_cst (v := 1) (len := 1) (pc := 26) q18_26 rfl rfl rfl ?_
      refine e_iret (pc := 27) q18_27 rfl rfl rfl (by decide +kernel) ?_
      have hx : ∀ q, q = 25 ∨ q = 26 ∨ q = 27 ∨ q = 28 ∨ q = 29 ∨ q = 30 → h1[q]? = h[q]? := fun q hq => c1.2.2 q (by simp; omega)
      refine K h1 (c1.sub (by simp [m_W])) ⟨⟨_, s1⟩, ⟨_, s2⟩, ?_, ?_, ?_, ?_, ?_, ?_, ⟨_, _, s9⟩, ⟨_, s10⟩, ⟨_, s11⟩⟩
      · unfold c_ob; rw [hx 25 (by omega)]; exact s3
      · unfold c_ar; rw [hx 26 (by omega)]; exact s4
      · unfold c_ar; rw [hx 27 (by omega)]; exact s5
      · unfold c_ob; rw [hx 28 (by omega)]; exact s6
      · unfold c_ar; rw [hx 29 (by omega)]; exact s7
      · unfold c_ar; rw [hx 30 (by omega)]; exact s8
  · subst hrg
    refine e_st (pc := 0) q18_0 rfl rfl ?_
    refine e_getf (pc := 1) q18_1 ho rfl ?_
    refine e_getf (pc := 4) q18_4 hr rfl ?_
    refine e_if true (pc := 7) q18_7 ⟨by omega, by omega⟩ (n_t_ne (by omega)) ?_
    refine e_cst (v := 1) (len := 1) (pc := 26) q18_26 rfl rfl rfl ?_
    refine e_iret (pc := 27) q18_27 rfl rfl rfl (by decide +kernel) ?_
    exact K h (c_ch.rf h _) hS
end Ms
end
