section
-- ===== PART A: goes FIRST, ahead of the names: the tables' words, and 'selects' of the private methods out of them =====
/-- a private method of a class that the tables say can be made, by its rows of tables_1 -/
def lw_okq (q : MethodName × Nat) : Prop := (q.1.cls ≠ "java/lang/invoke/MethodHandle" ∧ q.1.cls ≠ "java/lang/invoke/VarHandle") ∧ Cond.instantiable q.1.cls q.2 ∈ tables_1 ∧ Cond.privateMethod q.1 ∈ tables_1 ∧ Cond.instanceMethod q.1 ∈ tables_1
theorem lw_p0 : lw_okq (⟨"DisturbedCells$Plane", "layCell", "(II)V"⟩, 13) := ⟨⟨by decide +kernel, by decide +kernel⟩, List.mem_of_getElem? (i := 33) (by decide +kernel), List.mem_of_getElem? (i := 46) (by decide +kernel), List.mem_of_getElem? (i := 47) (by decide +kernel)⟩
theorem lw_p1 : lw_okq (⟨"DisturbedCells$Plane", "layBeside", "(IIZI)V"⟩, 13) := ⟨⟨by decide +kernel, by decide +kernel⟩, List.mem_of_getElem? (i := 33) (by decide +kernel), List.mem_of_getElem? (i := 54) (by decide +kernel), List.mem_of_getElem? (i := 55) (by decide +kernel)⟩
theorem lw_p2 : lw_okq (⟨"DisturbedCells$Plane", "setAddress", "(II)V"⟩, 13) := ⟨⟨by decide +kernel, by decide +kernel⟩, List.mem_of_getElem? (i := 33) (by decide +kernel), List.mem_of_getElem? (i := 65) (by decide +kernel), List.mem_of_getElem? (i := 66) (by decide +kernel)⟩
theorem lw_p3 : lw_okq (⟨"DisturbedCells", "isFault", "(IIII)Z"⟩, 4) := ⟨⟨by decide +kernel, by decide +kernel⟩, List.mem_of_getElem? (i := 9) (by decide +kernel), List.mem_of_getElem? (i := 269) (by decide +kernel), List.mem_of_getElem? (i := 270) (by decide +kernel)⟩
theorem lw_p4 : lw_okq (⟨"DisturbedCells", "runWithout", "(I)I"⟩, 4) := ⟨⟨by decide +kernel, by decide +kernel⟩, List.mem_of_getElem? (i := 9) (by decide +kernel), List.mem_of_getElem? (i := 283) (by decide +kernel), List.mem_of_getElem? (i := 284) (by decide +kernel)⟩
theorem lw_p5 : lw_okq (⟨"DisturbedCells", "lastBits", "()I"⟩, 4) := ⟨⟨by decide +kernel, by decide +kernel⟩, List.mem_of_getElem? (i := 9) (by decide +kernel), List.mem_of_getElem? (i := 287) (by decide +kernel), List.mem_of_getElem? (i := 288) (by decide +kernel)⟩
theorem lw_p6 : lw_okq (⟨"DisturbedCells$Bench", "begin", "(LDisturbedCells$Plane;)V"⟩, 13) := ⟨⟨by decide +kernel, by decide +kernel⟩, List.mem_of_getElem? (i := 115) (by decide +kernel), List.mem_of_getElem? (i := 299) (by decide +kernel), List.mem_of_getElem? (i := 300) (by decide +kernel)⟩
theorem lw_p7 : lw_okq (⟨"DisturbedCells$Bench", "hold", "()V"⟩, 13) := ⟨⟨by decide +kernel, by decide +kernel⟩, List.mem_of_getElem? (i := 115) (by decide +kernel), List.mem_of_getElem? (i := 310) (by decide +kernel), List.mem_of_getElem? (i := 311) (by decide +kernel)⟩
theorem lw_p8 : lw_okq (⟨"DisturbedCells$Bench", "readAll", "(I)V"⟩, 13) := ⟨⟨by decide +kernel, by decide +kernel⟩, List.mem_of_getElem? (i := 115) (by decide +kernel), List.mem_of_getElem? (i := 315) (by decide +kernel), List.mem_of_getElem? (i := 316) (by decide +kernel)⟩
theorem lw_p9 : lw_okq (⟨"DisturbedCells$Bench", "writeAll", "(I)V"⟩, 13) := ⟨⟨by decide +kernel, by decide +kernel⟩, List.mem_of_getElem? (i := 115) (by decide +kernel), List.mem_of_getElem? (i := 319) (by decide +kernel), List.mem_of_getElem? (i := 320) (by decide +kernel)⟩
theorem lw_p10 : lw_okq (⟨"DisturbedCells$Bench", "isWritten", "(II)Z"⟩, 13) := ⟨⟨by decide +kernel, by decide +kernel⟩, List.mem_of_getElem? (i := 115) (by decide +kernel), List.mem_of_getElem? (i := 325) (by decide +kernel), List.mem_of_getElem? (i := 326) (by decide +kernel)⟩
theorem lw_p11 : lw_okq (⟨"DisturbedCells$Bench", "writeItself", "(I)V"⟩, 13) := ⟨⟨by decide +kernel, by decide +kernel⟩, List.mem_of_getElem? (i := 115) (by decide +kernel), List.mem_of_getElem? (i := 330) (by decide +kernel), List.mem_of_getElem? (i := 331) (by decide +kernel)⟩
theorem lw_p12 : lw_okq (⟨"DisturbedCells$Bench", "writeBeside", "(II)V"⟩, 13) := ⟨⟨by decide +kernel, by decide +kernel⟩, List.mem_of_getElem? (i := 115) (by decide +kernel), List.mem_of_getElem? (i := 337) (by decide +kernel), List.mem_of_getElem? (i := 338) (by decide +kernel)⟩
theorem lw_p13 : lw_okq (⟨"DisturbedCells$Bench", "turn", "(I)V"⟩, 13) := ⟨⟨by decide +kernel, by decide +kernel⟩, List.mem_of_getElem? (i := 115) (by decide +kernel), List.mem_of_getElem? (i := 341) (by decide +kernel), List.mem_of_getElem? (i := 342) (by decide +kernel)⟩
theorem lw_p14 : lw_okq (⟨"DisturbedCells", "runWith", "(III)I"⟩, 4) := ⟨⟨by decide +kernel, by decide +kernel⟩, List.mem_of_getElem? (i := 9) (by decide +kernel), List.mem_of_getElem? (i := 345) (by decide +kernel), List.mem_of_getElem? (i := 346) (by decide +kernel)⟩
theorem lw_p15 : lw_okq (⟨"DisturbedCells", "ops", "()I"⟩, 4) := ⟨⟨by decide +kernel, by decide +kernel⟩, List.mem_of_getElem? (i := 9) (by decide +kernel), List.mem_of_getElem? (i := 397) (by decide +kernel), List.mem_of_getElem? (i := 398) (by decide +kernel)⟩
def lw_privs_1 : List (MethodName × Nat) := [(⟨"DisturbedCells$Plane", "layCell", "(II)V"⟩, 13), (⟨"DisturbedCells$Plane", "layBeside", "(IIZI)V"⟩, 13), (⟨"DisturbedCells$Plane", "setAddress", "(II)V"⟩, 13), (⟨"DisturbedCells", "isFault", "(IIII)Z"⟩, 4), (⟨"DisturbedCells", "runWithout", "(I)I"⟩, 4), (⟨"DisturbedCells", "lastBits", "()I"⟩, 4), (⟨"DisturbedCells$Bench", "begin", "(LDisturbedCells$Plane;)V"⟩, 13), (⟨"DisturbedCells$Bench", "hold", "()V"⟩, 13), (⟨"DisturbedCells$Bench", "readAll", "(I)V"⟩, 13), (⟨"DisturbedCells$Bench", "writeAll", "(I)V"⟩, 13), (⟨"DisturbedCells$Bench", "isWritten", "(II)Z"⟩, 13), (⟨"DisturbedCells$Bench", "writeItself", "(I)V"⟩, 13), (⟨"DisturbedCells$Bench", "writeBeside", "(II)V"⟩, 13), (⟨"DisturbedCells$Bench", "turn", "(I)V"⟩, 13), (⟨"DisturbedCells", "runWith", "(III)I"⟩, 4), (⟨"DisturbedCells", "ops", "()I"⟩, 4)]
theorem lw_r1 : ∀ q ∈ lw_privs_1, lw_okq q := List.forall_mem_cons.mpr ⟨lw_p0, List.forall_mem_cons.mpr ⟨lw_p1, List.forall_mem_cons.mpr ⟨lw_p2, List.forall_mem_cons.mpr ⟨lw_p3, List.forall_mem_cons.mpr ⟨lw_p4, List.forall_mem_cons.mpr ⟨lw_p5, List.forall_mem_cons.mpr ⟨lw_p6, List.forall_mem_cons.mpr ⟨lw_p7, List.forall_mem_cons.mpr ⟨lw_p8, List.forall_mem_cons.mpr ⟨lw_p9, List.forall_mem_cons.mpr ⟨lw_p10, List.forall_mem_cons.mpr ⟨lw_p11, List.forall_mem_cons.mpr ⟨lw_p12, List.forall_mem_cons.mpr ⟨lw_p13, List.forall_mem_cons.mpr ⟨lw_p14, List.forall_mem_cons.mpr ⟨lw_p15, fun _ h => absurd h List.not_mem_nil⟩⟩⟩⟩⟩⟩⟩⟩⟩⟩⟩⟩⟩⟩⟩⟩
theorem lw_p16 : lw_okq (⟨"DisturbedCells", "lowered", "(I)I"⟩, 4) := ⟨⟨by decide +kernel, by decide +kernel⟩, List.mem_of_getElem? (i := 9) (by decide +kernel), List.mem_of_getElem? (i := 407) (by decide +kernel), List.mem_of_getElem? (i := 408) (by decide +kernel)⟩
theorem lw_p17 : lw_okq (⟨"DisturbedCells", "bound", "()I"⟩, 4) := ⟨⟨by decide +kernel, by decide +kernel⟩, List.mem_of_getElem? (i := 9) (by decide +kernel), List.mem_of_getElem? (i := 411) (by decide +kernel), List.mem_of_getElem? (i := 412) (by decide +kernel)⟩
theorem lw_p18 : lw_okq (⟨"DisturbedCells", "cellsSeenWhole", "()I"⟩, 4) := ⟨⟨by decide +kernel, by decide +kernel⟩, List.mem_of_getElem? (i := 9) (by decide +kernel), List.mem_of_getElem? (i := 416) (by decide +kernel), List.mem_of_getElem? (i := 417) (by decide +kernel)⟩
theorem lw_p19 : lw_okq (⟨"DisturbedCells", "joinCell", "(JI)J"⟩, 4) := ⟨⟨by decide +kernel, by decide +kernel⟩, List.mem_of_getElem? (i := 9) (by decide +kernel), List.mem_of_getElem? (i := 428) (by decide +kernel), List.mem_of_getElem? (i := 429) (by decide +kernel)⟩
theorem lw_p20 : lw_okq (⟨"DisturbedCells", "joinFound", "(JIII)J"⟩, 4) := ⟨⟨by decide +kernel, by decide +kernel⟩, List.mem_of_getElem? (i := 9) (by decide +kernel), List.mem_of_getElem? (i := 438) (by decide +kernel), List.mem_of_getElem? (i := 439) (by decide +kernel)⟩
theorem lw_p21 : lw_okq (⟨"DisturbedCellsModel", "altered", "()V"⟩, 27) := ⟨⟨by decide +kernel, by decide +kernel⟩, List.mem_of_getElem? (i := 446) (by decide +kernel), List.mem_of_getElem? (i := 558) (by decide +kernel), List.mem_of_getElem? (i := 559) (by decide +kernel)⟩
theorem lw_p22 : lw_okq (⟨"DisturbedCellsModel", "cells", "()I"⟩, 27) := ⟨⟨by decide +kernel, by decide +kernel⟩, List.mem_of_getElem? (i := 446) (by decide +kernel), List.mem_of_getElem? (i := 574) (by decide +kernel), List.mem_of_getElem? (i := 575) (by decide +kernel)⟩
theorem lw_p23 : lw_okq (⟨"DisturbedCellsModel", "cellAt", "(I)I"⟩, 27) := ⟨⟨by decide +kernel, by decide +kernel⟩, List.mem_of_getElem? (i := 446) (by decide +kernel), List.mem_of_getElem? (i := 585) (by decide +kernel), List.mem_of_getElem? (i := 586) (by decide +kernel)⟩
theorem lw_p24 : lw_okq (⟨"DisturbedCellsModel", "isCell", "(I)Z"⟩, 27) := ⟨⟨by decide +kernel, by decide +kernel⟩, List.mem_of_getElem? (i := 446) (by decide +kernel), List.mem_of_getElem? (i := 593) (by decide +kernel), List.mem_of_getElem? (i := 594) (by decide +kernel)⟩
theorem lw_p25 : lw_okq (⟨"DisturbedCellsModel", "cellNow", "(II)I"⟩, 27) := ⟨⟨by decide +kernel, by decide +kernel⟩, List.mem_of_getElem? (i := 446) (by decide +kernel), List.mem_of_getElem? (i := 597) (by decide +kernel), List.mem_of_getElem? (i := 598) (by decide +kernel)⟩
theorem lw_p26 : lw_okq (⟨"DisturbedCellsModel", "typeOf", "(I)I"⟩, 27) := ⟨⟨by decide +kernel, by decide +kernel⟩, List.mem_of_getElem? (i := 446) (by decide +kernel), List.mem_of_getElem? (i := 601) (by decide +kernel), List.mem_of_getElem? (i := 602) (by decide +kernel)⟩
theorem lw_p27 : lw_okq (⟨"DisturbedCellsModel", "addressOf", "(I)I"⟩, 27) := ⟨⟨by decide +kernel, by decide +kernel⟩, List.mem_of_getElem? (i := 446) (by decide +kernel), List.mem_of_getElem? (i := 605) (by decide +kernel), List.mem_of_getElem? (i := 606) (by decide +kernel)⟩
theorem lw_p28 : lw_okq (⟨"DisturbedCellsModel", "isTurned", "(I)I"⟩, 27) := ⟨⟨by decide +kernel, by decide +kernel⟩, List.mem_of_getElem? (i := 446) (by decide +kernel), List.mem_of_getElem? (i := 609) (by decide +kernel), List.mem_of_getElem? (i := 610) (by decide +kernel)⟩
theorem lw_p29 : lw_okq (⟨"DisturbedCellsModel", "beside", "(II)I"⟩, 27) := ⟨⟨by decide +kernel, by decide +kernel⟩, List.mem_of_getElem? (i := 446) (by decide +kernel), List.mem_of_getElem? (i := 613) (by decide +kernel), List.mem_of_getElem? (i := 614) (by decide +kernel)⟩
theorem lw_p30 : lw_okq (⟨"DisturbedCellsModel", "layFault", "(I)Z"⟩, 27) := ⟨⟨by decide +kernel, by decide +kernel⟩, List.mem_of_getElem? (i := 446) (by decide +kernel), List.mem_of_getElem? (i := 625) (by decide +kernel), List.mem_of_getElem? (i := 626) (by decide +kernel)⟩
theorem lw_p31 : lw_okq (⟨"DisturbedCellsModel", "besides", "(I)I"⟩, 27) := ⟨⟨by decide +kernel, by decide +kernel⟩, List.mem_of_getElem? (i := 446) (by decide +kernel), List.mem_of_getElem? (i := 632) (by decide +kernel), List.mem_of_getElem? (i := 633) (by decide +kernel)⟩
def lw_privs_2 : List (MethodName × Nat) := [(⟨"DisturbedCells", "lowered", "(I)I"⟩, 4), (⟨"DisturbedCells", "bound", "()I"⟩, 4), (⟨"DisturbedCells", "cellsSeenWhole", "()I"⟩, 4), (⟨"DisturbedCells", "joinCell", "(JI)J"⟩, 4), (⟨"DisturbedCells", "joinFound", "(JIII)J"⟩, 4), (⟨"DisturbedCellsModel", "altered", "()V"⟩, 27), (⟨"DisturbedCellsModel", "cells", "()I"⟩, 27), (⟨"DisturbedCellsModel", "cellAt", "(I)I"⟩, 27), (⟨"DisturbedCellsModel", "isCell", "(I)Z"⟩, 27), (⟨"DisturbedCellsModel", "cellNow", "(II)I"⟩, 27), (⟨"DisturbedCellsModel", "typeOf", "(I)I"⟩, 27), (⟨"DisturbedCellsModel", "addressOf", "(I)I"⟩, 27), (⟨"DisturbedCellsModel", "isTurned", "(I)I"⟩, 27), (⟨"DisturbedCellsModel", "beside", "(II)I"⟩, 27), (⟨"DisturbedCellsModel", "layFault", "(I)Z"⟩, 27), (⟨"DisturbedCellsModel", "besides", "(I)I"⟩, 27)]
theorem lw_r2 : ∀ q ∈ lw_privs_2, lw_okq q := List.forall_mem_cons.mpr ⟨lw_p16, List.forall_mem_cons.mpr ⟨lw_p17, List.forall_mem_cons.mpr ⟨lw_p18, List.forall_mem_cons.mpr ⟨lw_p19, List.forall_mem_cons.mpr ⟨lw_p20, List.forall_mem_cons.mpr ⟨lw_p21, List.forall_mem_cons.mpr ⟨lw_p22, List.forall_mem_cons.mpr ⟨lw_p23, List.forall_mem_cons.mpr ⟨lw_p24, List.forall_mem_cons.mpr ⟨lw_p25, List.forall_mem_cons.mpr ⟨lw_p26, List.forall_mem_cons.mpr ⟨lw_p27, List.forall_mem_cons.mpr ⟨lw_p28, List.forall_mem_cons.mpr ⟨lw_p29, List.forall_mem_cons.mpr ⟨lw_p30, List.forall_mem_cons.mpr ⟨lw_p31, fun _ h => absurd h List.not_mem_nil⟩⟩⟩⟩⟩⟩⟩⟩⟩⟩⟩⟩⟩⟩⟩⟩
theorem lw_p32 : lw_okq (⟨"DisturbedCellsModel", "runNow", "(I)I"⟩, 27) := ⟨⟨by decide +kernel, by decide +kernel⟩, List.mem_of_getElem? (i := 446) (by decide +kernel), List.mem_of_getElem? (i := 639) (by decide +kernel), List.mem_of_getElem? (i := 640) (by decide +kernel)⟩
theorem lw_p33 : lw_okq (⟨"DisturbedCellsModel", "layRun", "()V"⟩, 27) := ⟨⟨by decide +kernel, by decide +kernel⟩, List.mem_of_getElem? (i := 446) (by decide +kernel), List.mem_of_getElem? (i := 643) (by decide +kernel), List.mem_of_getElem? (i := 644) (by decide +kernel)⟩
theorem lw_p34 : lw_okq (⟨"DisturbedCellsModel", "hold", "()V"⟩, 27) := ⟨⟨by decide +kernel, by decide +kernel⟩, List.mem_of_getElem? (i := 446) (by decide +kernel), List.mem_of_getElem? (i := 647) (by decide +kernel), List.mem_of_getElem? (i := 648) (by decide +kernel)⟩
theorem lw_p35 : lw_okq (⟨"DisturbedCellsModel", "patternOf", "(I)I"⟩, 27) := ⟨⟨by decide +kernel, by decide +kernel⟩, List.mem_of_getElem? (i := 446) (by decide +kernel), List.mem_of_getElem? (i := 651) (by decide +kernel), List.mem_of_getElem? (i := 652) (by decide +kernel)⟩
theorem lw_p36 : lw_okq (⟨"DisturbedCellsModel", "put", "(II)V"⟩, 27) := ⟨⟨by decide +kernel, by decide +kernel⟩, List.mem_of_getElem? (i := 446) (by decide +kernel), List.mem_of_getElem? (i := 655) (by decide +kernel), List.mem_of_getElem? (i := 656) (by decide +kernel)⟩
theorem lw_p37 : lw_okq (⟨"DisturbedCellsModel", "look", "(I)V"⟩, 27) := ⟨⟨by decide +kernel, by decide +kernel⟩, List.mem_of_getElem? (i := 446) (by decide +kernel), List.mem_of_getElem? (i := 659) (by decide +kernel), List.mem_of_getElem? (i := 660) (by decide +kernel)⟩
theorem lw_p38 : lw_okq (⟨"DisturbedCellsModel", "laySeen", "()V"⟩, 27) := ⟨⟨by decide +kernel, by decide +kernel⟩, List.mem_of_getElem? (i := 446) (by decide +kernel), List.mem_of_getElem? (i := 663) (by decide +kernel), List.mem_of_getElem? (i := 664) (by decide +kernel)⟩
theorem lw_p39 : lw_okq (⟨"DisturbedCellsModel", "ofType", "(I)I"⟩, 27) := ⟨⟨by decide +kernel, by decide +kernel⟩, List.mem_of_getElem? (i := 446) (by decide +kernel), List.mem_of_getElem? (i := 667) (by decide +kernel), List.mem_of_getElem? (i := 668) (by decide +kernel)⟩
theorem lw_p40 : lw_okq (⟨"DisturbedCellsModel", "writeAll", "(II)V"⟩, 27) := ⟨⟨by decide +kernel, by decide +kernel⟩, List.mem_of_getElem? (i := 446) (by decide +kernel), List.mem_of_getElem? (i := 671) (by decide +kernel), List.mem_of_getElem? (i := 672) (by decide +kernel)⟩
theorem lw_p41 : lw_okq (⟨"DisturbedCellsModel", "write", "(II)V"⟩, 27) := ⟨⟨by decide +kernel, by decide +kernel⟩, List.mem_of_getElem? (i := 446) (by decide +kernel), List.mem_of_getElem? (i := 675) (by decide +kernel), List.mem_of_getElem? (i := 676) (by decide +kernel)⟩
theorem lw_p42 : lw_okq (⟨"DisturbedCellsModel", "foundNow", "(III)I"⟩, 27) := ⟨⟨by decide +kernel, by decide +kernel⟩, List.mem_of_getElem? (i := 446) (by decide +kernel), List.mem_of_getElem? (i := 686) (by decide +kernel), List.mem_of_getElem? (i := 687) (by decide +kernel)⟩
theorem lw_p43 : lw_okq (⟨"DisturbedCellsModel", "layFound", "(II)V"⟩, 27) := ⟨⟨by decide +kernel, by decide +kernel⟩, List.mem_of_getElem? (i := 446) (by decide +kernel), List.mem_of_getElem? (i := 690) (by decide +kernel), List.mem_of_getElem? (i := 691) (by decide +kernel)⟩
theorem lw_p44 : lw_okq (⟨"DisturbedCellsModel", "layAllSeen", "()V"⟩, 27) := ⟨⟨by decide +kernel, by decide +kernel⟩, List.mem_of_getElem? (i := 446) (by decide +kernel), List.mem_of_getElem? (i := 698) (by decide +kernel), List.mem_of_getElem? (i := 699) (by decide +kernel)⟩
theorem lw_p45 : lw_okq (⟨"DisturbedCellsModel", "howMany", "(I)I"⟩, 27) := ⟨⟨by decide +kernel, by decide +kernel⟩, List.mem_of_getElem? (i := 446) (by decide +kernel), List.mem_of_getElem? (i := 706) (by decide +kernel), List.mem_of_getElem? (i := 707) (by decide +kernel)⟩
theorem lw_p46 : lw_okq (⟨"DisturbedCellsModel", "ops", "()I"⟩, 27) := ⟨⟨by decide +kernel, by decide +kernel⟩, List.mem_of_getElem? (i := 446) (by decide +kernel), List.mem_of_getElem? (i := 710) (by decide +kernel), List.mem_of_getElem? (i := 711) (by decide +kernel)⟩
theorem lw_p47 : lw_okq (⟨"DisturbedCellsModel", "byBound", "(I)I"⟩, 27) := ⟨⟨by decide +kernel, by decide +kernel⟩, List.mem_of_getElem? (i := 446) (by decide +kernel), List.mem_of_getElem? (i := 714) (by decide +kernel), List.mem_of_getElem? (i := 715) (by decide +kernel)⟩
def lw_privs_3 : List (MethodName × Nat) := [(⟨"DisturbedCellsModel", "runNow", "(I)I"⟩, 27), (⟨"DisturbedCellsModel", "layRun", "()V"⟩, 27), (⟨"DisturbedCellsModel", "hold", "()V"⟩, 27), (⟨"DisturbedCellsModel", "patternOf", "(I)I"⟩, 27), (⟨"DisturbedCellsModel", "put", "(II)V"⟩, 27), (⟨"DisturbedCellsModel", "look", "(I)V"⟩, 27), (⟨"DisturbedCellsModel", "laySeen", "()V"⟩, 27), (⟨"DisturbedCellsModel", "ofType", "(I)I"⟩, 27), (⟨"DisturbedCellsModel", "writeAll", "(II)V"⟩, 27), (⟨"DisturbedCellsModel", "write", "(II)V"⟩, 27), (⟨"DisturbedCellsModel", "foundNow", "(III)I"⟩, 27), (⟨"DisturbedCellsModel", "layFound", "(II)V"⟩, 27), (⟨"DisturbedCellsModel", "layAllSeen", "()V"⟩, 27), (⟨"DisturbedCellsModel", "howMany", "(I)I"⟩, 27), (⟨"DisturbedCellsModel", "ops", "()I"⟩, 27), (⟨"DisturbedCellsModel", "byBound", "(I)I"⟩, 27)]
theorem lw_r3 : ∀ q ∈ lw_privs_3, lw_okq q := List.forall_mem_cons.mpr ⟨lw_p32, List.forall_mem_cons.mpr ⟨lw_p33, List.forall_mem_cons.mpr ⟨lw_p34, List.forall_mem_cons.mpr ⟨lw_p35, List.forall_mem_cons.mpr ⟨lw_p36, List.forall_mem_cons.mpr ⟨lw_p37, List.forall_mem_cons.mpr ⟨lw_p38, List.forall_mem_cons.mpr ⟨lw_p39, List.forall_mem_cons.mpr ⟨lw_p40, List.forall_mem_cons.mpr ⟨lw_p41, List.forall_mem_cons.mpr ⟨lw_p42, List.forall_mem_cons.mpr ⟨lw_p43, List.forall_mem_cons.mpr ⟨lw_p44, List.forall_mem_cons.mpr ⟨lw_p45, List.forall_mem_cons.mpr ⟨lw_p46, List.forall_mem_cons.mpr ⟨lw_p47, fun _ h => absurd h List.not_mem_nil⟩⟩⟩⟩⟩⟩⟩⟩⟩⟩⟩⟩⟩⟩⟩⟩
theorem lw_p48 : lw_okq (⟨"DisturbedCellsModel", "wholes", "()I"⟩, 27) := ⟨⟨by decide +kernel, by decide +kernel⟩, List.mem_of_getElem? (i := 446) (by decide +kernel), List.mem_of_getElem? (i := 718) (by decide +kernel), List.mem_of_getElem? (i := 719) (by decide +kernel)⟩
theorem lw_p49 : lw_okq (⟨"DisturbedCellsModel", "isWhole", "(I)Z"⟩, 27) := ⟨⟨by decide +kernel, by decide +kernel⟩, List.mem_of_getElem? (i := 446) (by decide +kernel), List.mem_of_getElem? (i := 722) (by decide +kernel), List.mem_of_getElem? (i := 723) (by decide +kernel)⟩
theorem lw_p50 : lw_okq (⟨"DisturbedCellsModel", "mixCells", "()V"⟩, 27) := ⟨⟨by decide +kernel, by decide +kernel⟩, List.mem_of_getElem? (i := 446) (by decide +kernel), List.mem_of_getElem? (i := 731) (by decide +kernel), List.mem_of_getElem? (i := 732) (by decide +kernel)⟩
theorem lw_p51 : lw_okq (⟨"DisturbedCellsModel", "mix", "(J)V"⟩, 27) := ⟨⟨by decide +kernel, by decide +kernel⟩, List.mem_of_getElem? (i := 446) (by decide +kernel), List.mem_of_getElem? (i := 735) (by decide +kernel), List.mem_of_getElem? (i := 736) (by decide +kernel)⟩
theorem lw_p52 : lw_okq (⟨"DisturbedCellsModel", "mixFound", "(II)V"⟩, 27) := ⟨⟨by decide +kernel, by decide +kernel⟩, List.mem_of_getElem? (i := 446) (by decide +kernel), List.mem_of_getElem? (i := 740) (by decide +kernel), List.mem_of_getElem? (i := 741) (by decide +kernel)⟩
def lw_privs_4 : List (MethodName × Nat) := [(⟨"DisturbedCellsModel", "wholes", "()I"⟩, 27), (⟨"DisturbedCellsModel", "isWhole", "(I)Z"⟩, 27), (⟨"DisturbedCellsModel", "mixCells", "()V"⟩, 27), (⟨"DisturbedCellsModel", "mix", "(J)V"⟩, 27), (⟨"DisturbedCellsModel", "mixFound", "(II)V"⟩, 27)]
theorem lw_r4 : ∀ q ∈ lw_privs_4, lw_okq q := List.forall_mem_cons.mpr ⟨lw_p48, List.forall_mem_cons.mpr ⟨lw_p49, List.forall_mem_cons.mpr ⟨lw_p50, List.forall_mem_cons.mpr ⟨lw_p51, List.forall_mem_cons.mpr ⟨lw_p52, fun _ h => absurd h List.not_mem_nil⟩⟩⟩⟩⟩
def lw_privs : List (MethodName × Nat) := lw_privs_1 ++ (lw_privs_2 ++ (lw_privs_3 ++ (lw_privs_4)))
def lw_tbl : List Cond := k2_sels lw_privs ++ tables_1
theorem lw_privs_ok : ∀ q ∈ lw_privs, lw_okq q := by
  show ∀ q ∈ lw_privs_1 ++ (lw_privs_2 ++ (lw_privs_3 ++ (lw_privs_4))), lw_okq q
  exact List.forall_mem_append.mpr ⟨lw_r1, List.forall_mem_append.mpr ⟨lw_r2, List.forall_mem_append.mpr ⟨lw_r3, lw_r4⟩⟩⟩
end
section
def RX0 : String := "DisturbedCells$Bench"
def TX0 : u_T := fun k => match k with
  | 0 => ("DisturbedCells$Bench", "bits", "[I", true)
  | 1 => ("DisturbedCells$Bench", "misses", "[I", true)
  | 2 => ("DisturbedCells$Bench", "firstSteps", "[I", true)
  | 3 => ("DisturbedCells$Bench", "firstReads", "[I", true)
  | 4 => ("DisturbedCells$Bench", "types", "[I", true)
  | 5 => ("DisturbedCells$Bench", "worked", "Z", false)
  | 6 => ("DisturbedCells$Bench", "cell", "I", false)
  | 7 => ("DisturbedCells$Bench", "kind", "I", false)
  | 8 => ("DisturbedCells$Bench", "parts", "I", false)
  | 9 => ("DisturbedCells$Bench", "there", "I", false)
  | 10 => ("DisturbedCells$Bench", "pattern", "I", false)
  | 11 => ("DisturbedCells$Bench", "should", "I", false)
  | _ => ("DisturbedCells$Bench", "sights", "I", false)
def tyX0 : Nat → FieldType := fun k => match k with
  | 0 => .array .int
  | 1 => .array .int
  | 2 => .array .int
  | 3 => .array .int
  | 4 => .array .int
  | 5 => .boolean
  | 6 => .int
  | 7 => .int
  | 8 => .int
  | 9 => .int
  | 10 => .int
  | 11 => .int
  | _ => .int
abbrev wsX00 : List Cond := u_ws RX0 TX0 13
theorem nmX0 : ∀ a, a < 13 → ∀ b, b < 13 → a ≠ b → (TX0 a).2.1 ≠ (TX0 b).2.1 := by decide +kernel
theorem tyX0_ok : ∀ k, k < 13 → parseFieldDescriptor (TX0 k).2.2.1 = some (tyX0 k) := by decide +kernel
abbrev cX0_init : ByteArray := prog_2_method_1_code
def yX0_init : MethodName := ⟨RX0, "<init>", "()V"⟩
abbrev cX0_forget : ByteArray := prog_2_method_2_code
def yX0_forget : MethodName := ⟨RX0, "forget", "()V"⟩
abbrev cX0_work : ByteArray := prog_2_method_3_code
def yX0_work : MethodName := ⟨RX0, "work", "(LDisturbedCells$Plane;LDisturbedCells$Signs;II)V"⟩
abbrev cX0_begin : ByteArray := prog_2_method_4_code
def yX0_begin : MethodName := ⟨RX0, "begin", "(LDisturbedCells$Plane;)V"⟩
abbrev cX0_writeAll : ByteArray := prog_2_method_5_code
def yX0_writeAll : MethodName := ⟨RX0, "writeAll", "(I)V"⟩
abbrev cX0_isWritten : ByteArray := prog_2_method_6_code
def yX0_isWritten : MethodName := ⟨RX0, "isWritten", "(II)Z"⟩
abbrev cX0_written : ByteArray := prog_2_method_7_code
def yX0_written : MethodName := ⟨RX0, "written", "(II)I"⟩
abbrev cX0_writeItself : ByteArray := prog_2_method_8_code
def yX0_writeItself : MethodName := ⟨RX0, "writeItself", "(I)V"⟩
abbrev cX0_writeBeside : ByteArray := prog_2_method_9_code
def yX0_writeBeside : MethodName := ⟨RX0, "writeBeside", "(II)V"⟩
abbrev cX0_turn : ByteArray := prog_2_method_10_code
def yX0_turn : MethodName := ⟨RX0, "turn", "(I)V"⟩
abbrev cX0_hold : ByteArray := prog_2_method_11_code
def yX0_hold : MethodName := ⟨RX0, "hold", "()V"⟩
abbrev cX0_readAll : ByteArray := prog_2_method_12_code
def yX0_readAll : MethodName := ⟨RX0, "readAll", "(I)V"⟩
abbrev cX0_missesOf : ByteArray := prog_2_method_13_code
def yX0_missesOf : MethodName := ⟨RX0, "missesOf", "(I)I"⟩
abbrev cX0_firstStepOf : ByteArray := prog_2_method_14_code
def yX0_firstStepOf : MethodName := ⟨RX0, "firstStepOf", "(I)I"⟩
abbrev cX0_firstReadOf : ByteArray := prog_2_method_15_code
def yX0_firstReadOf : MethodName := ⟨RX0, "firstReadOf", "(I)I"⟩
abbrev cX0_lastBitOf : ByteArray := prog_2_method_16_code
def yX0_lastBitOf : MethodName := ⟨RX0, "lastBitOf", "(I)I"⟩
abbrev cX0_howMany : ByteArray := prog_2_method_17_code
def yX0_howMany : MethodName := ⟨RX0, "howMany", "()I"⟩
abbrev cX0_howManyMissed : ByteArray := prog_2_method_18_code
def yX0_howManyMissed : MethodName := ⟨RX0, "howManyMissed", "()I"⟩
abbrev cX0_leastHidden : ByteArray := prog_2_method_19_code
def yX0_leastHidden : MethodName := ⟨RX0, "leastHidden", "()I"⟩
abbrev cX0_latestFirst : ByteArray := prog_2_method_20_code
def yX0_latestFirst : MethodName := ⟨RX0, "latestFirst", "()I"⟩
def RX1 : String := "DisturbedCells$Plane"
def TX1 : u_T := fun k => match k with
  | 0 => ("DisturbedCells$Plane", "types", "[I", true)
  | 1 => ("DisturbedCells$Plane", "ofTypes", "[I", true)
  | 2 => ("DisturbedCells$Plane", "rowsOf", "[I", true)
  | 3 => ("DisturbedCells$Plane", "besides", "[I", true)
  | 4 => ("DisturbedCells$Plane", "theres", "[I", true)
  | 5 => ("DisturbedCells$Plane", "cellsOf", "[I", true)
  | 6 => ("DisturbedCells$Plane", "addresses", "[I", true)
  | 7 => ("DisturbedCells$Plane", "rows", "I", false)
  | 8 => ("DisturbedCells$Plane", "columns", "I", false)
  | 9 => ("DisturbedCells$Plane", "cells", "I", false)
  | 10 => ("DisturbedCells$Plane", "factor", "I", false)
  | 11 => ("DisturbedCells$Plane", "shift", "I", false)
  | _ => ("DisturbedCells$Plane", "turned", "I", false)
def tyX1 : Nat → FieldType := fun k => match k with
  | 0 => .array .int
  | 1 => .array .int
  | 2 => .array .int
  | 3 => .array .int
  | 4 => .array .int
  | 5 => .array .int
  | 6 => .array .int
  | 7 => .int
  | 8 => .int
  | 9 => .int
  | 10 => .int
  | 11 => .int
  | _ => .int
abbrev wsX10 : List Cond := u_ws RX1 TX1 13
theorem nmX1 : ∀ a, a < 13 → ∀ b, b < 13 → a ≠ b → (TX1 a).2.1 ≠ (TX1 b).2.1 := by decide +kernel
theorem tyX1_ok : ∀ k, k < 13 → parseFieldDescriptor (TX1 k).2.2.1 = some (tyX1 k) := by decide +kernel
abbrev cX1_init : ByteArray := prog_3_method_1_code
def yX1_init : MethodName := ⟨RX1, "<init>", "()V"⟩
abbrev cX1_lay : ByteArray := prog_3_method_2_code
def yX1_lay : MethodName := ⟨RX1, "lay", "(II)Z"⟩
abbrev cX1_isSide : ByteArray := prog_3_method_3_code
def yX1_isSide : MethodName := ⟨RX1, "isSide", "(I)Z"⟩
abbrev cX1_layCell : ByteArray := prog_3_method_4_code
def yX1_layCell : MethodName := ⟨RX1, "layCell", "(II)V"⟩
abbrev cX1_layBeside : ByteArray := prog_3_method_5_code
def yX1_layBeside : MethodName := ⟨RX1, "layBeside", "(IIZI)V"⟩
abbrev cX1_mix : ByteArray := prog_3_method_6_code
def yX1_mix : MethodName := ⟨RX1, "mix", "(III)Z"⟩
abbrev cX1_setAddress : ByteArray := prog_3_method_7_code
def yX1_setAddress : MethodName := ⟨RX1, "setAddress", "(II)V"⟩
abbrev cX1_has : ByteArray := prog_3_method_8_code
def yX1_has : MethodName := ⟨RX1, "has", "(I)Z"⟩
abbrev cX1_typeOf : ByteArray := prog_3_method_9_code
def yX1_typeOf : MethodName := ⟨RX1, "typeOf", "(I)I"⟩
abbrev cX1_addressOf : ByteArray := prog_3_method_10_code
def yX1_addressOf : MethodName := ⟨RX1, "addressOf", "(I)I"⟩
abbrev cX1_cellOf : ByteArray := prog_3_method_11_code
def yX1_cellOf : MethodName := ⟨RX1, "cellOf", "(I)I"⟩
abbrev cX1_turnedAt : ByteArray := prog_3_method_12_code
def yX1_turnedAt : MethodName := ⟨RX1, "turnedAt", "(I)I"⟩
abbrev cX1_beside : ByteArray := prog_3_method_13_code
def yX1_beside : MethodName := ⟨RX1, "beside", "(II)I"⟩
abbrev cX1_there : ByteArray := prog_3_method_14_code
def yX1_there : MethodName := ⟨RX1, "there", "(I)I"⟩
abbrev cX1_cellsOfType : ByteArray := prog_3_method_15_code
def yX1_cellsOfType : MethodName := ⟨RX1, "cellsOfType", "(I)I"⟩
def RX2 : String := "DisturbedCells$Signs"
def TX2 : u_T := fun k => match k with
  | 0 => ("DisturbedCells$Signs", "codes", "[I", true)
  | _ => ("DisturbedCells$Signs", "length", "I", false)
def tyX2 : Nat → FieldType := fun k => match k with
  | 0 => .array .int
  | _ => .int
abbrev wsX20 : List Cond := u_ws RX2 TX2 2
theorem nmX2 : ∀ a, a < 2 → ∀ b, b < 2 → a ≠ b → (TX2 a).2.1 ≠ (TX2 b).2.1 := by decide +kernel
theorem tyX2_ok : ∀ k, k < 2 → parseFieldDescriptor (TX2 k).2.2.1 = some (tyX2 k) := by decide +kernel
abbrev cX2_init : ByteArray := prog_4_method_1_code
def yX2_init : MethodName := ⟨RX2, "<init>", "()V"⟩
abbrev cX2_clear : ByteArray := prog_4_method_2_code
def yX2_clear : MethodName := ⟨RX2, "clear", "()V"⟩
abbrev cX2_add : ByteArray := prog_4_method_3_code
def yX2_add : MethodName := ⟨RX2, "add", "(I)V"⟩
abbrev cX2_get : ByteArray := prog_4_method_4_code
def yX2_get : MethodName := ⟨RX2, "get", "(I)I"⟩
def RX3 : String := "DisturbedCells"
def TX3 : u_T := fun k => match k with
  | 0 => ("DisturbedCells", "page", "LDisturbedCells$Signs;", true)
  | 1 => ("DisturbedCells", "steps", "LDisturbedCells$Signs;", true)
  | 2 => ("DisturbedCells", "plane", "LDisturbedCells$Plane;", true)
  | _ => ("DisturbedCells", "bench", "LDisturbedCells$Bench;", true)
def tyX3 : Nat → FieldType := fun k => match k with
  | 0 => .object "DisturbedCells$Signs"
  | 1 => .object "DisturbedCells$Signs"
  | 2 => .object "DisturbedCells$Plane"
  | _ => .object "DisturbedCells$Bench"
abbrev wsX30 : List Cond := u_ws RX3 TX3 4
theorem nmX3 : ∀ a, a < 4 → ∀ b, b < 4 → a ≠ b → (TX3 a).2.1 ≠ (TX3 b).2.1 := by decide +kernel
theorem tyX3_ok : ∀ k, k < 4 → parseFieldDescriptor (TX3 k).2.2.1 = some (tyX3 k) := by decide +kernel
abbrev cX3_init : ByteArray := prog_1_method_1_code
def yX3_init : MethodName := ⟨RX3, "<init>", "()V"⟩
abbrev cX3_letter : ByteArray := prog_1_method_2_code
def yX3_letter : MethodName := ⟨RX3, "letter", "(I)I"⟩
abbrev cX3_blank : ByteArray := prog_1_method_3_code
def yX3_blank : MethodName := ⟨RX3, "blank", "()I"⟩
abbrev cX3_fault : ByteArray := prog_1_method_4_code
def yX3_fault : MethodName := ⟨RX3, "fault", "()I"⟩
abbrev cX3_test : ByteArray := prog_1_method_5_code
def yX3_test : MethodName := ⟨RX3, "test", "()I"⟩
abbrev cX3_gray : ByteArray := prog_1_method_6_code
def yX3_gray : MethodName := ⟨RX3, "gray", "()I"⟩
abbrev cX3_step : ByteArray := prog_1_method_7_code
def yX3_step : MethodName := ⟨RX3, "step", "(I)I"⟩
abbrev cX3_sheet : ByteArray := prog_1_method_8_code
def yX3_sheet : MethodName := ⟨RX3, "sheet", "(II)I"⟩
abbrev cX3_scramble : ByteArray := prog_1_method_9_code
def yX3_scramble : MethodName := ⟨RX3, "scramble", "(III)I"⟩
abbrev cX3_cell : ByteArray := prog_1_method_10_code
def yX3_cell : MethodName := ⟨RX3, "cell", "(II)I"⟩
abbrev cX3_at : ByteArray := prog_1_method_11_code
def yX3_at : MethodName := ⟨RX3, "at", "(I)I"⟩
abbrev cX3_run : ByteArray := prog_1_method_12_code
def yX3_run : MethodName := ⟨RX3, "run", "(II)I"⟩
abbrev cX3_found : ByteArray := prog_1_method_13_code
def yX3_found : MethodName := ⟨RX3, "found", "(III)I"⟩
abbrev cX3_seen : ByteArray := prog_1_method_14_code
def yX3_seen : MethodName := ⟨RX3, "seen", "(I)I"⟩
abbrev cX3_count : ByteArray := prog_1_method_15_code
def yX3_count : MethodName := ⟨RX3, "count", "(I)I"⟩
abbrev cX3_digest : ByteArray := prog_1_method_16_code
def yX3_digest : MethodName := ⟨RX3, "digest", "()J"⟩
abbrev cX3_joinCell : ByteArray := prog_1_method_17_code
def yX3_joinCell : MethodName := ⟨RX3, "joinCell", "(JI)J"⟩
abbrev cX3_joinFound : ByteArray := prog_1_method_18_code
def yX3_joinFound : MethodName := ⟨RX3, "joinFound", "(JIII)J"⟩
abbrev cX3_join : ByteArray := prog_1_method_19_code
def yX3_join : MethodName := ⟨RX3, "join", "(JJ)J"⟩
abbrev cX3_isSign : ByteArray := prog_1_method_20_code
def yX3_isSign : MethodName := ⟨RX3, "isSign", "(I)Z"⟩
abbrev cX3_isFigure : ByteArray := prog_1_method_21_code
def yX3_isFigure : MethodName := ⟨RX3, "isFigure", "(I)Z"⟩
abbrev cX3_isFault : ByteArray := prog_1_method_22_code
def yX3_isFault : MethodName := ⟨RX3, "isFault", "(IIII)Z"⟩
abbrev cX3_isPart : ByteArray := prog_1_method_23_code
def yX3_isPart : MethodName := ⟨RX3, "isPart", "(III)Z"⟩
abbrev cX3_partsOf : ByteArray := prog_1_method_24_code
def yX3_partsOf : MethodName := ⟨RX3, "partsOf", "(I)I"⟩
abbrev cX3_runWithout : ByteArray := prog_1_method_25_code
def yX3_runWithout : MethodName := ⟨RX3, "runWithout", "(I)I"⟩
abbrev cX3_runWith : ByteArray := prog_1_method_26_code
def yX3_runWith : MethodName := ⟨RX3, "runWith", "(III)I"⟩
abbrev cX3_lastBits : ByteArray := prog_1_method_27_code
def yX3_lastBits : MethodName := ⟨RX3, "lastBits", "()I"⟩
abbrev cX3_ops : ByteArray := prog_1_method_28_code
def yX3_ops : MethodName := ⟨RX3, "ops", "()I"⟩
abbrev cX3_bound : ByteArray := prog_1_method_29_code
def yX3_bound : MethodName := ⟨RX3, "bound", "()I"⟩
abbrev cX3_lowered : ByteArray := prog_1_method_30_code
def yX3_lowered : MethodName := ⟨RX3, "lowered", "(I)I"⟩
abbrev cX3_commonDivisor : ByteArray := prog_1_method_31_code
def yX3_commonDivisor : MethodName := ⟨RX3, "commonDivisor", "(II)I"⟩
abbrev cX3_cellsSeenWhole : ByteArray := prog_1_method_32_code
def yX3_cellsSeenWhole : MethodName := ⟨RX3, "cellsSeenWhole", "()I"⟩
abbrev cX3_sightsDue : ByteArray := prog_1_method_33_code
def yX3_sightsDue : MethodName := ⟨RX3, "sightsDue", "(I)I"⟩
def RX4 : String := "DisturbedCellsModel"
def TX4 : u_T := fun k => match k with
  | 0 => ("DisturbedCellsModel", "pageLength", "I", false)
  | 1 => ("DisturbedCellsModel", "page", "[I", true)
  | 2 => ("DisturbedCellsModel", "steps", "I", false)
  | 3 => ("DisturbedCellsModel", "stepAt", "[I", true)
  | 4 => ("DisturbedCellsModel", "rows", "I", false)
  | 5 => ("DisturbedCellsModel", "columns", "I", false)
  | 6 => ("DisturbedCellsModel", "factor", "I", false)
  | 7 => ("DisturbedCellsModel", "shift", "I", false)
  | 8 => ("DisturbedCellsModel", "turned", "I", false)
  | 9 => ("DisturbedCellsModel", "bits", "I", false)
  | 10 => ("DisturbedCellsModel", "should", "I", false)
  | 11 => ("DisturbedCellsModel", "hurt", "I", false)
  | 12 => ("DisturbedCellsModel", "kind", "I", false)
  | 13 => ("DisturbedCellsModel", "by", "I", false)
  | 14 => ("DisturbedCellsModel", "becomes", "I", false)
  | 15 => ("DisturbedCellsModel", "pattern", "I", false)
  | 16 => ("DisturbedCellsModel", "value", "I", false)
  | 17 => ("DisturbedCellsModel", "firstStep", "I", false)
  | 18 => ("DisturbedCellsModel", "firstCell", "I", false)
  | 19 => ("DisturbedCellsModel", "firstBit", "I", false)
  | 20 => ("DisturbedCellsModel", "misses", "I", false)
  | 21 => ("DisturbedCellsModel", "missed", "I", false)
  | 22 => ("DisturbedCellsModel", "isSeen", "Z", false)
  | 23 => ("DisturbedCellsModel", "seenAt", "[I", true)
  | 24 => ("DisturbedCellsModel", "isLaid", "[Z", true)
  | 25 => ("DisturbedCellsModel", "foundAt", "[I", true)
  | _ => ("DisturbedCellsModel", "h", "J", false)
def tyX4 : Nat → FieldType := fun k => match k with
  | 0 => .int
  | 1 => .array .int
  | 2 => .int
  | 3 => .array .int
  | 4 => .int
  | 5 => .int
  | 6 => .int
  | 7 => .int
  | 8 => .int
  | 9 => .int
  | 10 => .int
  | 11 => .int
  | 12 => .int
  | 13 => .int
  | 14 => .int
  | 15 => .int
  | 16 => .int
  | 17 => .int
  | 18 => .int
  | 19 => .int
  | 20 => .int
  | 21 => .int
  | 22 => .boolean
  | 23 => .array .int
  | 24 => .array .boolean
  | 25 => .array .int
  | _ => .long
abbrev wsX40 : List Cond := u_ws RX4 TX4 27
theorem nmX4 : ∀ a, a < 27 → ∀ b, b < 27 → a ≠ b → (TX4 a).2.1 ≠ (TX4 b).2.1 := by decide +kernel
theorem tyX4_ok : ∀ k, k < 27 → parseFieldDescriptor (TX4 k).2.2.1 = some (tyX4 k) := by decide +kernel
abbrev cX4_init : ByteArray := prog_6_method_1_code
def yX4_init : MethodName := ⟨RX4, "<init>", "()V"⟩
abbrev cX4_within : ByteArray := prog_6_method_3_code
def yX4_within : MethodName := ⟨RX4, "within", "(III)Z"⟩
abbrev cX4_has : ByteArray := prog_6_method_4_code
def yX4_has : MethodName := ⟨RX4, "has", "(II)Z"⟩
abbrev cX4_ones : ByteArray := prog_6_method_5_code
def yX4_ones : MethodName := ⟨RX4, "ones", "(I)I"⟩
abbrev cX4_letter : ByteArray := prog_6_method_6_code
def yX4_letter : MethodName := ⟨RX4, "letter", "(I)I"⟩
abbrev cX4_blank : ByteArray := prog_6_method_7_code
def yX4_blank : MethodName := ⟨RX4, "blank", "()I"⟩
abbrev cX4_isSign : ByteArray := prog_6_method_8_code
def yX4_isSign : MethodName := ⟨RX4, "isSign", "(I)Z"⟩
abbrev cX4_fault : ByteArray := prog_6_method_9_code
def yX4_fault : MethodName := ⟨RX4, "fault", "()I"⟩
abbrev cX4_test : ByteArray := prog_6_method_10_code
def yX4_test : MethodName := ⟨RX4, "test", "()I"⟩
abbrev cX4_gray : ByteArray := prog_6_method_11_code
def yX4_gray : MethodName := ⟨RX4, "gray", "()I"⟩
abbrev cX4_step : ByteArray := prog_6_method_12_code
def yX4_step : MethodName := ⟨RX4, "step", "(I)I"⟩
abbrev cX4_cells : ByteArray := prog_6_method_13_code
def yX4_cells : MethodName := ⟨RX4, "cells", "()I"⟩
abbrev cX4_isCell : ByteArray := prog_6_method_14_code
def yX4_isCell : MethodName := ⟨RX4, "isCell", "(I)Z"⟩
abbrev cX4_common : ByteArray := prog_6_method_15_code
def yX4_common : MethodName := ⟨RX4, "common", "(II)I"⟩
abbrev cX4_sheet : ByteArray := prog_6_method_16_code
def yX4_sheet : MethodName := ⟨RX4, "sheet", "(II)I"⟩
abbrev cX4_cellAt : ByteArray := prog_6_method_17_code
def yX4_cellAt : MethodName := ⟨RX4, "cellAt", "(I)I"⟩
abbrev cX4_scramble : ByteArray := prog_6_method_18_code
def yX4_scramble : MethodName := ⟨RX4, "scramble", "(III)I"⟩
abbrev cX4_typeOf : ByteArray := prog_6_method_19_code
def yX4_typeOf : MethodName := ⟨RX4, "typeOf", "(I)I"⟩
abbrev cX4_addressOf : ByteArray := prog_6_method_20_code
def yX4_addressOf : MethodName := ⟨RX4, "addressOf", "(I)I"⟩
abbrev cX4_isTurned : ByteArray := prog_6_method_21_code
def yX4_isTurned : MethodName := ⟨RX4, "isTurned", "(I)I"⟩
abbrev cX4_beside : ByteArray := prog_6_method_22_code
def yX4_beside : MethodName := ⟨RX4, "beside", "(II)I"⟩
abbrev cX4_cellNow : ByteArray := prog_6_method_23_code
def yX4_cellNow : MethodName := ⟨RX4, "cellNow", "(II)I"⟩
abbrev cX4_cell : ByteArray := prog_6_method_24_code
def yX4_cell : MethodName := ⟨RX4, "cell", "(II)I"⟩
abbrev cX4_at : ByteArray := prog_6_method_25_code
def yX4_at : MethodName := ⟨RX4, "at", "(I)I"⟩
abbrev cX4_patternOf : ByteArray := prog_6_method_26_code
def yX4_patternOf : MethodName := ⟨RX4, "patternOf", "(I)I"⟩
abbrev cX4_besides : ByteArray := prog_6_method_27_code
def yX4_besides : MethodName := ⟨RX4, "besides", "(I)I"⟩
abbrev cX4_widened : ByteArray := prog_6_method_28_code
def yX4_widened : MethodName := ⟨RX4, "widened", "(II)I"⟩
abbrev cX4_layFault : ByteArray := prog_6_method_29_code
def yX4_layFault : MethodName := ⟨RX4, "layFault", "(I)Z"⟩
abbrev cX4_put : ByteArray := prog_6_method_30_code
def yX4_put : MethodName := ⟨RX4, "put", "(II)V"⟩
abbrev cX4_hold : ByteArray := prog_6_method_31_code
def yX4_hold : MethodName := ⟨RX4, "hold", "()V"⟩
abbrev cX4_write : ByteArray := prog_6_method_32_code
def yX4_write : MethodName := ⟨RX4, "write", "(II)V"⟩
abbrev cX4_writeAll : ByteArray := prog_6_method_33_code
def yX4_writeAll : MethodName := ⟨RX4, "writeAll", "(II)V"⟩
abbrev cX4_ofType : ByteArray := prog_6_method_34_code
def yX4_ofType : MethodName := ⟨RX4, "ofType", "(I)I"⟩
abbrev cX4_look : ByteArray := prog_6_method_35_code
def yX4_look : MethodName := ⟨RX4, "look", "(I)V"⟩
abbrev cX4_layRun : ByteArray := prog_6_method_36_code
def yX4_layRun : MethodName := ⟨RX4, "layRun", "()V"⟩
abbrev cX4_laySeen : ByteArray := prog_6_method_37_code
def yX4_laySeen : MethodName := ⟨RX4, "laySeen", "()V"⟩
abbrev cX4_runNow : ByteArray := prog_6_method_38_code
def yX4_runNow : MethodName := ⟨RX4, "runNow", "(I)I"⟩
abbrev cX4_run : ByteArray := prog_6_method_39_code
def yX4_run : MethodName := ⟨RX4, "run", "(II)I"⟩
abbrev cX4_altered : ByteArray := prog_6_method_40_code
def yX4_altered : MethodName := ⟨RX4, "altered", "()V"⟩
abbrev cX4_layFound : ByteArray := prog_6_method_41_code
def yX4_layFound : MethodName := ⟨RX4, "layFound", "(II)V"⟩
abbrev cX4_foundNow : ByteArray := prog_6_method_42_code
def yX4_foundNow : MethodName := ⟨RX4, "foundNow", "(III)I"⟩
abbrev cX4_found : ByteArray := prog_6_method_43_code
def yX4_found : MethodName := ⟨RX4, "found", "(III)I"⟩
abbrev cX4_layAllSeen : ByteArray := prog_6_method_44_code
def yX4_layAllSeen : MethodName := ⟨RX4, "layAllSeen", "()V"⟩
abbrev cX4_seen : ByteArray := prog_6_method_45_code
def yX4_seen : MethodName := ⟨RX4, "seen", "(I)I"⟩
abbrev cX4_ops : ByteArray := prog_6_method_46_code
def yX4_ops : MethodName := ⟨RX4, "ops", "()I"⟩
abbrev cX4_byBound : ByteArray := prog_6_method_47_code
def yX4_byBound : MethodName := ⟨RX4, "byBound", "(I)I"⟩
abbrev cX4_isWhole : ByteArray := prog_6_method_48_code
def yX4_isWhole : MethodName := ⟨RX4, "isWhole", "(I)Z"⟩
abbrev cX4_wholes : ByteArray := prog_6_method_49_code
def yX4_wholes : MethodName := ⟨RX4, "wholes", "()I"⟩
abbrev cX4_howMany : ByteArray := prog_6_method_50_code
def yX4_howMany : MethodName := ⟨RX4, "howMany", "(I)I"⟩
abbrev cX4_count : ByteArray := prog_6_method_51_code
def yX4_count : MethodName := ⟨RX4, "count", "(I)I"⟩
abbrev cX4_mix : ByteArray := prog_6_method_52_code
def yX4_mix : MethodName := ⟨RX4, "mix", "(J)V"⟩
abbrev cX4_mixFound : ByteArray := prog_6_method_53_code
def yX4_mixFound : MethodName := ⟨RX4, "mixFound", "(II)V"⟩
abbrev cX4_mixCells : ByteArray := prog_6_method_54_code
def yX4_mixCells : MethodName := ⟨RX4, "mixCells", "()V"⟩
abbrev cX4_digest : ByteArray := prog_6_method_55_code
def yX4_digest : MethodName := ⟨RX4, "digest", "()J"⟩
def RJ6 : String := "java/lang/Integer"
def TJ6 : u_T := fun k => match k with
  | _ => ("", "", "", false)
def tyJ6 : Nat → FieldType := fun k => match k with
  | _ => .int
abbrev wsJ60 : List Cond := u_ws RJ6 TJ6 0
theorem nmJ6 : ∀ a, a < 0 → ∀ b, b < 0 → a ≠ b → (TJ6 a).2.1 ≠ (TJ6 b).2.1 := by decide +kernel
theorem tyJ6_ok : ∀ k, k < 0 → parseFieldDescriptor (TJ6 k).2.2.1 = some (tyJ6 k) := by decide +kernel
abbrev cJ6_numberOfTrailingZeros_0f7a4 : ByteArray := prog_7_method_48_code
def yJ6_numberOfTrailingZeros_0f7a4 : MethodName := ⟨RJ6, "numberOfTrailingZeros", "(I)I"⟩
abbrev cJ6_bitCount_0f7a4 : ByteArray := prog_7_method_49_code
def yJ6_bitCount_0f7a4 : MethodName := ⟨RJ6, "bitCount", "(I)I"⟩
def RJ9 : String := "java/lang/Math"
def TJ9 : u_T := fun k => match k with
  | _ => ("", "", "", false)
def tyJ9 : Nat → FieldType := fun k => match k with
  | _ => .int
abbrev wsJ90 : List Cond := u_ws RJ9 TJ9 0
theorem nmJ9 : ∀ a, a < 0 → ∀ b, b < 0 → a ≠ b → (TJ9 a).2.1 ≠ (TJ9 b).2.1 := by decide +kernel
theorem tyJ9_ok : ∀ k, k < 0 → parseFieldDescriptor (TJ9 k).2.2.1 = some (tyJ9 k) := by decide +kernel
abbrev cJ9_max_7cf53 : ByteArray := prog_8_method_65_code
def yJ9_max_7cf53 : MethodName := ⟨RJ9, "max", "(II)I"⟩
abbrev cJ9_min_7cf53 : ByteArray := prog_8_method_69_code
def yJ9_min_7cf53 : MethodName := ⟨RJ9, "min", "(II)I"⟩
def RL : String := "DisturbedCellsLaw"
abbrev cL_law : ByteArray := code
def yL_law : MethodName := ⟨RL, "law", "([I)Z"⟩
abbrev vwCl : List vw_C := [(RX0, TX0, 13), (RX1, TX1, 13), (RX2, TX2, 2), (RX3, TX3, 4), (RX4, TX4, 27)]
abbrev Mt : Type := MethodName × ByteArray × Nat × Option FieldType × Nat
def lw_good : List Cond := lw_tbl.filter goodWord
theorem lw_in {w : Cond} (i : Nat) (h : lw_tbl[i]? = some w) (g : goodWord w = true) : w ∈ lw_good := List.mem_filter.mpr ⟨List.mem_of_getElem? h, g⟩
theorem lw_gw {w : Cond} (h : w ∈ lw_good) : goodWord w = true := (List.mem_filter.mp h).2
def oN (k : Nat) : String := match k with | 0 => RX0 | 1 => RX1 | 2 => RX2 | 3 => RX3 | 4 => RX4 | 5 => RL | 6 => RJ6 | _ => RJ9
def tN (k : Nat) : u_T := match k with | 0 => TX0 | 1 => TX1 | 2 => TX2 | 3 => TX3 | _ => TX4
def nN (k : Nat) : Nat := match k with | 0 => 13 | 1 => 13 | 2 => 2 | 3 => 4 | _ => 27
def yN (k : Nat) : Nat → FieldType := match k with | 0 => tyX0 | 1 => tyX1 | 2 => tyX2 | 3 => tyX3 | _ => tyX4
def lw_nest : List Cond := [(Jvm.Cond.methodLinkNest "DisturbedCells" (9 : Nat) ({ cls := "DisturbedCells$Signs", name := "<init>", desc := "()V" } : Jvm.MethodName) "DisturbedCells"), (Jvm.Cond.fieldLinkNest "DisturbedCells" (33 : Nat) "DisturbedCells$Signs" "length" "I" "DisturbedCells"), (Jvm.Cond.fieldLinkNest "DisturbedCells$Bench" (45 : Nat) "DisturbedCells$Signs" "length" "I" "DisturbedCells"), (Jvm.Cond.methodLinkNest "DisturbedCells$Plane" (66 : Nat) ({ cls := "DisturbedCells", name := "commonDivisor", desc := "(II)I" } : Jvm.MethodName) "DisturbedCells"), (Jvm.Cond.fieldLinkNest "DisturbedCells" (124 : Nat) "DisturbedCells$Plane" "rows" "I" "DisturbedCells"), (Jvm.Cond.fieldLinkNest "DisturbedCells" (127 : Nat) "DisturbedCells$Plane" "columns" "I" "DisturbedCells"), (Jvm.Cond.fieldLinkNest "DisturbedCells" (68 : Nat) "DisturbedCells$Plane" "cells" "I" "DisturbedCells"), (Jvm.Cond.fieldLinkNest "DisturbedCells" (130 : Nat) "DisturbedCells$Plane" "factor" "I" "DisturbedCells"), (Jvm.Cond.fieldLinkNest "DisturbedCells" (133 : Nat) "DisturbedCells$Plane" "shift" "I" "DisturbedCells"), (Jvm.Cond.fieldLinkNest "DisturbedCells" (136 : Nat) "DisturbedCells$Plane" "turned" "I" "DisturbedCells"), (Jvm.Cond.methodLinkNest "DisturbedCells" (28 : Nat) ({ cls := "DisturbedCells$Bench", name := "<init>", desc := "()V" } : Jvm.MethodName) "DisturbedCells"), (Jvm.Cond.fieldLinkNest "DisturbedCells" (121 : Nat) "DisturbedCells$Bench" "sights" "I" "DisturbedCells"), (Jvm.Cond.methodLinkNest "DisturbedCells$Bench" (61 : Nat) ({ cls := "DisturbedCells", name := "partsOf", desc := "(I)I" } : Jvm.MethodName) "DisturbedCells"), (Jvm.Cond.methodLinkNest "DisturbedCells$Bench" (109 : Nat) ({ cls := "DisturbedCells", name := "isFigure", desc := "(I)Z" } : Jvm.MethodName) "DisturbedCells"), (Jvm.Cond.methodLinkNest "DisturbedCells$Bench" (119 : Nat) ({ cls := "DisturbedCells", name := "isPart", desc := "(III)Z" } : Jvm.MethodName) "DisturbedCells")]
theorem lw_nest_in : ∀ w ∈ lw_nest, w ∈ lw_tbl := List.forall_mem_cons.mpr ⟨List.mem_of_getElem? (i := 71) (by decide +kernel), List.forall_mem_cons.mpr ⟨List.mem_of_getElem? (i := 77) (by decide +kernel), List.forall_mem_cons.mpr ⟨List.mem_of_getElem? (i := 78) (by decide +kernel), List.forall_mem_cons.mpr ⟨List.mem_of_getElem? (i := 114) (by decide +kernel), List.forall_mem_cons.mpr ⟨List.mem_of_getElem? (i := 129) (by decide +kernel), List.forall_mem_cons.mpr ⟨List.mem_of_getElem? (i := 131) (by decide +kernel), List.forall_mem_cons.mpr ⟨List.mem_of_getElem? (i := 133) (by decide +kernel), List.forall_mem_cons.mpr ⟨List.mem_of_getElem? (i := 135) (by decide +kernel), List.forall_mem_cons.mpr ⟨List.mem_of_getElem? (i := 137) (by decide +kernel), List.forall_mem_cons.mpr ⟨List.mem_of_getElem? (i := 139) (by decide +kernel), List.forall_mem_cons.mpr ⟨List.mem_of_getElem? (i := 169) (by decide +kernel), List.forall_mem_cons.mpr ⟨List.mem_of_getElem? (i := 186) (by decide +kernel), List.forall_mem_cons.mpr ⟨List.mem_of_getElem? (i := 355) (by decide +kernel), List.forall_mem_cons.mpr ⟨List.mem_of_getElem? (i := 381) (by decide +kernel), List.forall_mem_cons.mpr ⟨List.mem_of_getElem? (i := 425) (by decide +kernel), fun _ h => absurd h List.not_mem_nil⟩⟩⟩⟩⟩⟩⟩⟩⟩⟩⟩⟩⟩⟩⟩
theorem cls_in0 : ∀ w ∈ u_ws RX0 TX0 13, w ∈ lw_good := by
  show ∀ w ∈ [u_lay RX0 TX0 0, u_lay RX0 TX0 1, u_lay RX0 TX0 2, u_lay RX0 TX0 3, u_lay RX0 TX0 4, u_lay RX0 TX0 5, u_lay RX0 TX0 6, u_lay RX0 TX0 7, u_lay RX0 TX0 8, u_lay RX0 TX0 9, u_lay RX0 TX0 10, u_lay RX0 TX0 11, u_lay RX0 TX0 12], w ∈ lw_good
  exact List.forall_mem_cons.mpr ⟨lw_in 187 (by decide +kernel) (by decide +kernel), List.forall_mem_cons.mpr ⟨lw_in 189 (by decide +kernel) (by decide +kernel), List.forall_mem_cons.mpr ⟨lw_in 191 (by decide +kernel) (by decide +kernel), List.forall_mem_cons.mpr ⟨lw_in 193 (by decide +kernel) (by decide +kernel), List.forall_mem_cons.mpr ⟨lw_in 195 (by decide +kernel) (by decide +kernel), List.forall_mem_cons.mpr ⟨lw_in 197 (by decide +kernel) (by decide +kernel), List.forall_mem_cons.mpr ⟨lw_in 199 (by decide +kernel) (by decide +kernel), List.forall_mem_cons.mpr ⟨lw_in 201 (by decide +kernel) (by decide +kernel), List.forall_mem_cons.mpr ⟨lw_in 203 (by decide +kernel) (by decide +kernel), List.forall_mem_cons.mpr ⟨lw_in 205 (by decide +kernel) (by decide +kernel), List.forall_mem_cons.mpr ⟨lw_in 207 (by decide +kernel) (by decide +kernel), List.forall_mem_cons.mpr ⟨lw_in 209 (by decide +kernel) (by decide +kernel), List.forall_mem_cons.mpr ⟨lw_in 211 (by decide +kernel) (by decide +kernel), fun _ h => absurd h List.not_mem_nil⟩⟩⟩⟩⟩⟩⟩⟩⟩⟩⟩⟩⟩
theorem cls_in1 : ∀ w ∈ u_ws RX1 TX1 13, w ∈ lw_good := by
  show ∀ w ∈ [u_lay RX1 TX1 0, u_lay RX1 TX1 1, u_lay RX1 TX1 2, u_lay RX1 TX1 3, u_lay RX1 TX1 4, u_lay RX1 TX1 5, u_lay RX1 TX1 6, u_lay RX1 TX1 7, u_lay RX1 TX1 8, u_lay RX1 TX1 9, u_lay RX1 TX1 10, u_lay RX1 TX1 11, u_lay RX1 TX1 12], w ∈ lw_good
  exact List.forall_mem_cons.mpr ⟨lw_in 140 (by decide +kernel) (by decide +kernel), List.forall_mem_cons.mpr ⟨lw_in 142 (by decide +kernel) (by decide +kernel), List.forall_mem_cons.mpr ⟨lw_in 144 (by decide +kernel) (by decide +kernel), List.forall_mem_cons.mpr ⟨lw_in 146 (by decide +kernel) (by decide +kernel), List.forall_mem_cons.mpr ⟨lw_in 148 (by decide +kernel) (by decide +kernel), List.forall_mem_cons.mpr ⟨lw_in 150 (by decide +kernel) (by decide +kernel), List.forall_mem_cons.mpr ⟨lw_in 152 (by decide +kernel) (by decide +kernel), List.forall_mem_cons.mpr ⟨lw_in 154 (by decide +kernel) (by decide +kernel), List.forall_mem_cons.mpr ⟨lw_in 156 (by decide +kernel) (by decide +kernel), List.forall_mem_cons.mpr ⟨lw_in 158 (by decide +kernel) (by decide +kernel), List.forall_mem_cons.mpr ⟨lw_in 160 (by decide +kernel) (by decide +kernel), List.forall_mem_cons.mpr ⟨lw_in 162 (by decide +kernel) (by decide +kernel), List.forall_mem_cons.mpr ⟨lw_in 164 (by decide +kernel) (by decide +kernel), fun _ h => absurd h List.not_mem_nil⟩⟩⟩⟩⟩⟩⟩⟩⟩⟩⟩⟩⟩
theorem cls_in2 : ∀ w ∈ u_ws RX2 TX2 2, w ∈ lw_good := by
  show ∀ w ∈ [u_lay RX2 TX2 0, u_lay RX2 TX2 1], w ∈ lw_good
  exact List.forall_mem_cons.mpr ⟨lw_in 79 (by decide +kernel) (by decide +kernel), List.forall_mem_cons.mpr ⟨lw_in 81 (by decide +kernel) (by decide +kernel), fun _ h => absurd h List.not_mem_nil⟩⟩
theorem cls_in3 : ∀ w ∈ u_ws RX3 TX3 4, w ∈ lw_good := by
  show ∀ w ∈ [u_lay RX3 TX3 0, u_lay RX3 TX3 1, u_lay RX3 TX3 2, u_lay RX3 TX3 3], w ∈ lw_good
  exact List.forall_mem_cons.mpr ⟨lw_in 218 (by decide +kernel) (by decide +kernel), List.forall_mem_cons.mpr ⟨lw_in 220 (by decide +kernel) (by decide +kernel), List.forall_mem_cons.mpr ⟨lw_in 222 (by decide +kernel) (by decide +kernel), List.forall_mem_cons.mpr ⟨lw_in 224 (by decide +kernel) (by decide +kernel), fun _ h => absurd h List.not_mem_nil⟩⟩⟩⟩
theorem cls_in4 : ∀ w ∈ u_ws RX4 TX4 27, w ∈ lw_good := by
  show ∀ w ∈ [u_lay RX4 TX4 0, u_lay RX4 TX4 1, u_lay RX4 TX4 2, u_lay RX4 TX4 3, u_lay RX4 TX4 4, u_lay RX4 TX4 5, u_lay RX4 TX4 6, u_lay RX4 TX4 7, u_lay RX4 TX4 8, u_lay RX4 TX4 9, u_lay RX4 TX4 10, u_lay RX4 TX4 11, u_lay RX4 TX4 12, u_lay RX4 TX4 13, u_lay RX4 TX4 14, u_lay RX4 TX4 15, u_lay RX4 TX4 16, u_lay RX4 TX4 17, u_lay RX4 TX4 18, u_lay RX4 TX4 19, u_lay RX4 TX4 20, u_lay RX4 TX4 21, u_lay RX4 TX4 22, u_lay RX4 TX4 23, u_lay RX4 TX4 24, u_lay RX4 TX4 25, u_lay RX4 TX4 26], w ∈ lw_good
  exact List.forall_mem_cons.mpr ⟨lw_in 531 (by decide +kernel) (by decide +kernel), List.forall_mem_cons.mpr ⟨lw_in 533 (by decide +kernel) (by decide +kernel), List.forall_mem_cons.mpr ⟨lw_in 535 (by decide +kernel) (by decide +kernel), List.forall_mem_cons.mpr ⟨lw_in 537 (by decide +kernel) (by decide +kernel), List.forall_mem_cons.mpr ⟨lw_in 539 (by decide +kernel) (by decide +kernel), List.forall_mem_cons.mpr ⟨lw_in 541 (by decide +kernel) (by decide +kernel), List.forall_mem_cons.mpr ⟨lw_in 543 (by decide +kernel) (by decide +kernel), List.forall_mem_cons.mpr ⟨lw_in 545 (by decide +kernel) (by decide +kernel), List.forall_mem_cons.mpr ⟨lw_in 547 (by decide +kernel) (by decide +kernel), List.forall_mem_cons.mpr ⟨lw_in 549 (by decide +kernel) (by decide +kernel), List.forall_mem_cons.mpr ⟨lw_in 551 (by decide +kernel) (by decide +kernel), List.forall_mem_cons.mpr ⟨lw_in 553 (by decide +kernel) (by decide +kernel), List.forall_mem_cons.mpr ⟨lw_in 555 (by decide +kernel) (by decide +kernel), List.forall_mem_cons.mpr ⟨lw_in 557 (by decide +kernel) (by decide +kernel), List.forall_mem_cons.mpr ⟨lw_in 559 (by decide +kernel) (by decide +kernel), List.forall_mem_cons.mpr ⟨lw_in 561 (by decide +kernel) (by decide +kernel), List.forall_mem_cons.mpr ⟨lw_in 563 (by decide +kernel) (by decide +kernel), List.forall_mem_cons.mpr ⟨lw_in 565 (by decide +kernel) (by decide +kernel), List.forall_mem_cons.mpr ⟨lw_in 567 (by decide +kernel) (by decide +kernel), List.forall_mem_cons.mpr ⟨lw_in 569 (by decide +kernel) (by decide +kernel), List.forall_mem_cons.mpr ⟨lw_in 571 (by decide +kernel) (by decide +kernel), List.forall_mem_cons.mpr ⟨lw_in 573 (by decide +kernel) (by decide +kernel), List.forall_mem_cons.mpr ⟨lw_in 575 (by decide +kernel) (by decide +kernel), List.forall_mem_cons.mpr ⟨lw_in 577 (by decide +kernel) (by decide +kernel), List.forall_mem_cons.mpr ⟨lw_in 579 (by decide +kernel) (by decide +kernel), List.forall_mem_cons.mpr ⟨lw_in 581 (by decide +kernel) (by decide +kernel), List.forall_mem_cons.mpr ⟨lw_in 583 (by decide +kernel) (by decide +kernel), fun _ h => absurd h List.not_mem_nil⟩⟩⟩⟩⟩⟩⟩⟩⟩⟩⟩⟩⟩⟩⟩⟩⟩⟩⟩⟩⟩⟩⟩⟩⟩⟩⟩
theorem cls_ok (ci : Nat) (h : ci < 5) : vwCl[ci]? = some (oN ci, tN ci, nN ci) ∧ (∀ w ∈ u_ws (oN ci) (tN ci) (nN ci), w ∈ lw_good) ∧ (∀ k, k < nN ci → parseFieldDescriptor (tN ci k).2.2.1 = some (yN ci k)) ∧ (∀ a, a < nN ci → ∀ b, b < nN ci → a ≠ b → (tN ci a).2.1 ≠ (tN ci b).2.1) := by
  rcases (show ci = 0 ∨ ci = 1 ∨ ci = 2 ∨ ci = 3 ∨ ci = 4 by omega) with rfl | rfl | rfl | rfl | rfl
  · exact ⟨rfl, cls_in0, tyX0_ok, nmX0⟩
  · exact ⟨rfl, cls_in1, tyX1_ok, nmX1⟩
  · exact ⟨rfl, cls_in2, tyX2_ok, nmX2⟩
  · exact ⟨rfl, cls_in3, tyX3_ok, nmX3⟩
  · exact ⟨rfl, cls_in4, tyX4_ok, nmX4⟩
def FLP (q : Nat × Nat × Nat × Nat) : Prop := q.2.2.1 < 5 ∧ q.2.2.2 < nN q.2.2.1 ∧ (Cond.fieldLink (oN q.1) q.2.1 (tN q.2.2.1 q.2.2.2).1 (tN q.2.2.1 q.2.2.2).2.1 (tN q.2.2.1 q.2.2.2).2.2.1 ∈ lw_good ∨ Cond.fieldLinkNest (oN q.1) q.2.1 (tN q.2.2.1 q.2.2.2).1 (tN q.2.2.1 q.2.2.2).2.1 (tN q.2.2.1 q.2.2.2).2.2.1 "DisturbedCells" ∈ lw_nest)
theorem FL_0 : FLP (2, 9, 2, 0) := ⟨by decide, by decide, Or.inl (lw_in 75 (by decide +kernel) (by decide +kernel))⟩
theorem FL_1 : FLP (2, 15, 2, 1) := ⟨by decide, by decide, Or.inl (lw_in 76 (by decide +kernel) (by decide +kernel))⟩
theorem FL_2 : FLP (3, 33, 2, 1) := ⟨by decide, by decide, Or.inr (List.mem_of_getElem? (i := 1) (by decide +kernel))⟩
theorem FL_3 : FLP (0, 45, 2, 1) := ⟨by decide, by decide, Or.inr (List.mem_of_getElem? (i := 2) (by decide +kernel))⟩
theorem FL_4 : FLP (1, 9, 1, 0) := ⟨by decide, by decide, Or.inl (lw_in 121 (by decide +kernel) (by decide +kernel))⟩
theorem FL_5 : FLP (1, 15, 1, 1) := ⟨by decide, by decide, Or.inl (lw_in 122 (by decide +kernel) (by decide +kernel))⟩
theorem FL_6 : FLP (1, 18, 1, 2) := ⟨by decide, by decide, Or.inl (lw_in 123 (by decide +kernel) (by decide +kernel))⟩
theorem FL_7 : FLP (1, 21, 1, 3) := ⟨by decide, by decide, Or.inl (lw_in 124 (by decide +kernel) (by decide +kernel))⟩
theorem FL_8 : FLP (1, 24, 1, 4) := ⟨by decide, by decide, Or.inl (lw_in 125 (by decide +kernel) (by decide +kernel))⟩
theorem FL_9 : FLP (1, 27, 1, 5) := ⟨by decide, by decide, Or.inl (lw_in 126 (by decide +kernel) (by decide +kernel))⟩
theorem FL_10 : FLP (1, 30, 1, 6) := ⟨by decide, by decide, Or.inl (lw_in 127 (by decide +kernel) (by decide +kernel))⟩
theorem FL_11 : FLP (1, 41, 1, 7) := ⟨by decide, by decide, Or.inl (lw_in 128 (by decide +kernel) (by decide +kernel))⟩
theorem FL_12 : FLP (3, 124, 1, 7) := ⟨by decide, by decide, Or.inr (List.mem_of_getElem? (i := 4) (by decide +kernel))⟩
theorem FL_13 : FLP (1, 45, 1, 8) := ⟨by decide, by decide, Or.inl (lw_in 130 (by decide +kernel) (by decide +kernel))⟩
theorem FL_14 : FLP (3, 127, 1, 8) := ⟨by decide, by decide, Or.inr (List.mem_of_getElem? (i := 5) (by decide +kernel))⟩
theorem FL_15 : FLP (1, 48, 1, 9) := ⟨by decide, by decide, Or.inl (lw_in 132 (by decide +kernel) (by decide +kernel))⟩
theorem FL_16 : FLP (3, 68, 1, 9) := ⟨by decide, by decide, Or.inr (List.mem_of_getElem? (i := 6) (by decide +kernel))⟩
theorem FL_17 : FLP (1, 70, 1, 10) := ⟨by decide, by decide, Or.inl (lw_in 134 (by decide +kernel) (by decide +kernel))⟩
theorem FL_18 : FLP (3, 130, 1, 10) := ⟨by decide, by decide, Or.inr (List.mem_of_getElem? (i := 7) (by decide +kernel))⟩
theorem FL_19 : FLP (1, 73, 1, 11) := ⟨by decide, by decide, Or.inl (lw_in 136 (by decide +kernel) (by decide +kernel))⟩
theorem FL_20 : FLP (3, 133, 1, 11) := ⟨by decide, by decide, Or.inr (List.mem_of_getElem? (i := 8) (by decide +kernel))⟩
theorem FL_21 : FLP (1, 76, 1, 12) := ⟨by decide, by decide, Or.inl (lw_in 138 (by decide +kernel) (by decide +kernel))⟩
theorem FL_22 : FLP (3, 136, 1, 12) := ⟨by decide, by decide, Or.inr (List.mem_of_getElem? (i := 9) (by decide +kernel))⟩
theorem FL_23 : FLP (0, 9, 0, 0) := ⟨by decide, by decide, Or.inl (lw_in 173 (by decide +kernel) (by decide +kernel))⟩
theorem FL_24 : FLP (0, 15, 0, 1) := ⟨by decide, by decide, Or.inl (lw_in 174 (by decide +kernel) (by decide +kernel))⟩
theorem FL_25 : FLP (0, 18, 0, 2) := ⟨by decide, by decide, Or.inl (lw_in 175 (by decide +kernel) (by decide +kernel))⟩
theorem FL_26 : FLP (0, 21, 0, 3) := ⟨by decide, by decide, Or.inl (lw_in 176 (by decide +kernel) (by decide +kernel))⟩
theorem FL_27 : FLP (0, 24, 0, 4) := ⟨by decide, by decide, Or.inl (lw_in 177 (by decide +kernel) (by decide +kernel))⟩
theorem FL_28 : FLP (0, 27, 0, 5) := ⟨by decide, by decide, Or.inl (lw_in 178 (by decide +kernel) (by decide +kernel))⟩
theorem FL_29 : FLP (0, 31, 0, 6) := ⟨by decide, by decide, Or.inl (lw_in 179 (by decide +kernel) (by decide +kernel))⟩
theorem FL_30 : FLP (0, 35, 0, 7) := ⟨by decide, by decide, Or.inl (lw_in 180 (by decide +kernel) (by decide +kernel))⟩
theorem FL_31 : FLP (0, 70, 0, 8) := ⟨by decide, by decide, Or.inl (lw_in 181 (by decide +kernel) (by decide +kernel))⟩
theorem FL_32 : FLP (0, 78, 0, 9) := ⟨by decide, by decide, Or.inl (lw_in 182 (by decide +kernel) (by decide +kernel))⟩
theorem FL_33 : FLP (0, 80, 0, 10) := ⟨by decide, by decide, Or.inl (lw_in 183 (by decide +kernel) (by decide +kernel))⟩
theorem FL_34 : FLP (0, 83, 0, 11) := ⟨by decide, by decide, Or.inl (lw_in 184 (by decide +kernel) (by decide +kernel))⟩
theorem FL_35 : FLP (0, 86, 0, 12) := ⟨by decide, by decide, Or.inl (lw_in 185 (by decide +kernel) (by decide +kernel))⟩
theorem FL_36 : FLP (3, 121, 0, 12) := ⟨by decide, by decide, Or.inr (List.mem_of_getElem? (i := 11) (by decide +kernel))⟩
theorem FL_37 : FLP (3, 10, 3, 0) := ⟨by decide, by decide, Or.inl (lw_in 214 (by decide +kernel) (by decide +kernel))⟩
theorem FL_38 : FLP (3, 16, 3, 1) := ⟨by decide, by decide, Or.inl (lw_in 215 (by decide +kernel) (by decide +kernel))⟩
theorem FL_39 : FLP (3, 22, 3, 2) := ⟨by decide, by decide, Or.inl (lw_in 216 (by decide +kernel) (by decide +kernel))⟩
theorem FL_40 : FLP (3, 29, 3, 3) := ⟨by decide, by decide, Or.inl (lw_in 217 (by decide +kernel) (by decide +kernel))⟩
theorem FL_41 : FLP (4, 40, 4, 0) := ⟨by decide, by decide, Or.inl (lw_in 504 (by decide +kernel) (by decide +kernel))⟩
theorem FL_42 : FLP (4, 7, 4, 1) := ⟨by decide, by decide, Or.inl (lw_in 505 (by decide +kernel) (by decide +kernel))⟩
theorem FL_43 : FLP (4, 51, 4, 2) := ⟨by decide, by decide, Or.inl (lw_in 506 (by decide +kernel) (by decide +kernel))⟩
theorem FL_44 : FLP (4, 13, 4, 3) := ⟨by decide, by decide, Or.inl (lw_in 507 (by decide +kernel) (by decide +kernel))⟩
theorem FL_45 : FLP (4, 16, 4, 4) := ⟨by decide, by decide, Or.inl (lw_in 508 (by decide +kernel) (by decide +kernel))⟩
theorem FL_46 : FLP (4, 20, 4, 5) := ⟨by decide, by decide, Or.inl (lw_in 509 (by decide +kernel) (by decide +kernel))⟩
theorem FL_47 : FLP (4, 23, 4, 6) := ⟨by decide, by decide, Or.inl (lw_in 510 (by decide +kernel) (by decide +kernel))⟩
theorem FL_48 : FLP (4, 60, 4, 7) := ⟨by decide, by decide, Or.inl (lw_in 511 (by decide +kernel) (by decide +kernel))⟩
theorem FL_49 : FLP (4, 63, 4, 8) := ⟨by decide, by decide, Or.inl (lw_in 512 (by decide +kernel) (by decide +kernel))⟩
theorem FL_50 : FLP (4, 92, 4, 9) := ⟨by decide, by decide, Or.inl (lw_in 513 (by decide +kernel) (by decide +kernel))⟩
theorem FL_51 : FLP (4, 136, 4, 10) := ⟨by decide, by decide, Or.inl (lw_in 514 (by decide +kernel) (by decide +kernel))⟩
theorem FL_52 : FLP (4, 95, 4, 11) := ⟨by decide, by decide, Or.inl (lw_in 515 (by decide +kernel) (by decide +kernel))⟩
theorem FL_53 : FLP (4, 98, 4, 12) := ⟨by decide, by decide, Or.inl (lw_in 516 (by decide +kernel) (by decide +kernel))⟩
theorem FL_54 : FLP (4, 101, 4, 13) := ⟨by decide, by decide, Or.inl (lw_in 517 (by decide +kernel) (by decide +kernel))⟩
theorem FL_55 : FLP (4, 104, 4, 14) := ⟨by decide, by decide, Or.inl (lw_in 518 (by decide +kernel) (by decide +kernel))⟩
theorem FL_56 : FLP (4, 110, 4, 15) := ⟨by decide, by decide, Or.inl (lw_in 519 (by decide +kernel) (by decide +kernel))⟩
theorem FL_57 : FLP (4, 113, 4, 16) := ⟨by decide, by decide, Or.inl (lw_in 520 (by decide +kernel) (by decide +kernel))⟩
theorem FL_58 : FLP (4, 145, 4, 17) := ⟨by decide, by decide, Or.inl (lw_in 521 (by decide +kernel) (by decide +kernel))⟩
theorem FL_59 : FLP (4, 142, 4, 18) := ⟨by decide, by decide, Or.inl (lw_in 522 (by decide +kernel) (by decide +kernel))⟩
theorem FL_60 : FLP (4, 148, 4, 19) := ⟨by decide, by decide, Or.inl (lw_in 523 (by decide +kernel) (by decide +kernel))⟩
theorem FL_61 : FLP (4, 139, 4, 20) := ⟨by decide, by decide, Or.inl (lw_in 524 (by decide +kernel) (by decide +kernel))⟩
theorem FL_62 : FLP (4, 151, 4, 21) := ⟨by decide, by decide, Or.inl (lw_in 525 (by decide +kernel) (by decide +kernel))⟩
theorem FL_63 : FLP (4, 167, 4, 22) := ⟨by decide, by decide, Or.inl (lw_in 526 (by decide +kernel) (by decide +kernel))⟩
theorem FL_64 : FLP (4, 26, 4, 23) := ⟨by decide, by decide, Or.inl (lw_in 527 (by decide +kernel) (by decide +kernel))⟩
theorem FL_65 : FLP (4, 29, 4, 24) := ⟨by decide, by decide, Or.inl (lw_in 528 (by decide +kernel) (by decide +kernel))⟩
theorem FL_66 : FLP (4, 33, 4, 25) := ⟨by decide, by decide, Or.inl (lw_in 529 (by decide +kernel) (by decide +kernel))⟩
theorem FL_67 : FLP (4, 210, 4, 26) := ⟨by decide, by decide, Or.inl (lw_in 530 (by decide +kernel) (by decide +kernel))⟩
def FL : List (Nat × Nat × Nat × Nat) := [(2, 9, 2, 0), (2, 15, 2, 1), (3, 33, 2, 1), (0, 45, 2, 1), (1, 9, 1, 0), (1, 15, 1, 1), (1, 18, 1, 2), (1, 21, 1, 3), (1, 24, 1, 4), (1, 27, 1, 5), (1, 30, 1, 6), (1, 41, 1, 7), (3, 124, 1, 7), (1, 45, 1, 8), (3, 127, 1, 8), (1, 48, 1, 9), (3, 68, 1, 9), (1, 70, 1, 10), (3, 130, 1, 10), (1, 73, 1, 11), (3, 133, 1, 11), (1, 76, 1, 12), (3, 136, 1, 12), (0, 9, 0, 0), (0, 15, 0, 1), (0, 18, 0, 2), (0, 21, 0, 3), (0, 24, 0, 4), (0, 27, 0, 5), (0, 31, 0, 6), (0, 35, 0, 7), (0, 70, 0, 8), (0, 78, 0, 9), (0, 80, 0, 10), (0, 83, 0, 11), (0, 86, 0, 12), (3, 121, 0, 12), (3, 10, 3, 0), (3, 16, 3, 1), (3, 22, 3, 2), (3, 29, 3, 3), (4, 40, 4, 0), (4, 7, 4, 1), (4, 51, 4, 2), (4, 13, 4, 3), (4, 16, 4, 4), (4, 20, 4, 5), (4, 23, 4, 6), (4, 60, 4, 7), (4, 63, 4, 8), (4, 92, 4, 9), (4, 136, 4, 10), (4, 95, 4, 11), (4, 98, 4, 12), (4, 101, 4, 13), (4, 104, 4, 14), (4, 110, 4, 15), (4, 113, 4, 16), (4, 145, 4, 17), (4, 142, 4, 18), (4, 148, 4, 19), (4, 139, 4, 20), (4, 151, 4, 21), (4, 167, 4, 22), (4, 26, 4, 23), (4, 29, 4, 24), (4, 33, 4, 25), (4, 210, 4, 26)]
theorem FL_ok : ∀ q ∈ FL, FLP q := List.forall_mem_cons.mpr ⟨FL_0, List.forall_mem_cons.mpr ⟨FL_1, List.forall_mem_cons.mpr ⟨FL_2, List.forall_mem_cons.mpr ⟨FL_3, List.forall_mem_cons.mpr ⟨FL_4, List.forall_mem_cons.mpr ⟨FL_5, List.forall_mem_cons.mpr ⟨FL_6, List.forall_mem_cons.mpr ⟨FL_7, List.forall_mem_cons.mpr ⟨FL_8, List.forall_mem_cons.mpr ⟨FL_9, List.forall_mem_cons.mpr ⟨FL_10, List.forall_mem_cons.mpr ⟨FL_11, List.forall_mem_cons.mpr ⟨FL_12, List.forall_mem_cons.mpr ⟨FL_13, List.forall_mem_cons.mpr ⟨FL_14, List.forall_mem_cons.mpr ⟨FL_15, List.forall_mem_cons.mpr ⟨FL_16, List.forall_mem_cons.mpr ⟨FL_17, List.forall_mem_cons.mpr ⟨FL_18, List.forall_mem_cons.mpr ⟨FL_19, List.forall_mem_cons.mpr ⟨FL_20, List.forall_mem_cons.mpr ⟨FL_21, List.forall_mem_cons.mpr ⟨FL_22, List.forall_mem_cons.mpr ⟨FL_23, List.forall_mem_cons.mpr ⟨FL_24, List.forall_mem_cons.mpr ⟨FL_25, List.forall_mem_cons.mpr ⟨FL_26, List.forall_mem_cons.mpr ⟨FL_27, List.forall_mem_cons.mpr ⟨FL_28, List.forall_mem_cons.mpr ⟨FL_29, List.forall_mem_cons.mpr ⟨FL_30, List.forall_mem_cons.mpr ⟨FL_31, List.forall_mem_cons.mpr ⟨FL_32, List.forall_mem_cons.mpr ⟨FL_33, List.forall_mem_cons.mpr ⟨FL_34, List.forall_mem_cons.mpr ⟨FL_35, List.forall_mem_cons.mpr ⟨FL_36, List.forall_mem_cons.mpr ⟨FL_37, List.forall_mem_cons.mpr ⟨FL_38, List.forall_mem_cons.mpr ⟨FL_39, List.forall_mem_cons.mpr ⟨FL_40, List.forall_mem_cons.mpr ⟨FL_41, List.forall_mem_cons.mpr ⟨FL_42, List.forall_mem_cons.mpr ⟨FL_43, List.forall_mem_cons.mpr ⟨FL_44, List.forall_mem_cons.mpr ⟨FL_45, List.forall_mem_cons.mpr ⟨FL_46, List.forall_mem_cons.mpr ⟨FL_47, List.forall_mem_cons.mpr ⟨FL_48, List.forall_mem_cons.mpr ⟨FL_49, List.forall_mem_cons.mpr ⟨FL_50, List.forall_mem_cons.mpr ⟨FL_51, List.forall_mem_cons.mpr ⟨FL_52, List.forall_mem_cons.mpr ⟨FL_53, List.forall_mem_cons.mpr ⟨FL_54, List.forall_mem_cons.mpr ⟨FL_55, List.forall_mem_cons.mpr ⟨FL_56, List.forall_mem_cons.mpr ⟨FL_57, List.forall_mem_cons.mpr ⟨FL_58, List.forall_mem_cons.mpr ⟨FL_59, List.forall_mem_cons.mpr ⟨FL_60, List.forall_mem_cons.mpr ⟨FL_61, List.forall_mem_cons.mpr ⟨FL_62, List.forall_mem_cons.mpr ⟨FL_63, List.forall_mem_cons.mpr ⟨FL_64, List.forall_mem_cons.mpr ⟨FL_65, List.forall_mem_cons.mpr ⟨FL_66, List.forall_mem_cons.mpr ⟨FL_67, fun _ h => absurd h List.not_mem_nil⟩⟩⟩⟩⟩⟩⟩⟩⟩⟩⟩⟩⟩⟩⟩⟩⟩⟩⟩⟩⟩⟩⟩⟩⟩⟩⟩⟩⟩⟩⟩⟩⟩⟩⟩⟩⟩⟩⟩⟩⟩⟩⟩⟩⟩⟩⟩⟩⟩⟩⟩⟩⟩⟩⟩⟩⟩⟩⟩⟩⟩⟩⟩⟩⟩⟩⟩⟩
def OkB (mt : Mt) (n : Nat) : Prop := Cond.code mt.1 mt.2.1 mt.2.2.1 mt.2.2.2.1 ∈ lw_good ∧ Cond.initialized mt.1.cls ∈ lw_good ∧ (mt.1.cls ≠ "java/lang/invoke/MethodHandle" ∧ mt.1.cls ≠ "java/lang/invoke/VarHandle" ∧ (parseMethodDescriptor mt.1.desc).map (fun d => d.parameters.length) = some n) ∧ mt.2.2.1 ≤ 21 ∧ plainName mt.1.cls = true ∧ oN mt.2.2.2.2 = mt.1.cls
def OkV (mt : Mt) (n : Nat) : Prop := OkB mt n ∧ Cond.instanceMethod mt.1 ∈ lw_good ∧ Cond.selects mt.1.cls mt.1 mt.1 ∈ lw_good
def OkS (mt : Mt) (n : Nat) : Prop := OkB mt n ∧ Cond.static mt.1 ∈ lw_good
def OkI (mt : Mt) (n : Nat) : Prop := OkB mt n ∧ mt.1.name = "<init>" ∧ Cond.instanceMethod mt.1 ∈ lw_good
def LkM (own : String) (idx : Nat) (y : MethodName) : Prop := Cond.methodLink own idx y ∈ lw_good ∨ Cond.methodLinkNest own idx y "DisturbedCells" ∈ lw_nest
def mX0_init : Mt := (yX0_init, cX0_init, 1, none, 0)
theorem okX0_init : OkI mX0_init 0 := ⟨⟨lw_in 171 (by decide +kernel) (by decide +kernel), lw_in 57 (by decide +kernel) (by decide +kernel), ⟨by decide, by decide, by decide +kernel⟩, by decide, by decide, by decide⟩, by decide, lw_in 170 (by decide +kernel) (by decide +kernel)⟩
def mX0_forget : Mt := (yX0_forget, cX0_forget, 1, none, 0)
theorem okX0_forget : OkV mX0_forget 0 := ⟨⟨lw_in 265 (by decide +kernel) (by decide +kernel), lw_in 57 (by decide +kernel) (by decide +kernel), ⟨by decide, by decide, by decide +kernel⟩, by decide, by decide, by decide⟩, lw_in 263 (by decide +kernel) (by decide +kernel), lw_in 264 (by decide +kernel) (by decide +kernel)⟩
def mX0_work : Mt := (yX0_work, cX0_work, 7, none, 0)
theorem okX0_work : OkV mX0_work 4 := ⟨⟨lw_in 350 (by decide +kernel) (by decide +kernel), lw_in 57 (by decide +kernel) (by decide +kernel), ⟨by decide, by decide, by decide +kernel⟩, by decide, by decide, by decide⟩, lw_in 348 (by decide +kernel) (by decide +kernel), lw_in 349 (by decide +kernel) (by decide +kernel)⟩
def mX0_begin : Mt := (yX0_begin, cX0_begin, 3, none, 0)
theorem okX0_begin : OkV mX0_begin 1 := ⟨⟨lw_in 354 (by decide +kernel) (by decide +kernel), lw_in 57 (by decide +kernel) (by decide +kernel), ⟨by decide, by decide, by decide +kernel⟩, by decide, by decide, by decide⟩, lw_in 353 (by decide +kernel) (by decide +kernel), lw_in 6 (by decide +kernel) (by decide +kernel)⟩
def mX0_writeAll : Mt := (yX0_writeAll, cX0_writeAll, 4, none, 0)
theorem okX0_writeAll : OkV mX0_writeAll 1 := ⟨⟨lw_in 374 (by decide +kernel) (by decide +kernel), lw_in 57 (by decide +kernel) (by decide +kernel), ⟨by decide, by decide, by decide +kernel⟩, by decide, by decide, by decide⟩, lw_in 373 (by decide +kernel) (by decide +kernel), lw_in 9 (by decide +kernel) (by decide +kernel)⟩
def mX0_isWritten : Mt := (yX0_isWritten, cX0_isWritten, 3, (some .boolean), 0)
theorem okX0_isWritten : OkV mX0_isWritten 2 := ⟨⟨lw_in 380 (by decide +kernel) (by decide +kernel), lw_in 57 (by decide +kernel) (by decide +kernel), ⟨by decide, by decide, by decide +kernel⟩, by decide, by decide, by decide⟩, lw_in 379 (by decide +kernel) (by decide +kernel), lw_in 10 (by decide +kernel) (by decide +kernel)⟩
def mX0_written : Mt := (yX0_written, cX0_written, 2, (some .int), 0)
theorem okX0_written : OkS mX0_written 2 := ⟨⟨lw_in 388 (by decide +kernel) (by decide +kernel), lw_in 57 (by decide +kernel) (by decide +kernel), ⟨by decide, by decide, by decide +kernel⟩, by decide, by decide, by decide⟩, lw_in 387 (by decide +kernel) (by decide +kernel)⟩
def mX0_writeItself : Mt := (yX0_writeItself, cX0_writeItself, 4, none, 0)
theorem okX0_writeItself : OkV mX0_writeItself 1 := ⟨⟨lw_in 385 (by decide +kernel) (by decide +kernel), lw_in 57 (by decide +kernel) (by decide +kernel), ⟨by decide, by decide, by decide +kernel⟩, by decide, by decide, by decide⟩, lw_in 384 (by decide +kernel) (by decide +kernel), lw_in 11 (by decide +kernel) (by decide +kernel)⟩
def mX0_writeBeside : Mt := (yX0_writeBeside, cX0_writeBeside, 7, none, 0)
theorem okX0_writeBeside : OkV mX0_writeBeside 2 := ⟨⟨lw_in 392 (by decide +kernel) (by decide +kernel), lw_in 57 (by decide +kernel) (by decide +kernel), ⟨by decide, by decide, by decide +kernel⟩, by decide, by decide, by decide⟩, lw_in 391 (by decide +kernel) (by decide +kernel), lw_in 12 (by decide +kernel) (by decide +kernel)⟩
def mX0_turn : Mt := (yX0_turn, cX0_turn, 3, none, 0)
theorem okX0_turn : OkV mX0_turn 1 := ⟨⟨lw_in 396 (by decide +kernel) (by decide +kernel), lw_in 57 (by decide +kernel) (by decide +kernel), ⟨by decide, by decide, by decide +kernel⟩, by decide, by decide, by decide⟩, lw_in 395 (by decide +kernel) (by decide +kernel), lw_in 13 (by decide +kernel) (by decide +kernel)⟩
def mX0_hold : Mt := (yX0_hold, cX0_hold, 2, none, 0)
theorem okX0_hold : OkV mX0_hold 0 := ⟨⟨lw_in 365 (by decide +kernel) (by decide +kernel), lw_in 57 (by decide +kernel) (by decide +kernel), ⟨by decide, by decide, by decide +kernel⟩, by decide, by decide, by decide⟩, lw_in 364 (by decide +kernel) (by decide +kernel), lw_in 7 (by decide +kernel) (by decide +kernel)⟩
def mX0_readAll : Mt := (yX0_readAll, cX0_readAll, 3, none, 0)
theorem okX0_readAll : OkV mX0_readAll 1 := ⟨⟨lw_in 370 (by decide +kernel) (by decide +kernel), lw_in 57 (by decide +kernel) (by decide +kernel), ⟨by decide, by decide, by decide +kernel⟩, by decide, by decide, by decide⟩, lw_in 369 (by decide +kernel) (by decide +kernel), lw_in 8 (by decide +kernel) (by decide +kernel)⟩
def mX0_missesOf : Mt := (yX0_missesOf, cX0_missesOf, 2, (some .int), 0)
theorem okX0_missesOf : OkV mX0_missesOf 1 := ⟨⟨lw_in 404 (by decide +kernel) (by decide +kernel), lw_in 57 (by decide +kernel) (by decide +kernel), ⟨by decide, by decide, by decide +kernel⟩, by decide, by decide, by decide⟩, lw_in 402 (by decide +kernel) (by decide +kernel), lw_in 403 (by decide +kernel) (by decide +kernel)⟩
def mX0_firstStepOf : Mt := (yX0_firstStepOf, cX0_firstStepOf, 2, (some .int), 0)
theorem okX0_firstStepOf : OkV mX0_firstStepOf 1 := ⟨⟨lw_in 408 (by decide +kernel) (by decide +kernel), lw_in 57 (by decide +kernel) (by decide +kernel), ⟨by decide, by decide, by decide +kernel⟩, by decide, by decide, by decide⟩, lw_in 406 (by decide +kernel) (by decide +kernel), lw_in 407 (by decide +kernel) (by decide +kernel)⟩
def mX0_firstReadOf : Mt := (yX0_firstReadOf, cX0_firstReadOf, 2, (some .int), 0)
theorem okX0_firstReadOf : OkV mX0_firstReadOf 1 := ⟨⟨lw_in 412 (by decide +kernel) (by decide +kernel), lw_in 57 (by decide +kernel) (by decide +kernel), ⟨by decide, by decide, by decide +kernel⟩, by decide, by decide, by decide⟩, lw_in 410 (by decide +kernel) (by decide +kernel), lw_in 411 (by decide +kernel) (by decide +kernel)⟩
def mX0_lastBitOf : Mt := (yX0_lastBitOf, cX0_lastBitOf, 2, (some .int), 0)
theorem okX0_lastBitOf : OkV mX0_lastBitOf 1 := ⟨⟨lw_in 416 (by decide +kernel) (by decide +kernel), lw_in 57 (by decide +kernel) (by decide +kernel), ⟨by decide, by decide, by decide +kernel⟩, by decide, by decide, by decide⟩, lw_in 414 (by decide +kernel) (by decide +kernel), lw_in 415 (by decide +kernel) (by decide +kernel)⟩
def mX0_howMany : Mt := (yX0_howMany, cX0_howMany, 3, (some .int), 0)
theorem okX0_howMany : OkV mX0_howMany 0 := ⟨⟨lw_in 424 (by decide +kernel) (by decide +kernel), lw_in 57 (by decide +kernel) (by decide +kernel), ⟨by decide, by decide, by decide +kernel⟩, by decide, by decide, by decide⟩, lw_in 422 (by decide +kernel) (by decide +kernel), lw_in 423 (by decide +kernel) (by decide +kernel)⟩
def mX0_howManyMissed : Mt := (yX0_howManyMissed, cX0_howManyMissed, 3, (some .int), 0)
theorem okX0_howManyMissed : OkV mX0_howManyMissed 0 := ⟨⟨lw_in 429 (by decide +kernel) (by decide +kernel), lw_in 57 (by decide +kernel) (by decide +kernel), ⟨by decide, by decide, by decide +kernel⟩, by decide, by decide, by decide⟩, lw_in 427 (by decide +kernel) (by decide +kernel), lw_in 428 (by decide +kernel) (by decide +kernel)⟩
def mX0_leastHidden : Mt := (yX0_leastHidden, cX0_leastHidden, 2, (some .int), 0)
theorem okX0_leastHidden : OkV mX0_leastHidden 0 := ⟨⟨lw_in 433 (by decide +kernel) (by decide +kernel), lw_in 57 (by decide +kernel) (by decide +kernel), ⟨by decide, by decide, by decide +kernel⟩, by decide, by decide, by decide⟩, lw_in 431 (by decide +kernel) (by decide +kernel), lw_in 432 (by decide +kernel) (by decide +kernel)⟩
def mX0_latestFirst : Mt := (yX0_latestFirst, cX0_latestFirst, 3, (some .int), 0)
theorem okX0_latestFirst : OkV mX0_latestFirst 0 := ⟨⟨lw_in 437 (by decide +kernel) (by decide +kernel), lw_in 57 (by decide +kernel) (by decide +kernel), ⟨by decide, by decide, by decide +kernel⟩, by decide, by decide, by decide⟩, lw_in 435 (by decide +kernel) (by decide +kernel), lw_in 436 (by decide +kernel) (by decide +kernel)⟩
def mX1_init : Mt := (yX1_init, cX1_init, 1, none, 1)
theorem okX1_init : OkI mX1_init 0 := ⟨⟨lw_in 89 (by decide +kernel) (by decide +kernel), lw_in 56 (by decide +kernel) (by decide +kernel), ⟨by decide, by decide, by decide +kernel⟩, by decide, by decide, by decide⟩, by decide, lw_in 88 (by decide +kernel) (by decide +kernel)⟩
def mX1_lay : Mt := (yX1_lay, cX1_lay, 5, (some .boolean), 1)
theorem okX1_lay : OkV mX1_lay 2 := ⟨⟨lw_in 94 (by decide +kernel) (by decide +kernel), lw_in 56 (by decide +kernel) (by decide +kernel), ⟨by decide, by decide, by decide +kernel⟩, by decide, by decide, by decide⟩, lw_in 92 (by decide +kernel) (by decide +kernel), lw_in 93 (by decide +kernel) (by decide +kernel)⟩
def mX1_isSide : Mt := (yX1_isSide, cX1_isSide, 1, (some .boolean), 1)
theorem okX1_isSide : OkS mX1_isSide 1 := ⟨⟨lw_in 97 (by decide +kernel) (by decide +kernel), lw_in 56 (by decide +kernel) (by decide +kernel), ⟨by decide, by decide, by decide +kernel⟩, by decide, by decide, by decide⟩, lw_in 96 (by decide +kernel) (by decide +kernel)⟩
def mX1_layCell : Mt := (yX1_layCell, cX1_layCell, 5, none, 1)
theorem okX1_layCell : OkV mX1_layCell 2 := ⟨⟨lw_in 101 (by decide +kernel) (by decide +kernel), lw_in 56 (by decide +kernel) (by decide +kernel), ⟨by decide, by decide, by decide +kernel⟩, by decide, by decide, by decide⟩, lw_in 100 (by decide +kernel) (by decide +kernel), lw_in 0 (by decide +kernel) (by decide +kernel)⟩
def mX1_layBeside : Mt := (yX1_layBeside, cX1_layBeside, 5, none, 1)
theorem okX1_layBeside : OkV mX1_layBeside 4 := ⟨⟨lw_in 109 (by decide +kernel) (by decide +kernel), lw_in 56 (by decide +kernel) (by decide +kernel), ⟨by decide, by decide, by decide +kernel⟩, by decide, by decide, by decide⟩, lw_in 108 (by decide +kernel) (by decide +kernel), lw_in 1 (by decide +kernel) (by decide +kernel)⟩
def mX1_mix : Mt := (yX1_mix, cX1_mix, 6, (some .boolean), 1)
theorem okX1_mix : OkV mX1_mix 3 := ⟨⟨lw_in 113 (by decide +kernel) (by decide +kernel), lw_in 56 (by decide +kernel) (by decide +kernel), ⟨by decide, by decide, by decide +kernel⟩, by decide, by decide, by decide⟩, lw_in 111 (by decide +kernel) (by decide +kernel), lw_in 112 (by decide +kernel) (by decide +kernel)⟩
def mX1_setAddress : Mt := (yX1_setAddress, cX1_setAddress, 3, none, 1)
theorem okX1_setAddress : OkV mX1_setAddress 2 := ⟨⟨lw_in 120 (by decide +kernel) (by decide +kernel), lw_in 56 (by decide +kernel) (by decide +kernel), ⟨by decide, by decide, by decide +kernel⟩, by decide, by decide, by decide⟩, lw_in 119 (by decide +kernel) (by decide +kernel), lw_in 2 (by decide +kernel) (by decide +kernel)⟩
def mX1_has : Mt := (yX1_has, cX1_has, 2, (some .boolean), 1)
theorem okX1_has : OkV mX1_has 1 := ⟨⟨lw_in 105 (by decide +kernel) (by decide +kernel), lw_in 56 (by decide +kernel) (by decide +kernel), ⟨by decide, by decide, by decide +kernel⟩, by decide, by decide, by decide⟩, lw_in 103 (by decide +kernel) (by decide +kernel), lw_in 104 (by decide +kernel) (by decide +kernel)⟩
def mX1_typeOf : Mt := (yX1_typeOf, cX1_typeOf, 2, (some .int), 1)
theorem okX1_typeOf : OkV mX1_typeOf 1 := ⟨⟨lw_in 300 (by decide +kernel) (by decide +kernel), lw_in 56 (by decide +kernel) (by decide +kernel), ⟨by decide, by decide, by decide +kernel⟩, by decide, by decide, by decide⟩, lw_in 298 (by decide +kernel) (by decide +kernel), lw_in 299 (by decide +kernel) (by decide +kernel)⟩
def mX1_addressOf : Mt := (yX1_addressOf, cX1_addressOf, 2, (some .int), 1)
theorem okX1_addressOf : OkV mX1_addressOf 1 := ⟨⟨lw_in 304 (by decide +kernel) (by decide +kernel), lw_in 56 (by decide +kernel) (by decide +kernel), ⟨by decide, by decide, by decide +kernel⟩, by decide, by decide, by decide⟩, lw_in 302 (by decide +kernel) (by decide +kernel), lw_in 303 (by decide +kernel) (by decide +kernel)⟩
def mX1_cellOf : Mt := (yX1_cellOf, cX1_cellOf, 2, (some .int), 1)
theorem okX1_cellOf : OkV mX1_cellOf 1 := ⟨⟨lw_in 291 (by decide +kernel) (by decide +kernel), lw_in 56 (by decide +kernel) (by decide +kernel), ⟨by decide, by decide, by decide +kernel⟩, by decide, by decide, by decide⟩, lw_in 289 (by decide +kernel) (by decide +kernel), lw_in 290 (by decide +kernel) (by decide +kernel)⟩
def mX1_turnedAt : Mt := (yX1_turnedAt, cX1_turnedAt, 2, (some .int), 1)
theorem okX1_turnedAt : OkV mX1_turnedAt 1 := ⟨⟨lw_in 308 (by decide +kernel) (by decide +kernel), lw_in 56 (by decide +kernel) (by decide +kernel), ⟨by decide, by decide, by decide +kernel⟩, by decide, by decide, by decide⟩, lw_in 306 (by decide +kernel) (by decide +kernel), lw_in 307 (by decide +kernel) (by decide +kernel)⟩
def mX1_beside : Mt := (yX1_beside, cX1_beside, 3, (some .int), 1)
theorem okX1_beside : OkV mX1_beside 2 := ⟨⟨lw_in 312 (by decide +kernel) (by decide +kernel), lw_in 56 (by decide +kernel) (by decide +kernel), ⟨by decide, by decide, by decide +kernel⟩, by decide, by decide, by decide⟩, lw_in 310 (by decide +kernel) (by decide +kernel), lw_in 311 (by decide +kernel) (by decide +kernel)⟩
def mX1_there : Mt := (yX1_there, cX1_there, 2, (some .int), 1)
theorem okX1_there : OkV mX1_there 1 := ⟨⟨lw_in 328 (by decide +kernel) (by decide +kernel), lw_in 56 (by decide +kernel) (by decide +kernel), ⟨by decide, by decide, by decide +kernel⟩, by decide, by decide, by decide⟩, lw_in 326 (by decide +kernel) (by decide +kernel), lw_in 327 (by decide +kernel) (by decide +kernel)⟩
def mX1_cellsOfType : Mt := (yX1_cellsOfType, cX1_cellsOfType, 2, (some .int), 1)
theorem okX1_cellsOfType : OkV mX1_cellsOfType 1 := ⟨⟨lw_in 346 (by decide +kernel) (by decide +kernel), lw_in 56 (by decide +kernel) (by decide +kernel), ⟨by decide, by decide, by decide +kernel⟩, by decide, by decide, by decide⟩, lw_in 344 (by decide +kernel) (by decide +kernel), lw_in 345 (by decide +kernel) (by decide +kernel)⟩
def mX2_init : Mt := (yX2_init, cX2_init, 1, none, 2)
theorem okX2_init : OkI mX2_init 0 := ⟨⟨lw_in 73 (by decide +kernel) (by decide +kernel), lw_in 55 (by decide +kernel) (by decide +kernel), ⟨by decide, by decide, by decide +kernel⟩, by decide, by decide, by decide⟩, by decide, lw_in 72 (by decide +kernel) (by decide +kernel)⟩
def mX2_clear : Mt := (yX2_clear, cX2_clear, 1, none, 2)
theorem okX2_clear : OkV mX2_clear 0 := ⟨⟨lw_in 242 (by decide +kernel) (by decide +kernel), lw_in 55 (by decide +kernel) (by decide +kernel), ⟨by decide, by decide, by decide +kernel⟩, by decide, by decide, by decide⟩, lw_in 240 (by decide +kernel) (by decide +kernel), lw_in 241 (by decide +kernel) (by decide +kernel)⟩
def mX2_add : Mt := (yX2_add, cX2_add, 2, none, 2)
theorem okX2_add : OkV mX2_add 1 := ⟨⟨lw_in 234 (by decide +kernel) (by decide +kernel), lw_in 55 (by decide +kernel) (by decide +kernel), ⟨by decide, by decide, by decide +kernel⟩, by decide, by decide, by decide⟩, lw_in 232 (by decide +kernel) (by decide +kernel), lw_in 233 (by decide +kernel) (by decide +kernel)⟩
def mX2_get : Mt := (yX2_get, cX2_get, 2, (some .int), 2)
theorem okX2_get : OkV mX2_get 1 := ⟨⟨lw_in 250 (by decide +kernel) (by decide +kernel), lw_in 55 (by decide +kernel) (by decide +kernel), ⟨by decide, by decide, by decide +kernel⟩, by decide, by decide, by decide⟩, lw_in 248 (by decide +kernel) (by decide +kernel), lw_in 249 (by decide +kernel) (by decide +kernel)⟩
def mX3_init : Mt := (yX3_init, cX3_init, 1, none, 3)
theorem okX3_init : OkI mX3_init 0 := ⟨⟨lw_in 65 (by decide +kernel) (by decide +kernel), lw_in 54 (by decide +kernel) (by decide +kernel), ⟨by decide, by decide, by decide +kernel⟩, by decide, by decide, by decide⟩, by decide, lw_in 64 (by decide +kernel) (by decide +kernel)⟩
def mX3_letter : Mt := (yX3_letter, cX3_letter, 2, (some .int), 3)
theorem okX3_letter : OkV mX3_letter 1 := ⟨⟨lw_in 230 (by decide +kernel) (by decide +kernel), lw_in 54 (by decide +kernel) (by decide +kernel), ⟨by decide, by decide, by decide +kernel⟩, by decide, by decide, by decide⟩, lw_in 228 (by decide +kernel) (by decide +kernel), lw_in 229 (by decide +kernel) (by decide +kernel)⟩
def mX3_blank : Mt := (yX3_blank, cX3_blank, 2, (some .int), 3)
theorem okX3_blank : OkV mX3_blank 0 := ⟨⟨lw_in 238 (by decide +kernel) (by decide +kernel), lw_in 54 (by decide +kernel) (by decide +kernel), ⟨by decide, by decide, by decide +kernel⟩, by decide, by decide, by decide⟩, lw_in 236 (by decide +kernel) (by decide +kernel), lw_in 237 (by decide +kernel) (by decide +kernel)⟩
def mX3_fault : Mt := (yX3_fault, cX3_fault, 2, (some .int), 3)
theorem okX3_fault : OkV mX3_fault 0 := ⟨⟨lw_in 246 (by decide +kernel) (by decide +kernel), lw_in 54 (by decide +kernel) (by decide +kernel), ⟨by decide, by decide, by decide +kernel⟩, by decide, by decide, by decide⟩, lw_in 244 (by decide +kernel) (by decide +kernel), lw_in 245 (by decide +kernel) (by decide +kernel)⟩
def mX3_test : Mt := (yX3_test, cX3_test, 2, (some .int), 3)
theorem okX3_test : OkV mX3_test 0 := ⟨⟨lw_in 260 (by decide +kernel) (by decide +kernel), lw_in 54 (by decide +kernel) (by decide +kernel), ⟨by decide, by decide, by decide +kernel⟩, by decide, by decide, by decide⟩, lw_in 258 (by decide +kernel) (by decide +kernel), lw_in 259 (by decide +kernel) (by decide +kernel)⟩
def mX3_gray : Mt := (yX3_gray, cX3_gray, 2, (some .int), 3)
theorem okX3_gray : OkV mX3_gray 0 := ⟨⟨lw_in 269 (by decide +kernel) (by decide +kernel), lw_in 54 (by decide +kernel) (by decide +kernel), ⟨by decide, by decide, by decide +kernel⟩, by decide, by decide, by decide⟩, lw_in 267 (by decide +kernel) (by decide +kernel), lw_in 268 (by decide +kernel) (by decide +kernel)⟩
def mX3_step : Mt := (yX3_step, cX3_step, 2, (some .int), 3)
theorem okX3_step : OkV mX3_step 1 := ⟨⟨lw_in 277 (by decide +kernel) (by decide +kernel), lw_in 54 (by decide +kernel) (by decide +kernel), ⟨by decide, by decide, by decide +kernel⟩, by decide, by decide, by decide⟩, lw_in 275 (by decide +kernel) (by decide +kernel), lw_in 276 (by decide +kernel) (by decide +kernel)⟩
def mX3_sheet : Mt := (yX3_sheet, cX3_sheet, 3, (some .int), 3)
theorem okX3_sheet : OkV mX3_sheet 2 := ⟨⟨lw_in 281 (by decide +kernel) (by decide +kernel), lw_in 54 (by decide +kernel) (by decide +kernel), ⟨by decide, by decide, by decide +kernel⟩, by decide, by decide, by decide⟩, lw_in 279 (by decide +kernel) (by decide +kernel), lw_in 280 (by decide +kernel) (by decide +kernel)⟩
def mX3_scramble : Mt := (yX3_scramble, cX3_scramble, 6, (some .int), 3)
theorem okX3_scramble : OkV mX3_scramble 3 := ⟨⟨lw_in 286 (by decide +kernel) (by decide +kernel), lw_in 54 (by decide +kernel) (by decide +kernel), ⟨by decide, by decide, by decide +kernel⟩, by decide, by decide, by decide⟩, lw_in 284 (by decide +kernel) (by decide +kernel), lw_in 285 (by decide +kernel) (by decide +kernel)⟩
def mX3_cell : Mt := (yX3_cell, cX3_cell, 3, (some .int), 3)
theorem okX3_cell : OkV mX3_cell 2 := ⟨⟨lw_in 295 (by decide +kernel) (by decide +kernel), lw_in 54 (by decide +kernel) (by decide +kernel), ⟨by decide, by decide, by decide +kernel⟩, by decide, by decide, by decide⟩, lw_in 293 (by decide +kernel) (by decide +kernel), lw_in 294 (by decide +kernel) (by decide +kernel)⟩
def mX3_at : Mt := (yX3_at, cX3_at, 2, (some .int), 3)
theorem okX3_at : OkV mX3_at 1 := ⟨⟨lw_in 316 (by decide +kernel) (by decide +kernel), lw_in 54 (by decide +kernel) (by decide +kernel), ⟨by decide, by decide, by decide +kernel⟩, by decide, by decide, by decide⟩, lw_in 314 (by decide +kernel) (by decide +kernel), lw_in 315 (by decide +kernel) (by decide +kernel)⟩
def mX3_run : Mt := (yX3_run, cX3_run, 6, (some .int), 3)
theorem okX3_run : OkV mX3_run 2 := ⟨⟨lw_in 320 (by decide +kernel) (by decide +kernel), lw_in 54 (by decide +kernel) (by decide +kernel), ⟨by decide, by decide, by decide +kernel⟩, by decide, by decide, by decide⟩, lw_in 318 (by decide +kernel) (by decide +kernel), lw_in 319 (by decide +kernel) (by decide +kernel)⟩
def mX3_found : Mt := (yX3_found, cX3_found, 4, (some .int), 3)
theorem okX3_found : OkV mX3_found 3 := ⟨⟨lw_in 420 (by decide +kernel) (by decide +kernel), lw_in 54 (by decide +kernel) (by decide +kernel), ⟨by decide, by decide, by decide +kernel⟩, by decide, by decide, by decide⟩, lw_in 418 (by decide +kernel) (by decide +kernel), lw_in 419 (by decide +kernel) (by decide +kernel)⟩
def mX3_seen : Mt := (yX3_seen, cX3_seen, 2, (some .int), 3)
theorem okX3_seen : OkV mX3_seen 1 := ⟨⟨lw_in 444 (by decide +kernel) (by decide +kernel), lw_in 54 (by decide +kernel) (by decide +kernel), ⟨by decide, by decide, by decide +kernel⟩, by decide, by decide, by decide⟩, lw_in 442 (by decide +kernel) (by decide +kernel), lw_in 443 (by decide +kernel) (by decide +kernel)⟩
def mX3_count : Mt := (yX3_count, cX3_count, 2, (some .int), 3)
theorem okX3_count : OkV mX3_count 1 := ⟨⟨lw_in 448 (by decide +kernel) (by decide +kernel), lw_in 54 (by decide +kernel) (by decide +kernel), ⟨by decide, by decide, by decide +kernel⟩, by decide, by decide, by decide⟩, lw_in 446 (by decide +kernel) (by decide +kernel), lw_in 447 (by decide +kernel) (by decide +kernel)⟩
def mX3_digest : Mt := (yX3_digest, cX3_digest, 4, (some .long), 3)
theorem okX3_digest : OkV mX3_digest 0 := ⟨⟨lw_in 478 (by decide +kernel) (by decide +kernel), lw_in 54 (by decide +kernel) (by decide +kernel), ⟨by decide, by decide, by decide +kernel⟩, by decide, by decide, by decide⟩, lw_in 476 (by decide +kernel) (by decide +kernel), lw_in 477 (by decide +kernel) (by decide +kernel)⟩
def mX3_joinCell : Mt := (yX3_joinCell, cX3_joinCell, 7, (some .long), 3)
theorem okX3_joinCell : OkV mX3_joinCell 2 := ⟨⟨lw_in 483 (by decide +kernel) (by decide +kernel), lw_in 54 (by decide +kernel) (by decide +kernel), ⟨by decide, by decide, by decide +kernel⟩, by decide, by decide, by decide⟩, lw_in 482 (by decide +kernel) (by decide +kernel), lw_in 19 (by decide +kernel) (by decide +kernel)⟩
def mX3_joinFound : Mt := (yX3_joinFound, cX3_joinFound, 10, (some .long), 3)
theorem okX3_joinFound : OkV mX3_joinFound 4 := ⟨⟨lw_in 493 (by decide +kernel) (by decide +kernel), lw_in 54 (by decide +kernel) (by decide +kernel), ⟨by decide, by decide, by decide +kernel⟩, by decide, by decide, by decide⟩, lw_in 492 (by decide +kernel) (by decide +kernel), lw_in 20 (by decide +kernel) (by decide +kernel)⟩
def mX3_join : Mt := (yX3_join, cX3_join, 4, (some .long), 3)
theorem okX3_join : OkS mX3_join 2 := ⟨⟨lw_in 487 (by decide +kernel) (by decide +kernel), lw_in 54 (by decide +kernel) (by decide +kernel), ⟨by decide, by decide, by decide +kernel⟩, by decide, by decide, by decide⟩, lw_in 486 (by decide +kernel) (by decide +kernel)⟩
def mX3_isSign : Mt := (yX3_isSign, cX3_isSign, 1, (some .boolean), 3)
theorem okX3_isSign : OkS mX3_isSign 1 := ⟨⟨lw_in 253 (by decide +kernel) (by decide +kernel), lw_in 54 (by decide +kernel) (by decide +kernel), ⟨by decide, by decide, by decide +kernel⟩, by decide, by decide, by decide⟩, lw_in 252 (by decide +kernel) (by decide +kernel)⟩
def mX3_isFigure : Mt := (yX3_isFigure, cX3_isFigure, 1, (some .boolean), 3)
theorem okX3_isFigure : OkS mX3_isFigure 1 := ⟨⟨lw_in 256 (by decide +kernel) (by decide +kernel), lw_in 54 (by decide +kernel) (by decide +kernel), ⟨by decide, by decide, by decide +kernel⟩, by decide, by decide, by decide⟩, lw_in 255 (by decide +kernel) (by decide +kernel)⟩
def mX3_isFault : Mt := (yX3_isFault, cX3_isFault, 5, (some .boolean), 3)
theorem okX3_isFault : OkV mX3_isFault 4 := ⟨⟨lw_in 324 (by decide +kernel) (by decide +kernel), lw_in 54 (by decide +kernel) (by decide +kernel), ⟨by decide, by decide, by decide +kernel⟩, by decide, by decide, by decide⟩, lw_in 323 (by decide +kernel) (by decide +kernel), lw_in 3 (by decide +kernel) (by decide +kernel)⟩
def mX3_isPart : Mt := (yX3_isPart, cX3_isPart, 7, (some .boolean), 3)
theorem okX3_isPart : OkS mX3_isPart 3 := ⟨⟨lw_in 331 (by decide +kernel) (by decide +kernel), lw_in 54 (by decide +kernel) (by decide +kernel), ⟨by decide, by decide, by decide +kernel⟩, by decide, by decide, by decide⟩, lw_in 330 (by decide +kernel) (by decide +kernel)⟩
def mX3_partsOf : Mt := (yX3_partsOf, cX3_partsOf, 1, (some .int), 3)
theorem okX3_partsOf : OkS mX3_partsOf 1 := ⟨⟨lw_in 334 (by decide +kernel) (by decide +kernel), lw_in 54 (by decide +kernel) (by decide +kernel), ⟨by decide, by decide, by decide +kernel⟩, by decide, by decide, by decide⟩, lw_in 333 (by decide +kernel) (by decide +kernel)⟩
def mX3_runWithout : Mt := (yX3_runWithout, cX3_runWithout, 2, (some .int), 3)
theorem okX3_runWithout : OkV mX3_runWithout 1 := ⟨⟨lw_in 338 (by decide +kernel) (by decide +kernel), lw_in 54 (by decide +kernel) (by decide +kernel), ⟨by decide, by decide, by decide +kernel⟩, by decide, by decide, by decide⟩, lw_in 337 (by decide +kernel) (by decide +kernel), lw_in 4 (by decide +kernel) (by decide +kernel)⟩
def mX3_runWith : Mt := (yX3_runWith, cX3_runWith, 5, (some .int), 3)
theorem okX3_runWith : OkV mX3_runWith 3 := ⟨⟨lw_in 400 (by decide +kernel) (by decide +kernel), lw_in 54 (by decide +kernel) (by decide +kernel), ⟨by decide, by decide, by decide +kernel⟩, by decide, by decide, by decide⟩, lw_in 399 (by decide +kernel) (by decide +kernel), lw_in 14 (by decide +kernel) (by decide +kernel)⟩
def mX3_lastBits : Mt := (yX3_lastBits, cX3_lastBits, 5, (some .int), 3)
theorem okX3_lastBits : OkV mX3_lastBits 0 := ⟨⟨lw_in 342 (by decide +kernel) (by decide +kernel), lw_in 54 (by decide +kernel) (by decide +kernel), ⟨by decide, by decide, by decide +kernel⟩, by decide, by decide, by decide⟩, lw_in 341 (by decide +kernel) (by decide +kernel), lw_in 5 (by decide +kernel) (by decide +kernel)⟩
def mX3_ops : Mt := (yX3_ops, cX3_ops, 4, (some .int), 3)
theorem okX3_ops : OkV mX3_ops 0 := ⟨⟨lw_in 452 (by decide +kernel) (by decide +kernel), lw_in 54 (by decide +kernel) (by decide +kernel), ⟨by decide, by decide, by decide +kernel⟩, by decide, by decide, by decide⟩, lw_in 451 (by decide +kernel) (by decide +kernel), lw_in 15 (by decide +kernel) (by decide +kernel)⟩
def mX3_bound : Mt := (yX3_bound, cX3_bound, 1, (some .int), 3)
theorem okX3_bound : OkV mX3_bound 0 := ⟨⟨lw_in 466 (by decide +kernel) (by decide +kernel), lw_in 54 (by decide +kernel) (by decide +kernel), ⟨by decide, by decide, by decide +kernel⟩, by decide, by decide, by decide⟩, lw_in 465 (by decide +kernel) (by decide +kernel), lw_in 17 (by decide +kernel) (by decide +kernel)⟩
def mX3_lowered : Mt := (yX3_lowered, cX3_lowered, 3, (some .int), 3)
theorem okX3_lowered : OkV mX3_lowered 1 := ⟨⟨lw_in 462 (by decide +kernel) (by decide +kernel), lw_in 54 (by decide +kernel) (by decide +kernel), ⟨by decide, by decide, by decide +kernel⟩, by decide, by decide, by decide⟩, lw_in 461 (by decide +kernel) (by decide +kernel), lw_in 16 (by decide +kernel) (by decide +kernel)⟩
def mX3_commonDivisor : Mt := (yX3_commonDivisor, cX3_commonDivisor, 6, (some .int), 3)
theorem okX3_commonDivisor : OkS mX3_commonDivisor 2 := ⟨⟨lw_in 116 (by decide +kernel) (by decide +kernel), lw_in 54 (by decide +kernel) (by decide +kernel), ⟨by decide, by decide, by decide +kernel⟩, by decide, by decide, by decide⟩, lw_in 115 (by decide +kernel) (by decide +kernel)⟩
def mX3_cellsSeenWhole : Mt := (yX3_cellsSeenWhole, cX3_cellsSeenWhole, 4, (some .int), 3)
theorem okX3_cellsSeenWhole : OkV mX3_cellsSeenWhole 0 := ⟨⟨lw_in 471 (by decide +kernel) (by decide +kernel), lw_in 54 (by decide +kernel) (by decide +kernel), ⟨by decide, by decide, by decide +kernel⟩, by decide, by decide, by decide⟩, lw_in 470 (by decide +kernel) (by decide +kernel), lw_in 18 (by decide +kernel) (by decide +kernel)⟩
def mX3_sightsDue : Mt := (yX3_sightsDue, cX3_sightsDue, 3, (some .int), 3)
theorem okX3_sightsDue : OkS mX3_sightsDue 1 := ⟨⟨lw_in 474 (by decide +kernel) (by decide +kernel), lw_in 54 (by decide +kernel) (by decide +kernel), ⟨by decide, by decide, by decide +kernel⟩, by decide, by decide, by decide⟩, lw_in 473 (by decide +kernel) (by decide +kernel)⟩
def mX4_init : Mt := (yX4_init, cX4_init, 1, none, 4)
theorem okX4_init : OkI mX4_init 0 := ⟨⟨lw_in 502 (by decide +kernel) (by decide +kernel), lw_in 58 (by decide +kernel) (by decide +kernel), ⟨by decide, by decide, by decide +kernel⟩, by decide, by decide, by decide⟩, by decide, lw_in 501 (by decide +kernel) (by decide +kernel)⟩
def mX4_within : Mt := (yX4_within, cX4_within, 3, (some .boolean), 4)
theorem okX4_within : OkS mX4_within 3 := ⟨⟨lw_in 593 (by decide +kernel) (by decide +kernel), lw_in 58 (by decide +kernel) (by decide +kernel), ⟨by decide, by decide, by decide +kernel⟩, by decide, by decide, by decide⟩, lw_in 592 (by decide +kernel) (by decide +kernel)⟩
def mX4_has : Mt := (yX4_has, cX4_has, 2, (some .boolean), 4)
theorem okX4_has : OkS mX4_has 2 := ⟨⟨lw_in 690 (by decide +kernel) (by decide +kernel), lw_in 58 (by decide +kernel) (by decide +kernel), ⟨by decide, by decide, by decide +kernel⟩, by decide, by decide, by decide⟩, lw_in 689 (by decide +kernel) (by decide +kernel)⟩
def mX4_ones : Mt := (yX4_ones, cX4_ones, 3, (some .int), 4)
theorem okX4_ones : OkS mX4_ones 1 := ⟨⟨lw_in 733 (by decide +kernel) (by decide +kernel), lw_in 58 (by decide +kernel) (by decide +kernel), ⟨by decide, by decide, by decide +kernel⟩, by decide, by decide, by decide⟩, lw_in 732 (by decide +kernel) (by decide +kernel)⟩
def mX4_letter : Mt := (yX4_letter, cX4_letter, 2, (some .int), 4)
theorem okX4_letter : OkV mX4_letter 1 := ⟨⟨lw_in 590 (by decide +kernel) (by decide +kernel), lw_in 58 (by decide +kernel) (by decide +kernel), ⟨by decide, by decide, by decide +kernel⟩, by decide, by decide, by decide⟩, lw_in 588 (by decide +kernel) (by decide +kernel), lw_in 589 (by decide +kernel) (by decide +kernel)⟩
def mX4_blank : Mt := (yX4_blank, cX4_blank, 2, (some .int), 4)
theorem okX4_blank : OkV mX4_blank 0 := ⟨⟨lw_in 597 (by decide +kernel) (by decide +kernel), lw_in 58 (by decide +kernel) (by decide +kernel), ⟨by decide, by decide, by decide +kernel⟩, by decide, by decide, by decide⟩, lw_in 595 (by decide +kernel) (by decide +kernel), lw_in 596 (by decide +kernel) (by decide +kernel)⟩
def mX4_isSign : Mt := (yX4_isSign, cX4_isSign, 1, (some .boolean), 4)
theorem okX4_isSign : OkS mX4_isSign 1 := ⟨⟨lw_in 604 (by decide +kernel) (by decide +kernel), lw_in 58 (by decide +kernel) (by decide +kernel), ⟨by decide, by decide, by decide +kernel⟩, by decide, by decide, by decide⟩, lw_in 603 (by decide +kernel) (by decide +kernel)⟩
def mX4_fault : Mt := (yX4_fault, cX4_fault, 2, (some .int), 4)
theorem okX4_fault : OkV mX4_fault 0 := ⟨⟨lw_in 601 (by decide +kernel) (by decide +kernel), lw_in 58 (by decide +kernel) (by decide +kernel), ⟨by decide, by decide, by decide +kernel⟩, by decide, by decide, by decide⟩, lw_in 599 (by decide +kernel) (by decide +kernel), lw_in 600 (by decide +kernel) (by decide +kernel)⟩
def mX4_test : Mt := (yX4_test, cX4_test, 2, (some .int), 4)
theorem okX4_test : OkV mX4_test 0 := ⟨⟨lw_in 608 (by decide +kernel) (by decide +kernel), lw_in 58 (by decide +kernel) (by decide +kernel), ⟨by decide, by decide, by decide +kernel⟩, by decide, by decide, by decide⟩, lw_in 606 (by decide +kernel) (by decide +kernel), lw_in 607 (by decide +kernel) (by decide +kernel)⟩
def mX4_gray : Mt := (yX4_gray, cX4_gray, 3, (some .int), 4)
theorem okX4_gray : OkV mX4_gray 0 := ⟨⟨lw_in 617 (by decide +kernel) (by decide +kernel), lw_in 58 (by decide +kernel) (by decide +kernel), ⟨by decide, by decide, by decide +kernel⟩, by decide, by decide, by decide⟩, lw_in 615 (by decide +kernel) (by decide +kernel), lw_in 616 (by decide +kernel) (by decide +kernel)⟩
def mX4_step : Mt := (yX4_step, cX4_step, 2, (some .int), 4)
theorem okX4_step : OkV mX4_step 1 := ⟨⟨lw_in 621 (by decide +kernel) (by decide +kernel), lw_in 58 (by decide +kernel) (by decide +kernel), ⟨by decide, by decide, by decide +kernel⟩, by decide, by decide, by decide⟩, lw_in 619 (by decide +kernel) (by decide +kernel), lw_in 620 (by decide +kernel) (by decide +kernel)⟩
def mX4_cells : Mt := (yX4_cells, cX4_cells, 1, (some .int), 4)
theorem okX4_cells : OkV mX4_cells 0 := ⟨⟨lw_in 629 (by decide +kernel) (by decide +kernel), lw_in 58 (by decide +kernel) (by decide +kernel), ⟨by decide, by decide, by decide +kernel⟩, by decide, by decide, by decide⟩, lw_in 628 (by decide +kernel) (by decide +kernel), lw_in 22 (by decide +kernel) (by decide +kernel)⟩
def mX4_isCell : Mt := (yX4_isCell, cX4_isCell, 2, (some .boolean), 4)
theorem okX4_isCell : OkV mX4_isCell 1 := ⟨⟨lw_in 648 (by decide +kernel) (by decide +kernel), lw_in 58 (by decide +kernel) (by decide +kernel), ⟨by decide, by decide, by decide +kernel⟩, by decide, by decide, by decide⟩, lw_in 647 (by decide +kernel) (by decide +kernel), lw_in 24 (by decide +kernel) (by decide +kernel)⟩
def mX4_common : Mt := (yX4_common, cX4_common, 5, (some .int), 4)
theorem okX4_common : OkS mX4_common 2 := ⟨⟨lw_in 636 (by decide +kernel) (by decide +kernel), lw_in 58 (by decide +kernel) (by decide +kernel), ⟨by decide, by decide, by decide +kernel⟩, by decide, by decide, by decide⟩, lw_in 635 (by decide +kernel) (by decide +kernel)⟩
def mX4_sheet : Mt := (yX4_sheet, cX4_sheet, 3, (some .int), 4)
theorem okX4_sheet : OkV mX4_sheet 2 := ⟨⟨lw_in 625 (by decide +kernel) (by decide +kernel), lw_in 58 (by decide +kernel) (by decide +kernel), ⟨by decide, by decide, by decide +kernel⟩, by decide, by decide, by decide⟩, lw_in 623 (by decide +kernel) (by decide +kernel), lw_in 624 (by decide +kernel) (by decide +kernel)⟩
def mX4_cellAt : Mt := (yX4_cellAt, cX4_cellAt, 2, (some .int), 4)
theorem okX4_cellAt : OkV mX4_cellAt 1 := ⟨⟨lw_in 640 (by decide +kernel) (by decide +kernel), lw_in 58 (by decide +kernel) (by decide +kernel), ⟨by decide, by decide, by decide +kernel⟩, by decide, by decide, by decide⟩, lw_in 639 (by decide +kernel) (by decide +kernel), lw_in 23 (by decide +kernel) (by decide +kernel)⟩
def mX4_scramble : Mt := (yX4_scramble, cX4_scramble, 7, (some .int), 4)
theorem okX4_scramble : OkV mX4_scramble 3 := ⟨⟨lw_in 633 (by decide +kernel) (by decide +kernel), lw_in 58 (by decide +kernel) (by decide +kernel), ⟨by decide, by decide, by decide +kernel⟩, by decide, by decide, by decide⟩, lw_in 631 (by decide +kernel) (by decide +kernel), lw_in 632 (by decide +kernel) (by decide +kernel)⟩
def mX4_typeOf : Mt := (yX4_typeOf, cX4_typeOf, 2, (some .int), 4)
theorem okX4_typeOf : OkV mX4_typeOf 1 := ⟨⟨lw_in 656 (by decide +kernel) (by decide +kernel), lw_in 58 (by decide +kernel) (by decide +kernel), ⟨by decide, by decide, by decide +kernel⟩, by decide, by decide, by decide⟩, lw_in 655 (by decide +kernel) (by decide +kernel), lw_in 26 (by decide +kernel) (by decide +kernel)⟩
def mX4_addressOf : Mt := (yX4_addressOf, cX4_addressOf, 3, (some .int), 4)
theorem okX4_addressOf : OkV mX4_addressOf 1 := ⟨⟨lw_in 660 (by decide +kernel) (by decide +kernel), lw_in 58 (by decide +kernel) (by decide +kernel), ⟨by decide, by decide, by decide +kernel⟩, by decide, by decide, by decide⟩, lw_in 659 (by decide +kernel) (by decide +kernel), lw_in 27 (by decide +kernel) (by decide +kernel)⟩
def mX4_isTurned : Mt := (yX4_isTurned, cX4_isTurned, 2, (some .int), 4)
theorem okX4_isTurned : OkV mX4_isTurned 1 := ⟨⟨lw_in 664 (by decide +kernel) (by decide +kernel), lw_in 58 (by decide +kernel) (by decide +kernel), ⟨by decide, by decide, by decide +kernel⟩, by decide, by decide, by decide⟩, lw_in 663 (by decide +kernel) (by decide +kernel), lw_in 28 (by decide +kernel) (by decide +kernel)⟩
def mX4_beside : Mt := (yX4_beside, cX4_beside, 5, (some .int), 4)
theorem okX4_beside : OkV mX4_beside 2 := ⟨⟨lw_in 668 (by decide +kernel) (by decide +kernel), lw_in 58 (by decide +kernel) (by decide +kernel), ⟨by decide, by decide, by decide +kernel⟩, by decide, by decide, by decide⟩, lw_in 667 (by decide +kernel) (by decide +kernel), lw_in 29 (by decide +kernel) (by decide +kernel)⟩
def mX4_cellNow : Mt := (yX4_cellNow, cX4_cellNow, 3, (some .int), 4)
theorem okX4_cellNow : OkV mX4_cellNow 2 := ⟨⟨lw_in 652 (by decide +kernel) (by decide +kernel), lw_in 58 (by decide +kernel) (by decide +kernel), ⟨by decide, by decide, by decide +kernel⟩, by decide, by decide, by decide⟩, lw_in 651 (by decide +kernel) (by decide +kernel), lw_in 25 (by decide +kernel) (by decide +kernel)⟩
def mX4_cell : Mt := (yX4_cell, cX4_cell, 3, (some .int), 4)
theorem okX4_cell : OkV mX4_cell 2 := ⟨⟨lw_in 644 (by decide +kernel) (by decide +kernel), lw_in 58 (by decide +kernel) (by decide +kernel), ⟨by decide, by decide, by decide +kernel⟩, by decide, by decide, by decide⟩, lw_in 642 (by decide +kernel) (by decide +kernel), lw_in 643 (by decide +kernel) (by decide +kernel)⟩
def mX4_at : Mt := (yX4_at, cX4_at, 2, (some .int), 4)
theorem okX4_at : OkV mX4_at 1 := ⟨⟨lw_in 672 (by decide +kernel) (by decide +kernel), lw_in 58 (by decide +kernel) (by decide +kernel), ⟨by decide, by decide, by decide +kernel⟩, by decide, by decide, by decide⟩, lw_in 670 (by decide +kernel) (by decide +kernel), lw_in 671 (by decide +kernel) (by decide +kernel)⟩
def mX4_patternOf : Mt := (yX4_patternOf, cX4_patternOf, 5, (some .int), 4)
theorem okX4_patternOf : OkV mX4_patternOf 1 := ⟨⟨lw_in 706 (by decide +kernel) (by decide +kernel), lw_in 58 (by decide +kernel) (by decide +kernel), ⟨by decide, by decide, by decide +kernel⟩, by decide, by decide, by decide⟩, lw_in 705 (by decide +kernel) (by decide +kernel), lw_in 35 (by decide +kernel) (by decide +kernel)⟩
def mX4_besides : Mt := (yX4_besides, cX4_besides, 4, (some .int), 4)
theorem okX4_besides : OkV mX4_besides 1 := ⟨⟨lw_in 687 (by decide +kernel) (by decide +kernel), lw_in 58 (by decide +kernel) (by decide +kernel), ⟨by decide, by decide, by decide +kernel⟩, by decide, by decide, by decide⟩, lw_in 686 (by decide +kernel) (by decide +kernel), lw_in 31 (by decide +kernel) (by decide +kernel)⟩
def mX4_widened : Mt := (yX4_widened, cX4_widened, 2, (some .int), 4)
theorem okX4_widened : OkS mX4_widened 2 := ⟨⟨lw_in 683 (by decide +kernel) (by decide +kernel), lw_in 58 (by decide +kernel) (by decide +kernel), ⟨by decide, by decide, by decide +kernel⟩, by decide, by decide, by decide⟩, lw_in 682 (by decide +kernel) (by decide +kernel)⟩
def mX4_layFault : Mt := (yX4_layFault, cX4_layFault, 4, (some .boolean), 4)
theorem okX4_layFault : OkV mX4_layFault 1 := ⟨⟨lw_in 680 (by decide +kernel) (by decide +kernel), lw_in 58 (by decide +kernel) (by decide +kernel), ⟨by decide, by decide, by decide +kernel⟩, by decide, by decide, by decide⟩, lw_in 679 (by decide +kernel) (by decide +kernel), lw_in 30 (by decide +kernel) (by decide +kernel)⟩
def mX4_put : Mt := (yX4_put, cX4_put, 3, none, 4)
theorem okX4_put : OkV mX4_put 2 := ⟨⟨lw_in 710 (by decide +kernel) (by decide +kernel), lw_in 58 (by decide +kernel) (by decide +kernel), ⟨by decide, by decide, by decide +kernel⟩, by decide, by decide, by decide⟩, lw_in 709 (by decide +kernel) (by decide +kernel), lw_in 36 (by decide +kernel) (by decide +kernel)⟩
def mX4_hold : Mt := (yX4_hold, cX4_hold, 1, none, 4)
theorem okX4_hold : OkV mX4_hold 0 := ⟨⟨lw_in 702 (by decide +kernel) (by decide +kernel), lw_in 58 (by decide +kernel) (by decide +kernel), ⟨by decide, by decide, by decide +kernel⟩, by decide, by decide, by decide⟩, lw_in 701 (by decide +kernel) (by decide +kernel), lw_in 34 (by decide +kernel) (by decide +kernel)⟩
def mX4_write : Mt := (yX4_write, cX4_write, 6, none, 4)
theorem okX4_write : OkV mX4_write 2 := ⟨⟨lw_in 730 (by decide +kernel) (by decide +kernel), lw_in 58 (by decide +kernel) (by decide +kernel), ⟨by decide, by decide, by decide +kernel⟩, by decide, by decide, by decide⟩, lw_in 729 (by decide +kernel) (by decide +kernel), lw_in 41 (by decide +kernel) (by decide +kernel)⟩
def mX4_writeAll : Mt := (yX4_writeAll, cX4_writeAll, 6, none, 4)
theorem okX4_writeAll : OkV mX4_writeAll 2 := ⟨⟨lw_in 726 (by decide +kernel) (by decide +kernel), lw_in 58 (by decide +kernel) (by decide +kernel), ⟨by decide, by decide, by decide +kernel⟩, by decide, by decide, by decide⟩, lw_in 725 (by decide +kernel) (by decide +kernel), lw_in 40 (by decide +kernel) (by decide +kernel)⟩
def mX4_ofType : Mt := (yX4_ofType, cX4_ofType, 4, (some .int), 4)
theorem okX4_ofType : OkV mX4_ofType 1 := ⟨⟨lw_in 722 (by decide +kernel) (by decide +kernel), lw_in 58 (by decide +kernel) (by decide +kernel), ⟨by decide, by decide, by decide +kernel⟩, by decide, by decide, by decide⟩, lw_in 721 (by decide +kernel) (by decide +kernel), lw_in 39 (by decide +kernel) (by decide +kernel)⟩
def mX4_look : Mt := (yX4_look, cX4_look, 4, none, 4)
theorem okX4_look : OkV mX4_look 1 := ⟨⟨lw_in 714 (by decide +kernel) (by decide +kernel), lw_in 58 (by decide +kernel) (by decide +kernel), ⟨by decide, by decide, by decide +kernel⟩, by decide, by decide, by decide⟩, lw_in 713 (by decide +kernel) (by decide +kernel), lw_in 37 (by decide +kernel) (by decide +kernel)⟩
def mX4_layRun : Mt := (yX4_layRun, cX4_layRun, 4, none, 4)
theorem okX4_layRun : OkV mX4_layRun 0 := ⟨⟨lw_in 698 (by decide +kernel) (by decide +kernel), lw_in 58 (by decide +kernel) (by decide +kernel), ⟨by decide, by decide, by decide +kernel⟩, by decide, by decide, by decide⟩, lw_in 697 (by decide +kernel) (by decide +kernel), lw_in 33 (by decide +kernel) (by decide +kernel)⟩
def mX4_laySeen : Mt := (yX4_laySeen, cX4_laySeen, 2, none, 4)
theorem okX4_laySeen : OkV mX4_laySeen 0 := ⟨⟨lw_in 718 (by decide +kernel) (by decide +kernel), lw_in 58 (by decide +kernel) (by decide +kernel), ⟨by decide, by decide, by decide +kernel⟩, by decide, by decide, by decide⟩, lw_in 717 (by decide +kernel) (by decide +kernel), lw_in 38 (by decide +kernel) (by decide +kernel)⟩
def mX4_runNow : Mt := (yX4_runNow, cX4_runNow, 2, (some .int), 4)
theorem okX4_runNow : OkV mX4_runNow 1 := ⟨⟨lw_in 694 (by decide +kernel) (by decide +kernel), lw_in 58 (by decide +kernel) (by decide +kernel), ⟨by decide, by decide, by decide +kernel⟩, by decide, by decide, by decide⟩, lw_in 693 (by decide +kernel) (by decide +kernel), lw_in 32 (by decide +kernel) (by decide +kernel)⟩
def mX4_run : Mt := (yX4_run, cX4_run, 3, (some .int), 4)
theorem okX4_run : OkV mX4_run 2 := ⟨⟨lw_in 676 (by decide +kernel) (by decide +kernel), lw_in 58 (by decide +kernel) (by decide +kernel), ⟨by decide, by decide, by decide +kernel⟩, by decide, by decide, by decide⟩, lw_in 674 (by decide +kernel) (by decide +kernel), lw_in 675 (by decide +kernel) (by decide +kernel)⟩
def mX4_altered : Mt := (yX4_altered, cX4_altered, 2, none, 4)
theorem okX4_altered : OkV mX4_altered 0 := ⟨⟨lw_in 613 (by decide +kernel) (by decide +kernel), lw_in 58 (by decide +kernel) (by decide +kernel), ⟨by decide, by decide, by decide +kernel⟩, by decide, by decide, by decide⟩, lw_in 612 (by decide +kernel) (by decide +kernel), lw_in 21 (by decide +kernel) (by decide +kernel)⟩
def mX4_layFound : Mt := (yX4_layFound, cX4_layFound, 10, none, 4)
theorem okX4_layFound : OkV mX4_layFound 2 := ⟨⟨lw_in 745 (by decide +kernel) (by decide +kernel), lw_in 58 (by decide +kernel) (by decide +kernel), ⟨by decide, by decide, by decide +kernel⟩, by decide, by decide, by decide⟩, lw_in 744 (by decide +kernel) (by decide +kernel), lw_in 43 (by decide +kernel) (by decide +kernel)⟩
def mX4_foundNow : Mt := (yX4_foundNow, cX4_foundNow, 4, (some .int), 4)
theorem okX4_foundNow : OkV mX4_foundNow 3 := ⟨⟨lw_in 741 (by decide +kernel) (by decide +kernel), lw_in 58 (by decide +kernel) (by decide +kernel), ⟨by decide, by decide, by decide +kernel⟩, by decide, by decide, by decide⟩, lw_in 740 (by decide +kernel) (by decide +kernel), lw_in 42 (by decide +kernel) (by decide +kernel)⟩
def mX4_found : Mt := (yX4_found, cX4_found, 4, (some .int), 4)
theorem okX4_found : OkV mX4_found 3 := ⟨⟨lw_in 737 (by decide +kernel) (by decide +kernel), lw_in 58 (by decide +kernel) (by decide +kernel), ⟨by decide, by decide, by decide +kernel⟩, by decide, by decide, by decide⟩, lw_in 735 (by decide +kernel) (by decide +kernel), lw_in 736 (by decide +kernel) (by decide +kernel)⟩
def mX4_layAllSeen : Mt := (yX4_layAllSeen, cX4_layAllSeen, 2, none, 4)
theorem okX4_layAllSeen : OkV mX4_layAllSeen 0 := ⟨⟨lw_in 753 (by decide +kernel) (by decide +kernel), lw_in 58 (by decide +kernel) (by decide +kernel), ⟨by decide, by decide, by decide +kernel⟩, by decide, by decide, by decide⟩, lw_in 752 (by decide +kernel) (by decide +kernel), lw_in 44 (by decide +kernel) (by decide +kernel)⟩
def mX4_seen : Mt := (yX4_seen, cX4_seen, 2, (some .int), 4)
theorem okX4_seen : OkV mX4_seen 1 := ⟨⟨lw_in 749 (by decide +kernel) (by decide +kernel), lw_in 58 (by decide +kernel) (by decide +kernel), ⟨by decide, by decide, by decide +kernel⟩, by decide, by decide, by decide⟩, lw_in 747 (by decide +kernel) (by decide +kernel), lw_in 748 (by decide +kernel) (by decide +kernel)⟩
def mX4_ops : Mt := (yX4_ops, cX4_ops, 3, (some .int), 4)
theorem okX4_ops : OkV mX4_ops 0 := ⟨⟨lw_in 765 (by decide +kernel) (by decide +kernel), lw_in 58 (by decide +kernel) (by decide +kernel), ⟨by decide, by decide, by decide +kernel⟩, by decide, by decide, by decide⟩, lw_in 764 (by decide +kernel) (by decide +kernel), lw_in 46 (by decide +kernel) (by decide +kernel)⟩
def mX4_byBound : Mt := (yX4_byBound, cX4_byBound, 4, (some .int), 4)
theorem okX4_byBound : OkV mX4_byBound 1 := ⟨⟨lw_in 769 (by decide +kernel) (by decide +kernel), lw_in 58 (by decide +kernel) (by decide +kernel), ⟨by decide, by decide, by decide +kernel⟩, by decide, by decide, by decide⟩, lw_in 768 (by decide +kernel) (by decide +kernel), lw_in 47 (by decide +kernel) (by decide +kernel)⟩
def mX4_isWhole : Mt := (yX4_isWhole, cX4_isWhole, 4, (some .boolean), 4)
theorem okX4_isWhole : OkV mX4_isWhole 1 := ⟨⟨lw_in 777 (by decide +kernel) (by decide +kernel), lw_in 58 (by decide +kernel) (by decide +kernel), ⟨by decide, by decide, by decide +kernel⟩, by decide, by decide, by decide⟩, lw_in 776 (by decide +kernel) (by decide +kernel), lw_in 49 (by decide +kernel) (by decide +kernel)⟩
def mX4_wholes : Mt := (yX4_wholes, cX4_wholes, 3, (some .int), 4)
theorem okX4_wholes : OkV mX4_wholes 0 := ⟨⟨lw_in 773 (by decide +kernel) (by decide +kernel), lw_in 58 (by decide +kernel) (by decide +kernel), ⟨by decide, by decide, by decide +kernel⟩, by decide, by decide, by decide⟩, lw_in 772 (by decide +kernel) (by decide +kernel), lw_in 48 (by decide +kernel) (by decide +kernel)⟩
def mX4_howMany : Mt := (yX4_howMany, cX4_howMany, 2, (some .int), 4)
theorem okX4_howMany : OkV mX4_howMany 1 := ⟨⟨lw_in 761 (by decide +kernel) (by decide +kernel), lw_in 58 (by decide +kernel) (by decide +kernel), ⟨by decide, by decide, by decide +kernel⟩, by decide, by decide, by decide⟩, lw_in 760 (by decide +kernel) (by decide +kernel), lw_in 45 (by decide +kernel) (by decide +kernel)⟩
def mX4_count : Mt := (yX4_count, cX4_count, 2, (some .int), 4)
theorem okX4_count : OkV mX4_count 1 := ⟨⟨lw_in 757 (by decide +kernel) (by decide +kernel), lw_in 58 (by decide +kernel) (by decide +kernel), ⟨by decide, by decide, by decide +kernel⟩, by decide, by decide, by decide⟩, lw_in 755 (by decide +kernel) (by decide +kernel), lw_in 756 (by decide +kernel) (by decide +kernel)⟩
def mX4_mix : Mt := (yX4_mix, cX4_mix, 3, none, 4)
theorem okX4_mix : OkV mX4_mix 1 := ⟨⟨lw_in 790 (by decide +kernel) (by decide +kernel), lw_in 58 (by decide +kernel) (by decide +kernel), ⟨by decide, by decide, by decide +kernel⟩, by decide, by decide, by decide⟩, lw_in 789 (by decide +kernel) (by decide +kernel), lw_in 51 (by decide +kernel) (by decide +kernel)⟩
def mX4_mixFound : Mt := (yX4_mixFound, cX4_mixFound, 4, none, 4)
theorem okX4_mixFound : OkV mX4_mixFound 2 := ⟨⟨lw_in 795 (by decide +kernel) (by decide +kernel), lw_in 58 (by decide +kernel) (by decide +kernel), ⟨by decide, by decide, by decide +kernel⟩, by decide, by decide, by decide⟩, lw_in 794 (by decide +kernel) (by decide +kernel), lw_in 52 (by decide +kernel) (by decide +kernel)⟩
def mX4_mixCells : Mt := (yX4_mixCells, cX4_mixCells, 3, none, 4)
theorem okX4_mixCells : OkV mX4_mixCells 0 := ⟨⟨lw_in 786 (by decide +kernel) (by decide +kernel), lw_in 58 (by decide +kernel) (by decide +kernel), ⟨by decide, by decide, by decide +kernel⟩, by decide, by decide, by decide⟩, lw_in 785 (by decide +kernel) (by decide +kernel), lw_in 50 (by decide +kernel) (by decide +kernel)⟩
def mX4_digest : Mt := (yX4_digest, cX4_digest, 2, (some .long), 4)
theorem okX4_digest : OkV mX4_digest 0 := ⟨⟨lw_in 781 (by decide +kernel) (by decide +kernel), lw_in 58 (by decide +kernel) (by decide +kernel), ⟨by decide, by decide, by decide +kernel⟩, by decide, by decide, by decide⟩, lw_in 779 (by decide +kernel) (by decide +kernel), lw_in 780 (by decide +kernel) (by decide +kernel)⟩
def mJ6_numberOfTrailingZeros_0f7a4 : Mt := (yJ6_numberOfTrailingZeros_0f7a4, cJ6_numberOfTrailingZeros_0f7a4, 2, (some .int), 6)
theorem okJ6_numberOfTrailingZeros_0f7a4 : OkS mJ6_numberOfTrailingZeros_0f7a4 1 := ⟨⟨lw_in 272 (by decide +kernel) (by decide +kernel), lw_in 59 (by decide +kernel) (by decide +kernel), ⟨by decide, by decide, by decide +kernel⟩, by decide, by decide, by decide⟩, lw_in 271 (by decide +kernel) (by decide +kernel)⟩
def mJ6_bitCount_0f7a4 : Mt := (yJ6_bitCount_0f7a4, cJ6_bitCount_0f7a4, 1, (some .int), 6)
theorem okJ6_bitCount_0f7a4 : OkS mJ6_bitCount_0f7a4 1 := ⟨⟨lw_in 455 (by decide +kernel) (by decide +kernel), lw_in 59 (by decide +kernel) (by decide +kernel), ⟨by decide, by decide, by decide +kernel⟩, by decide, by decide, by decide⟩, lw_in 454 (by decide +kernel) (by decide +kernel)⟩
theorem lkL_9 : LkM (oN 5) 9 yX3_init := Or.inl (lw_in 63 (by decide +kernel) (by decide +kernel))
theorem lkX3_9 : LkM (oN 3) 9 yX2_init := Or.inr (List.mem_of_getElem? (i := 0) (by decide +kernel))
theorem lkX3_21 : LkM (oN 3) 21 yX1_init := Or.inl (lw_in 87 (by decide +kernel) (by decide +kernel))
theorem lkX1_33 : LkM (oN 1) 33 yX1_lay := Or.inl (lw_in 91 (by decide +kernel) (by decide +kernel))
theorem lkX1_37 : LkM (oN 1) 37 yX1_isSide := Or.inl (lw_in 95 (by decide +kernel) (by decide +kernel))
theorem lkX1_51 : LkM (oN 1) 51 yX1_layCell := Or.inl (lw_in 98 (by decide +kernel) (by decide +kernel))
theorem lkX1_59 : LkM (oN 1) 59 yX1_has := Or.inl (lw_in 102 (by decide +kernel) (by decide +kernel))
theorem lkX1_62 : LkM (oN 1) 62 yX1_layBeside := Or.inl (lw_in 106 (by decide +kernel) (by decide +kernel))
theorem lkX1_55 : LkM (oN 1) 55 yX1_mix := Or.inl (lw_in 110 (by decide +kernel) (by decide +kernel))
theorem lkX1_66 : LkM (oN 1) 66 yX3_commonDivisor := Or.inr (List.mem_of_getElem? (i := 3) (by decide +kernel))
theorem lkX1_79 : LkM (oN 1) 79 yX1_setAddress := Or.inl (lw_in 117 (by decide +kernel) (by decide +kernel))
theorem lkX3_28 : LkM (oN 3) 28 yX0_init := Or.inr (List.mem_of_getElem? (i := 10) (by decide +kernel))
theorem lkL_13 : LkM (oN 5) 13 yX3_letter := Or.inl (lw_in 227 (by decide +kernel) (by decide +kernel))
theorem lkX3_37 : LkM (oN 3) 37 yX2_add := Or.inl (lw_in 231 (by decide +kernel) (by decide +kernel))
theorem lkL_18 : LkM (oN 5) 18 yX3_blank := Or.inl (lw_in 235 (by decide +kernel) (by decide +kernel))
theorem lkX3_41 : LkM (oN 3) 41 yX2_clear := Or.inl (lw_in 239 (by decide +kernel) (by decide +kernel))
theorem lkL_23 : LkM (oN 5) 23 yX3_fault := Or.inl (lw_in 243 (by decide +kernel) (by decide +kernel))
theorem lkX3_44 : LkM (oN 3) 44 yX2_get := Or.inl (lw_in 247 (by decide +kernel) (by decide +kernel))
theorem lkX3_48 : LkM (oN 3) 48 yX3_isSign := Or.inl (lw_in 251 (by decide +kernel) (by decide +kernel))
theorem lkX3_185 : LkM (oN 3) 185 yX3_isFigure := Or.inl (lw_in 254 (by decide +kernel) (by decide +kernel))
theorem lkL_27 : LkM (oN 5) 27 yX3_test := Or.inl (lw_in 257 (by decide +kernel) (by decide +kernel))
theorem lkX3_52 : LkM (oN 3) 52 yX3_fault := Or.inl (lw_in 261 (by decide +kernel) (by decide +kernel))
theorem lkX3_56 : LkM (oN 3) 56 yX0_forget := Or.inl (lw_in 262 (by decide +kernel) (by decide +kernel))
theorem lkL_31 : LkM (oN 5) 31 yX3_gray := Or.inl (lw_in 266 (by decide +kernel) (by decide +kernel))
theorem lkX3_59 : LkM (oN 3) 59 yJ6_numberOfTrailingZeros_0f7a4 := Or.inl (lw_in 270 (by decide +kernel) (by decide +kernel))
theorem lkL_35 : LkM (oN 5) 35 yX3_step := Or.inl (lw_in 274 (by decide +kernel) (by decide +kernel))
theorem lkL_39 : LkM (oN 5) 39 yX3_sheet := Or.inl (lw_in 278 (by decide +kernel) (by decide +kernel))
theorem lkX3_64 : LkM (oN 3) 64 yX1_lay := Or.inl (lw_in 282 (by decide +kernel) (by decide +kernel))
theorem lkL_44 : LkM (oN 5) 44 yX3_scramble := Or.inl (lw_in 283 (by decide +kernel) (by decide +kernel))
theorem lkX3_71 : LkM (oN 3) 71 yX1_mix := Or.inl (lw_in 287 (by decide +kernel) (by decide +kernel))
theorem lkX3_75 : LkM (oN 3) 75 yX1_cellOf := Or.inl (lw_in 288 (by decide +kernel) (by decide +kernel))
theorem lkL_49 : LkM (oN 5) 49 yX3_cell := Or.inl (lw_in 292 (by decide +kernel) (by decide +kernel))
theorem lkX3_78 : LkM (oN 3) 78 yX1_has := Or.inl (lw_in 296 (by decide +kernel) (by decide +kernel))
theorem lkX3_81 : LkM (oN 3) 81 yX1_typeOf := Or.inl (lw_in 297 (by decide +kernel) (by decide +kernel))
theorem lkX3_84 : LkM (oN 3) 84 yX1_addressOf := Or.inl (lw_in 301 (by decide +kernel) (by decide +kernel))
theorem lkX3_87 : LkM (oN 3) 87 yX1_turnedAt := Or.inl (lw_in 305 (by decide +kernel) (by decide +kernel))
theorem lkX3_90 : LkM (oN 3) 90 yX1_beside := Or.inl (lw_in 309 (by decide +kernel) (by decide +kernel))
theorem lkL_53 : LkM (oN 5) 53 yX3_at := Or.inl (lw_in 313 (by decide +kernel) (by decide +kernel))
theorem lkL_57 : LkM (oN 5) 57 yX3_run := Or.inl (lw_in 317 (by decide +kernel) (by decide +kernel))
theorem lkX3_94 : LkM (oN 3) 94 yX3_isFault := Or.inl (lw_in 321 (by decide +kernel) (by decide +kernel))
theorem lkX3_188 : LkM (oN 3) 188 yX1_there := Or.inl (lw_in 325 (by decide +kernel) (by decide +kernel))
theorem lkX3_191 : LkM (oN 3) 191 yX3_isPart := Or.inl (lw_in 329 (by decide +kernel) (by decide +kernel))
theorem lkX3_194 : LkM (oN 3) 194 yX3_partsOf := Or.inl (lw_in 332 (by decide +kernel) (by decide +kernel))
theorem lkX3_98 : LkM (oN 3) 98 yX3_runWithout := Or.inl (lw_in 335 (by decide +kernel) (by decide +kernel))
theorem lkX3_197 : LkM (oN 3) 197 yX3_lastBits := Or.inl (lw_in 339 (by decide +kernel) (by decide +kernel))
theorem lkX3_212 : LkM (oN 3) 212 yX1_cellsOfType := Or.inl (lw_in 343 (by decide +kernel) (by decide +kernel))
theorem lkX3_101 : LkM (oN 3) 101 yX0_work := Or.inl (lw_in 347 (by decide +kernel) (by decide +kernel))
theorem lkX0_38 : LkM (oN 0) 38 yX0_begin := Or.inl (lw_in 351 (by decide +kernel) (by decide +kernel))
theorem lkX0_61 : LkM (oN 0) 61 yX3_partsOf := Or.inr (List.mem_of_getElem? (i := 12) (by decide +kernel))
theorem lkX0_73 : LkM (oN 0) 73 yX1_there := Or.inl (lw_in 359 (by decide +kernel) (by decide +kernel))
theorem lkX0_89 : LkM (oN 0) 89 yX1_beside := Or.inl (lw_in 360 (by decide +kernel) (by decide +kernel))
theorem lkX0_92 : LkM (oN 0) 92 yX1_typeOf := Or.inl (lw_in 361 (by decide +kernel) (by decide +kernel))
theorem lkX0_42 : LkM (oN 0) 42 yX0_hold := Or.inl (lw_in 362 (by decide +kernel) (by decide +kernel))
theorem lkX0_50 : LkM (oN 0) 50 yX2_get := Or.inl (lw_in 366 (by decide +kernel) (by decide +kernel))
theorem lkX0_54 : LkM (oN 0) 54 yX0_readAll := Or.inl (lw_in 367 (by decide +kernel) (by decide +kernel))
theorem lkX0_58 : LkM (oN 0) 58 yX0_writeAll := Or.inl (lw_in 371 (by decide +kernel) (by decide +kernel))
theorem lkX0_98 : LkM (oN 0) 98 yX0_isWritten := Or.inl (lw_in 377 (by decide +kernel) (by decide +kernel))
theorem lkX0_109 : LkM (oN 0) 109 yX3_isFigure := Or.inr (List.mem_of_getElem? (i := 13) (by decide +kernel))
theorem lkX0_102 : LkM (oN 0) 102 yX0_writeItself := Or.inl (lw_in 382 (by decide +kernel) (by decide +kernel))
theorem lkX0_113 : LkM (oN 0) 113 yX0_written := Or.inl (lw_in 386 (by decide +kernel) (by decide +kernel))
theorem lkX0_105 : LkM (oN 0) 105 yX0_writeBeside := Or.inl (lw_in 389 (by decide +kernel) (by decide +kernel))
theorem lkX0_116 : LkM (oN 0) 116 yX0_turn := Or.inl (lw_in 393 (by decide +kernel) (by decide +kernel))
theorem lkX3_105 : LkM (oN 3) 105 yX3_runWith := Or.inl (lw_in 397 (by decide +kernel) (by decide +kernel))
theorem lkX3_200 : LkM (oN 3) 200 yX0_missesOf := Or.inl (lw_in 401 (by decide +kernel) (by decide +kernel))
theorem lkX3_203 : LkM (oN 3) 203 yX0_firstStepOf := Or.inl (lw_in 405 (by decide +kernel) (by decide +kernel))
theorem lkX3_206 : LkM (oN 3) 206 yX0_firstReadOf := Or.inl (lw_in 409 (by decide +kernel) (by decide +kernel))
theorem lkX3_209 : LkM (oN 3) 209 yX0_lastBitOf := Or.inl (lw_in 413 (by decide +kernel) (by decide +kernel))
theorem lkL_61 : LkM (oN 5) 61 yX3_found := Or.inl (lw_in 417 (by decide +kernel) (by decide +kernel))
theorem lkX3_109 : LkM (oN 3) 109 yX0_howMany := Or.inl (lw_in 421 (by decide +kernel) (by decide +kernel))
theorem lkX0_119 : LkM (oN 0) 119 yX3_isPart := Or.inr (List.mem_of_getElem? (i := 14) (by decide +kernel))
theorem lkX3_112 : LkM (oN 3) 112 yX0_howManyMissed := Or.inl (lw_in 426 (by decide +kernel) (by decide +kernel))
theorem lkX3_115 : LkM (oN 3) 115 yX0_leastHidden := Or.inl (lw_in 430 (by decide +kernel) (by decide +kernel))
theorem lkX3_118 : LkM (oN 3) 118 yX0_latestFirst := Or.inl (lw_in 434 (by decide +kernel) (by decide +kernel))
theorem lkL_65 : LkM (oN 5) 65 yX3_seen := Or.inl (lw_in 441 (by decide +kernel) (by decide +kernel))
theorem lkL_69 : LkM (oN 5) 69 yX3_count := Or.inl (lw_in 445 (by decide +kernel) (by decide +kernel))
theorem lkX3_139 : LkM (oN 3) 139 yX3_ops := Or.inl (lw_in 449 (by decide +kernel) (by decide +kernel))
theorem lkX3_215 : LkM (oN 3) 215 yJ6_bitCount_0f7a4 := Or.inl (lw_in 453 (by decide +kernel) (by decide +kernel))
theorem lkX3_142 : LkM (oN 3) 142 yX3_lowered := Or.inl (lw_in 459 (by decide +kernel) (by decide +kernel))
theorem lkX3_145 : LkM (oN 3) 145 yX3_bound := Or.inl (lw_in 463 (by decide +kernel) (by decide +kernel))
theorem lkX3_218 : LkM (oN 3) 218 yX3_commonDivisor := Or.inl (lw_in 467 (by decide +kernel) (by decide +kernel))
theorem lkX3_148 : LkM (oN 3) 148 yX3_cellsSeenWhole := Or.inl (lw_in 468 (by decide +kernel) (by decide +kernel))
theorem lkX3_221 : LkM (oN 3) 221 yX3_sightsDue := Or.inl (lw_in 472 (by decide +kernel) (by decide +kernel))
theorem lkL_73 : LkM (oN 5) 73 yX3_digest := Or.inl (lw_in 475 (by decide +kernel) (by decide +kernel))
theorem lkX3_153 : LkM (oN 3) 153 yX3_joinCell := Or.inl (lw_in 480 (by decide +kernel) (by decide +kernel))
theorem lkX3_174 : LkM (oN 3) 174 yX3_cell := Or.inl (lw_in 484 (by decide +kernel) (by decide +kernel))
theorem lkX3_164 : LkM (oN 3) 164 yX3_join := Or.inl (lw_in 485 (by decide +kernel) (by decide +kernel))
theorem lkX3_177 : LkM (oN 3) 177 yX3_seen := Or.inl (lw_in 489 (by decide +kernel) (by decide +kernel))
theorem lkX3_157 : LkM (oN 3) 157 yX3_joinFound := Or.inl (lw_in 490 (by decide +kernel) (by decide +kernel))
theorem lkX3_180 : LkM (oN 3) 180 yX3_found := Or.inl (lw_in 494 (by decide +kernel) (by decide +kernel))
theorem lkX3_161 : LkM (oN 3) 161 yX3_at := Or.inl (lw_in 495 (by decide +kernel) (by decide +kernel))
theorem lkX3_168 : LkM (oN 3) 168 yX3_run := Or.inl (lw_in 496 (by decide +kernel) (by decide +kernel))
theorem lkX3_171 : LkM (oN 3) 171 yX3_count := Or.inl (lw_in 497 (by decide +kernel) (by decide +kernel))
theorem lkL_12 : LkM (oN 5) 12 yX4_init := Or.inl (lw_in 500 (by decide +kernel) (by decide +kernel))
theorem lkL_17 : LkM (oN 5) 17 yX4_letter := Or.inl (lw_in 587 (by decide +kernel) (by decide +kernel))
theorem lkX4_36 : LkM (oN 4) 36 yX4_within := Or.inl (lw_in 591 (by decide +kernel) (by decide +kernel))
theorem lkL_22 : LkM (oN 5) 22 yX4_blank := Or.inl (lw_in 594 (by decide +kernel) (by decide +kernel))
theorem lkL_26 : LkM (oN 5) 26 yX4_fault := Or.inl (lw_in 598 (by decide +kernel) (by decide +kernel))
theorem lkX4_43 : LkM (oN 4) 43 yX4_isSign := Or.inl (lw_in 602 (by decide +kernel) (by decide +kernel))
theorem lkL_30 : LkM (oN 5) 30 yX4_test := Or.inl (lw_in 605 (by decide +kernel) (by decide +kernel))
theorem lkX4_47 : LkM (oN 4) 47 yX4_fault := Or.inl (lw_in 609 (by decide +kernel) (by decide +kernel))
theorem lkX4_54 : LkM (oN 4) 54 yX4_altered := Or.inl (lw_in 610 (by decide +kernel) (by decide +kernel))
theorem lkL_34 : LkM (oN 5) 34 yX4_gray := Or.inl (lw_in 614 (by decide +kernel) (by decide +kernel))
theorem lkL_38 : LkM (oN 5) 38 yX4_step := Or.inl (lw_in 618 (by decide +kernel) (by decide +kernel))
theorem lkL_43 : LkM (oN 5) 43 yX4_sheet := Or.inl (lw_in 622 (by decide +kernel) (by decide +kernel))
theorem lkX4_57 : LkM (oN 4) 57 yX4_cells := Or.inl (lw_in 626 (by decide +kernel) (by decide +kernel))
theorem lkL_48 : LkM (oN 5) 48 yX4_scramble := Or.inl (lw_in 630 (by decide +kernel) (by decide +kernel))
theorem lkX4_66 : LkM (oN 4) 66 yX4_common := Or.inl (lw_in 634 (by decide +kernel) (by decide +kernel))
theorem lkX4_70 : LkM (oN 4) 70 yX4_cellAt := Or.inl (lw_in 637 (by decide +kernel) (by decide +kernel))
theorem lkL_52 : LkM (oN 5) 52 yX4_cell := Or.inl (lw_in 641 (by decide +kernel) (by decide +kernel))
theorem lkX4_86 : LkM (oN 4) 86 yX4_isCell := Or.inl (lw_in 645 (by decide +kernel) (by decide +kernel))
theorem lkX4_89 : LkM (oN 4) 89 yX4_cellNow := Or.inl (lw_in 649 (by decide +kernel) (by decide +kernel))
theorem lkX4_74 : LkM (oN 4) 74 yX4_typeOf := Or.inl (lw_in 653 (by decide +kernel) (by decide +kernel))
theorem lkX4_77 : LkM (oN 4) 77 yX4_addressOf := Or.inl (lw_in 657 (by decide +kernel) (by decide +kernel))
theorem lkX4_80 : LkM (oN 4) 80 yX4_isTurned := Or.inl (lw_in 661 (by decide +kernel) (by decide +kernel))
theorem lkX4_83 : LkM (oN 4) 83 yX4_beside := Or.inl (lw_in 665 (by decide +kernel) (by decide +kernel))
theorem lkL_56 : LkM (oN 5) 56 yX4_at := Or.inl (lw_in 669 (by decide +kernel) (by decide +kernel))
theorem lkL_60 : LkM (oN 5) 60 yX4_run := Or.inl (lw_in 673 (by decide +kernel) (by decide +kernel))
theorem lkX4_177 : LkM (oN 4) 177 yX4_layFault := Or.inl (lw_in 677 (by decide +kernel) (by decide +kernel))
theorem lkX4_107 : LkM (oN 4) 107 yX4_widened := Or.inl (lw_in 681 (by decide +kernel) (by decide +kernel))
theorem lkX4_116 : LkM (oN 4) 116 yX4_besides := Or.inl (lw_in 684 (by decide +kernel) (by decide +kernel))
theorem lkX4_119 : LkM (oN 4) 119 yX4_has := Or.inl (lw_in 688 (by decide +kernel) (by decide +kernel))
theorem lkX4_180 : LkM (oN 4) 180 yX4_runNow := Or.inl (lw_in 691 (by decide +kernel) (by decide +kernel))
theorem lkX4_171 : LkM (oN 4) 171 yX4_layRun := Or.inl (lw_in 695 (by decide +kernel) (by decide +kernel))
theorem lkX4_130 : LkM (oN 4) 130 yX4_hold := Or.inl (lw_in 699 (by decide +kernel) (by decide +kernel))
theorem lkX4_123 : LkM (oN 4) 123 yX4_patternOf := Or.inl (lw_in 703 (by decide +kernel) (by decide +kernel))
theorem lkX4_126 : LkM (oN 4) 126 yX4_put := Or.inl (lw_in 707 (by decide +kernel) (by decide +kernel))
theorem lkX4_154 : LkM (oN 4) 154 yX4_look := Or.inl (lw_in 711 (by decide +kernel) (by decide +kernel))
theorem lkX4_158 : LkM (oN 4) 158 yX4_laySeen := Or.inl (lw_in 715 (by decide +kernel) (by decide +kernel))
theorem lkX4_161 : LkM (oN 4) 161 yX4_ofType := Or.inl (lw_in 719 (by decide +kernel) (by decide +kernel))
theorem lkX4_164 : LkM (oN 4) 164 yX4_writeAll := Or.inl (lw_in 723 (by decide +kernel) (by decide +kernel))
theorem lkX4_133 : LkM (oN 4) 133 yX4_write := Or.inl (lw_in 727 (by decide +kernel) (by decide +kernel))
theorem lkX4_174 : LkM (oN 4) 174 yX4_ones := Or.inl (lw_in 731 (by decide +kernel) (by decide +kernel))
theorem lkL_64 : LkM (oN 5) 64 yX4_found := Or.inl (lw_in 734 (by decide +kernel) (by decide +kernel))
theorem lkX4_186 : LkM (oN 4) 186 yX4_foundNow := Or.inl (lw_in 738 (by decide +kernel) (by decide +kernel))
theorem lkX4_183 : LkM (oN 4) 183 yX4_layFound := Or.inl (lw_in 742 (by decide +kernel) (by decide +kernel))
theorem lkL_68 : LkM (oN 5) 68 yX4_seen := Or.inl (lw_in 746 (by decide +kernel) (by decide +kernel))
theorem lkX4_190 : LkM (oN 4) 190 yX4_layAllSeen := Or.inl (lw_in 750 (by decide +kernel) (by decide +kernel))
theorem lkL_72 : LkM (oN 5) 72 yX4_count := Or.inl (lw_in 754 (by decide +kernel) (by decide +kernel))
theorem lkX4_205 : LkM (oN 4) 205 yX4_howMany := Or.inl (lw_in 758 (by decide +kernel) (by decide +kernel))
theorem lkX4_193 : LkM (oN 4) 193 yX4_ops := Or.inl (lw_in 762 (by decide +kernel) (by decide +kernel))
theorem lkX4_199 : LkM (oN 4) 199 yX4_byBound := Or.inl (lw_in 766 (by decide +kernel) (by decide +kernel))
theorem lkX4_202 : LkM (oN 4) 202 yX4_wholes := Or.inl (lw_in 770 (by decide +kernel) (by decide +kernel))
theorem lkX4_196 : LkM (oN 4) 196 yX4_isWhole := Or.inl (lw_in 774 (by decide +kernel) (by decide +kernel))
theorem lkL_77 : LkM (oN 5) 77 yX4_digest := Or.inl (lw_in 778 (by decide +kernel) (by decide +kernel))
theorem lkX4_223 : LkM (oN 4) 223 yX4_mixCells := Or.inl (lw_in 783 (by decide +kernel) (by decide +kernel))
theorem lkX4_214 : LkM (oN 4) 214 yX4_mix := Or.inl (lw_in 787 (by decide +kernel) (by decide +kernel))
theorem lkX4_218 : LkM (oN 4) 218 yX4_mixFound := Or.inl (lw_in 792 (by decide +kernel) (by decide +kernel))
end
section
/-! THE ABSTRACT MACHINE: cells by virtual numbers, blocks of instructions computed, rules over an abstract predicate g -/
abbrev Cl : Type := (Nat × List Value) ⊕ (Bool × Nat × (Nat → Int32))
abbrev Wd : Type := List Cl × List Cl
abbrev Lo : Type := List (Nat × Value)
abbrev Ev : Type := Nat × Nat × Nat
abbrev It : Type := Instr × Nat × Nat × Int32
def adr (E : Ev) (k : Nat) : Nat := if k < 98 then E.1 + 19 + k else if k = 98 then E.2.1 else if k = 99 then E.2.2 else E.1 + (k - 100)
def rvl (E : Ev) (v : Value) : Value := match v with
  | .ref k => .ref (adr E k)
  | v => v
def rlo (E : Ev) (l : Lo) : Lo := l.map fun q => (q.1, rvl E q.2)
def rcl (E : Ev) (cI cZ : ClassId) (c : Cl) : va_E := match c with
  | .inl o => .inr (o.1, o.2.map (rvl E))
  | .inr a => .inl (bif a.1 then cZ else cI, a.2.1, .inl a.2.2)
def rwd (E : Ev) (cI cZ : ClassId) (w : Wd) : va_W := w.2.mapIdx (fun j c => (E.1 + j, rcl E cI cZ c)) ++ w.1.mapIdx (fun j c => (E.1 + 19 + j, rcl E cI cZ c))
def lkc (w : Wd) (k : Nat) : Option Cl := if k < 98 then w.1[k]? else if k < 100 then none else w.2[k - 100]?
def stc (w : Wd) (k : Nat) (c : Cl) : Wd := if k < 98 then (w.1.set k c, w.2) else (w.1, w.2.set (k - 100) c)
def psn (w : Wd) (k : Nat) : Nat := if k < 98 then w.2.length + k else k - 100
theorem rwd_get {E : Ev} {cI cZ : ClassId} {w : Wd} {k : Nat} {c : Cl} (h : lkc w k = some c) : (rwd E cI cZ w)[psn w k]? = some (adr E k, rcl E cI cZ c) := by
  unfold lkc at h
  unfold rwd psn adr
  by_cases h1 : k < 98
  · rw [if_pos h1] at h
    rw [if_pos h1, if_pos h1, List.getElem?_append_right (by simp), List.length_mapIdx, Nat.add_sub_cancel_left, List.getElem?_mapIdx, h]
    rfl
  · rw [if_neg h1] at h
    by_cases h2 : k < 100
    · rw [if_pos h2] at h; cases h
    · rw [if_neg h2] at h
      have hl : k - 100 < w.2.length := (List.getElem?_eq_some_iff.mp h).1
      rw [if_neg h1, if_neg h1, if_neg (by omega), if_neg (by omega), List.getElem?_append_left (by simpa using hl), List.getElem?_mapIdx, h]
      rfl
theorem mapIdx_set' {α β : Type} (f : Nat → α → β) (l : List α) (k : Nat) (a : α) : (l.set k a).mapIdx f = (l.mapIdx f).set k (f k a) := by
  apply List.ext_getElem?
  intro i
  by_cases hk : i = k
  · subst hk
    by_cases hl : i < l.length
    · simp [List.getElem?_mapIdx, hl]
    · simp [List.getElem?_mapIdx, List.getElem?_eq_none (Nat.le_of_not_lt hl)]
  · simp [List.getElem?_mapIdx, List.getElem?_set_ne (Ne.symm hk)]
theorem rwd_set {E : Ev} {cI cZ : ClassId} {w : Wd} {k : Nat} {c c0 : Cl} (h : lkc w k = some c0) : (rwd E cI cZ w).set (psn w k) (adr E k, rcl E cI cZ c) = rwd E cI cZ (stc w k c) := by
  unfold lkc at h
  unfold rwd psn stc
  by_cases h1 : k < 98
  · rw [if_pos h1, if_pos h1, List.set_append_right _ _ (by simp), List.length_mapIdx, Nat.add_sub_cancel_left]
    dsimp only
    rw [mapIdx_set']
    congr 2
    unfold adr
    rw [if_pos h1]
  · rw [if_neg h1] at h
    by_cases h2 : k < 100
    · rw [if_pos h2] at h; cases h
    · rw [if_neg h2] at h
      have hl : k - 100 < w.2.length := (List.getElem?_eq_some_iff.mp h).1
      rw [if_neg h1, if_neg h1, List.set_append_left _ _ (by simpa using hl)]
      dsimp only
      rw [mapIdx_set']
      congr 2
      unfold adr
      rw [if_neg h1, if_neg (by omega), if_neg (by omega)]
theorem stc_len {w : Wd} {k : Nat} {c : Cl} : (stc w k c).2.length = w.2.length ∧ (stc w k c).1.length = w.1.length := by
  unfold stc
  by_cases h1 : k < 98
  · rw [if_pos h1]; exact ⟨rfl, by simp⟩
  · rw [if_neg h1]; exact ⟨by simp, rfl⟩
def ordF (j : Nat) : Int32 := match j with | 0 => 0 | 1 => 3 | 2 => 4 | 3 => 1 | _ => 2
def HH (E : Ev) (D : va_G) (cI cZ : ClassId) (w : Wd) (H : Heap) : Prop := va_P D vwCl (rwd E cI cZ w) H ∧ va_D (fun q => E.1 ≤ q) (rwd E cI cZ w) ∧ H.size = E.1 + w.2.length + w.1.length
def KK (E : Ev) (D : va_G) (cI cZ : ClassId) (U : State) : Prop := va_K D vwCl [(cI, .int), (cZ, .boolean)] U ∧ (∀ w ∈ lw_nest, va_Nw w U) ∧ va_Z "DisturbedCells$Bench" "ORDER" "[I" (.ref E.2.1) (fun q => E.1 ≤ q) U U.heap ∧ va_T .int E.2.1 5 (fun j => .int (ordF j)) (fun q => E.1 ≤ q) U U.heap
def retI (mt : Mt) (pc : Nat) (r : Option Value) : Prop := (r = none ∧ mt.2.2.2.1 = none ∧ decode mt.2.1 pc = .ok (.return_, 1)) ∨ (∃ v : Int32, r = some (.int v) ∧ (mt.2.2.2.1 = some .int ∨ (mt.2.2.2.1 = some .boolean ∧ (v = 0 ∨ v = 1))) ∧ decode mt.2.1 pc = .ok (.ireturn, 1)) ∨ (∃ v : Int64, r = some (.long v) ∧ mt.2.2.2.1 = some .long ∧ decode mt.2.1 pc = .ok (.lreturn, 1))
def Gp (p : Program) (l : Launch) (e : Env) (R : Room) (s : State) (m : MethodId) (args : Array Value) (below : List Frame) (meth : Method) (c : Code) (Q : State → Prop) (E : Ev) (D : va_G) (cI cZ : ClassId) (nL : Nat) : Nat → Nat → Nat → Lo → List Value → Wd → Prop := fun cs sl pc lo st w => ∀ (H : Heap) (locs : List Loc) (ls : Array Slot), HH E D cI cZ w H → va_S (fun q => E.1 ≤ q) s.heap H locs → lv_has ls nL (rlo E lo) → W p l e R s m args below meth c H locs cs sl Q (F0 m pc ls (st.map (rvl E)))
def Cx (d : Nat) (mt : Mt) (mc ms : Nat) (post : Option Value → Wd → Prop) (L : Nat) (xs : Nat → Int32) (p : Program) (l : Launch) (e : Env) (R : Room) (s : State) (m : MethodId) (args : Array Value) (below : List Frame) (meth : Method) (c : Code) (Q : State → Prop) (E : Ev) (D : va_G) (cI cZ : ClassId) : Prop :=
  p.tables.exec = Jvm.exec ∧ c.code = mt.2.1 ∧ c.maxLocals = mt.2.2.1 ∧ s.vm.findClass (oN mt.2.2.2.2) = some m.cls ∧ (∀ w ∈ lw_good, w.before args s = true) ∧ KK E D cI cZ s ∧ E.1 ≤ s.heap.size ∧ (d ≤ R.frames ∧ 40 * d ≤ R.locals ∧ mc ≤ R.cells ∧ ms ≤ R.slots) ∧ meth.name = mt.1.name ∧
  (∀ (pc : Nat) (r : Option Value) (w : Wd) (H : Heap) (locs : List Loc) (ls : Array Slot), retI mt pc r → post r w → HH E D cI cZ w H → va_S (fun q => E.1 ≤ q) s.heap H locs → W p l e R s m args below meth c H locs mc ms Q (F0 m pc ls (r.toList.map (rvl E)))) ∧
  (L = 0 ∨ (va_X E.2.2 L xs s s.heap ∧ E.2.2 < s.heap.size ∧ E.2.2 < E.1))
def Mach (d : Nat) (mt : Mt) (mc ms : Nat) (post : Option Value → Wd → Prop) (L : Nat) (xs : Nat → Int32) (g : Nat → Nat → Nat → Lo → List Value → Wd → Prop) : Prop :=
  ∃ (p : Program) (l : Launch) (e : Env) (R : Room) (s : State) (m : MethodId) (args : Array Value) (below : List Frame) (meth : Method) (c : Code) (Q : State → Prop) (E : Ev) (D : va_G) (cI cZ : ClassId), Cx d mt mc ms post L xs p l e R s m args below meth c Q E D cI cZ ∧ g = Gp p l e R s m args below meth c Q E D cI cZ mt.2.2.1
-- what a block's items do
def glo (lo : Lo) (i : Nat) : Option Value := match lo with
  | [] => none
  | q :: r => bif q.1 == i then some q.2 else glo r i
def slo (lo : Lo) (i : Nat) (v : Value) : Lo := (i, v) :: lo.filter (fun q => !(q.1 == i) && !(q.1 + 1 == i && q.2.category == 2))
def slo2 (lo : Lo) (i : Nat) (v : Value) : Lo := (i, v) :: lo.filter (fun q => !(q.1 == i) && (!(q.1 == i + 1) && !(q.1 + 1 == i && q.2.category == 2)))
theorem glo_mem {lo : Lo} {i : Nat} {v : Value} (h : glo lo i = some v) : (i, v) ∈ lo := by
  induction lo with
  | nil => cases h
  | cons q r ih =>
    unfold glo at h
    cases hq : q.1 == i with
    | true =>
      rw [hq] at h
      have e : q.2 = v := Option.some.inj h
      have e1 : q.1 = i := by simpa using hq
      rw [← e, ← e1]
      exact List.mem_cons_self
    | false =>
      rw [hq] at h
      exact List.mem_cons_of_mem _ (ih h)
theorem rvl_cat (E : Ev) (v : Value) : (rvl E v).category = v.category := by cases v <;> rfl
theorem rlo_at {E : Ev} {lo : Lo} {i nL : Nat} {v : Value} {ls : Array Slot} (hl : lv_has ls nL (rlo E lo)) (h : glo lo i = some v) : ls[i]? = some (.val (rvl E v)) := hl.2.2 (i, rvl E v) (List.mem_map.mpr ⟨(i, v), glo_mem h, rfl⟩)
theorem rlo_slo (E : Ev) (lo : Lo) (i : Nat) (v : Value) : (i, rvl E v) :: (rlo E lo).filter (fun q => !(q.1 == i) && !(q.1 + 1 == i && q.2.category == 2)) = rlo E (slo lo i v) := by
  unfold rlo slo
  rw [List.map_cons, List.filter_map]
  congr 2
  apply List.filter_congr
  intro q _
  simp [rvl_cat]
theorem rlo_slo2 (E : Ev) (lo : Lo) (i : Nat) (v : Value) : (i, rvl E v) :: (rlo E lo).filter (fun q => !(q.1 == i) && (!(q.1 == i + 1) && !(q.1 + 1 == i && q.2.category == 2))) = rlo E (slo2 lo i v) := by
  unfold rlo slo2
  rw [List.map_cons, List.filter_map]
  congr 2
  apply List.filter_congr
  intro q _
  simp [rvl_cat]
def flI (mt : Mt) (idx a b : Nat) : Bool := FL.any fun q => q.1 == mt.2.2.2.2 && (q.2.1 == idx && (q.2.2.1 == a && q.2.2.2 == b))
theorem flI_ok {mt : Mt} {idx a b : Nat} (h : flI mt idx a b = true) : FLP (mt.2.2.2.2, idx, a, b) := by
  unfold flI at h
  obtain ⟨q, hq, h⟩ := List.any_eq_true.mp h
  simp only [Bool.and_eq_true, beq_iff_eq] at h
  obtain ⟨h1, h2, h3, h4⟩ := h
  have : q = (mt.2.2.2.2, idx, a, b) := by rw [← h1, ← h2, ← h3, ← h4]
  rw [← this]
  exact FL_ok q hq
def lnI (i : Instr) : Nat := match i with
  | .bipush _ => 2 | .sipush _ => 3 | .iload _ => 2 | .lload _ => 2 | .aload _ => 2 | .istore _ => 2 | .lstore _ => 2 | .iinc _ _ => 3 | .goto _ => 3 | .getfield _ => 3 | .putfield _ => 3
  | _ => 1
def ck1 (mt : Mt) (pc : Nat) (it : It) : Bool := decide (decode mt.2.1 pc = .ok (it.1, lnI it.1)) && match it with
  | (.iconst n, _, _, v) => decide (Int32.ofInt n = v)
  | (.bipush n, _, _, v) => decide ((Int8.ofInt n).toInt32 = v)
  | (.sipush n, _, _, v) => decide ((Int16.ofInt n).toInt32 = v)
  | (.iload_n k, a, _, _) => (k : Nat) == a
  | (.iload k, a, _, _) => k == a
  | (.lload_n k, a, _, _) => (k : Nat) == a
  | (.lload k, a, _, _) => k == a
  | (.aload_n k, a, _, _) => (k : Nat) == a
  | (.aload k, a, _, _) => k == a
  | (.istore_n k, a, _, _) => (k : Nat) == a && decide (a < mt.2.2.1)
  | (.istore k, a, _, _) => k == a && decide (a < mt.2.2.1)
  | (.astore_n k, a, _, _) => (k : Nat) == a && decide (a < mt.2.2.1)
  | (.lstore_n k, a, _, _) => (k : Nat) == a && decide (a + 1 < mt.2.2.1)
  | (.lstore k, a, _, _) => k == a && decide (a + 1 < mt.2.2.1)
  | (.iinc k n, a, _, v) => k == a && (decide (a < mt.2.2.1) && decide (Int32.ofInt n = v))
  | (.goto off, a, _, _) => decide ((pc : Int) + off = (a : Int))
  | (.getfield idx, a, b, _) => flI mt idx a b
  | (.putfield idx, a, b, _) => flI mt idx a b && (decide (yN a b = .int) && !(tN a b).2.2.2)
  | (.iadd, _) => true | (.isub, _) => true | (.imul, _) => true | (.iand, _) => true | (.ior, _) => true | (.ixor, _) => true
  | (.ishl, _) => true | (.ishr, _) => true | (.iushr, _) => true | (.ladd, _) => true | (.lmul, _) => true | (.i2l, _) => true
  | (.lcmp, _) => true | (.dup, _) => true | (.dup2, _) => true | (.pop, _) => true
  | _ => false
def ex1 (it : It) (lo : Lo) (st : List Value) (w : Wd) : Option (Lo × List Value × Wd) := match it with
  | (.iconst _, _, _, v) => some (lo, .int v :: st, w)
  | (.bipush _, _, _, v) => some (lo, .int v :: st, w)
  | (.sipush _, _, _, v) => some (lo, .int v :: st, w)
  | (.iload_n _, a, _, _) => match glo lo a with | some (.int x) => some (lo, .int x :: st, w) | _ => none
  | (.iload _, a, _, _) => match glo lo a with | some (.int x) => some (lo, .int x :: st, w) | _ => none
  | (.lload_n _, a, _, _) => match glo lo a with | some (.long x) => some (lo, .long x :: st, w) | _ => none
  | (.lload _, a, _, _) => match glo lo a with | some (.long x) => some (lo, .long x :: st, w) | _ => none
  | (.aload_n _, a, _, _) => match glo lo a with | some (.ref x) => some (lo, .ref x :: st, w) | _ => none
  | (.aload _, a, _, _) => match glo lo a with | some (.ref x) => some (lo, .ref x :: st, w) | _ => none
  | (.istore_n _, a, _, _) => match st with | .int x :: r => some (slo lo a (.int x), r, w) | _ => none
  | (.istore _, a, _, _) => match st with | .int x :: r => some (slo lo a (.int x), r, w) | _ => none
  | (.astore_n _, a, _, _) => match st with | .ref x :: r => some (slo lo a (.ref x), r, w) | _ => none
  | (.lstore_n _, a, _, _) => match st with | .long x :: r => some (slo2 lo a (.long x), r, w) | _ => none
  | (.lstore _, a, _, _) => match st with | .long x :: r => some (slo2 lo a (.long x), r, w) | _ => none
  | (.iinc _ _, a, _, v) => match glo lo a with | some (.int x) => some (slo lo a (.int (x + v)), st, w) | _ => none
  | (.goto _, a, _, _) => some (lo, st, w)
  | (.getfield _, a, b, _) => match st with
    | .ref k :: r => match lkc w k with
      | some (.inl o) => bif o.1 == a then (match o.2[b]? with | some v => some (lo, v :: r, w) | none => none) else none
      | _ => none
    | _ => none
  | (.putfield _, a, b, _) => match st with
    | .int x :: .ref k :: r => match lkc w k with
      | some (.inl o) => bif o.1 == a && decide (b < o.2.length) then some (lo, r, stc w k (.inl (o.1, o.2.set b (.int x)))) else none
      | _ => none
    | _ => none
  | (.iadd, _) => match st with | .int y :: .int x :: r => some (lo, .int (x + y) :: r, w) | _ => none
  | (.isub, _) => match st with | .int y :: .int x :: r => some (lo, .int (x - y) :: r, w) | _ => none
  | (.imul, _) => match st with | .int y :: .int x :: r => some (lo, .int (x * y) :: r, w) | _ => none
  | (.iand, _) => match st with | .int y :: .int x :: r => some (lo, .int (x &&& y) :: r, w) | _ => none
  | (.ior, _) => match st with | .int y :: .int x :: r => some (lo, .int (x ||| y) :: r, w) | _ => none
  | (.ixor, _) => match st with | .int y :: .int x :: r => some (lo, .int (x ^^^ y) :: r, w) | _ => none
  | (.ishl, _) => match st with | .int y :: .int x :: r => some (lo, .int (x <<< (y &&& 31)) :: r, w) | _ => none
  | (.ishr, _) => match st with | .int y :: .int x :: r => some (lo, .int (x >>> (y &&& 31)) :: r, w) | _ => none
  | (.iushr, _) => match st with | .int y :: .int x :: r => some (lo, .int ((x.toUInt32 >>> (y.toUInt32 &&& Int32.toUInt32 31)).toInt32) :: r, w) | _ => none
  | (.ladd, _) => match st with | .long y :: .long x :: r => some (lo, .long (x + y) :: r, w) | _ => none
  | (.lmul, _) => match st with | .long y :: .long x :: r => some (lo, .long (x * y) :: r, w) | _ => none
  | (.i2l, _) => match st with | .int x :: r => some (lo, .long x.toInt64 :: r, w) | _ => none
  | (.lcmp, _) => match st with | .long y :: .long x :: r => some (lo, .int (lg_cmp x y) :: r, w) | _ => none
  | (.dup, _) => match st with | .int x :: r => some (lo, .int x :: .int x :: r, w) | .ref x :: r => some (lo, .ref x :: .ref x :: r, w) | _ => none
  | (.dup2, _) => match st with | .int y :: .ref x :: r => some (lo, .int y :: .ref x :: .int y :: .ref x :: r, w) | _ => none
  | (.pop, _) => match st with | .int x :: r => some (lo, r, w) | .ref x :: r => some (lo, r, w) | _ => none
  | _ => none
def nxp (pc : Nat) (it : It) : Nat := match it with
  | (.goto _, a, _, _) => a
  | (i, _, _, _) => pc + lnI i
def ck (mt : Mt) (pc : Nat) (is : List It) : Bool := match is with
  | [] => true
  | it :: r => ck1 mt pc it && ck mt (nxp pc it) r
def ex (is : List It) (lo : Lo) (st : List Value) (w : Wd) : Option (Lo × List Value × Wd) := match is with
  | [] => some (lo, st, w)
  | it :: r => match ex1 it lo st w with
    | some q => ex r q.1 q.2.1 q.2.2
    | none => none
def endp (pc : Nat) (is : List It) : Nat := match is with
  | [] => pc
  | it :: r => endp (nxp pc it) r
end
section
section PUTS
variable {p : Program} {l : Launch} {e : Env} {R : Room} {s : State} {m : MethodId} {args : Array Value} {below : List Frame} {meth : Method} {c : Code} {H : Heap} {locs : List Loc} {cells slots : Nat} {Q : State → Prop}
variable {cc : ByteArray} {pc : Nat} {ls : Array Slot} {rest : List Value} {D : va_G} {cl : List vw_C} {A : Nat → Prop} {a : Nat} {tys : List (ClassId × FieldType)} {ws : va_W} {H0 : Heap}
theorem mx_put (hexec : p.tables.exec = Jvm.exec) (hb : c.code = cc) {own ref C : String} {T : u_T} {N ci index : Nat} {Ts : List Cond} (hts : ∀ w ∈ Ts, w.before args s = true) (hin : ∀ w ∈ u_ws C T N, w ∈ Ts) (ty0 : Nat → FieldType) (hty : ∀ k, k < N → parseFieldDescriptor (T k).2.2.1 = some (ty0 k)) (hnm : ∀ a, a < N → ∀ b, b < N → a ≠ b → (T a).2.1 ≠ (T b).2.1) (hown : s.vm.findClass own = some m.cls) (hK : va_K D cl tys s) (hP : va_P D cl ws H) (hD : va_D A ws) (hS0 : va_S A H0 H locs) (q0 : Nat) {fs : List Value} (he : ws[q0]? = some (a, .inr (ci, fs))) (hc : cl[ci]? = some (C, T, N)) (k : Nat) (hk : k < N) (hlink : (Cond.fieldLink own index ref (T k).2.1 (T k).2.2.1).before args s = true) (hsame : ∀ x, s.fieldFound? (T k).1 (T k).2.1 (T k).2.2.1 = some x → s.fieldFound? ref (T k).2.1 (T k).2.2.1 = some x) (hfin : (T k).2.2.2 = false) {ty : FieldType} {v : Value} (hd : parseFieldDescriptor (T k).2.2.1 = some ty) (hn : narrow ty v = v) (hfit : fits ty v = true) (hl : k < fs.length)
    (hdg : decode cc pc = .ok (.putfield index, 3)) (kk : ∀ (H1 : Heap) (locs1 : List Loc), H1.size = H.size → va_P D cl (ws.set q0 (a, .inr (ci, fs.set k v))) H1 → va_D A (ws.set q0 (a, .inr (ci, fs.set k v))) → va_S A H0 H1 locs1 → W p l e R s m args below meth c H1 locs1 cells slots Q (F0 m (pc + 3) ls rest)) : W p l e R s m args below meth c H locs cells slots Q (F0 m pc ls (v :: .ref a :: rest)) := by
  have hap := va_apart (own := own) hts hin ty0 hty hnm hK hc
  obtain ⟨r, h1, cell, q1, q2, q3, q4⟩ := hP q0 _ he
  cases Option.some.inj (h1.symm.trans hc)
  obtain ⟨hS, hfc, kC, hkC, hkind⟩ := hK.1 ci _ hc
  obtain ⟨cf, kf, fi, f, hi, hsl⟩ := hS k hk
  have hlay := hts _ (hin _ (u_in_lay hk))
  unfold u_lay at hlay
  rw [if_neg (by rw [hfin]; decide)] at hlay
  have hst := (u_facts hfc hkC (u_lays hts hin hk) hi).1
  have h6 := u_store hfc hkC hkind hlay hi hd hn hfit
  refine W.putK hexec hb (f := f) ⟨hown, hlink, ⟨_, _, _, hsame _ hi⟩, hst⟩ (by rw [q2]; exact h6) q1 q3 (by rw [hsl]; exact k2_hasslot (q4 k hk)) rfl rfl hdg fun H' e1 e2 e3 => ?_
  rw [hsl] at e1 ⊢
  exact kk H' _ e2 (hP.set hD he ⟨_, hc, t_OB.to (V := updV (vp_V fs) k v) ⟨_, e1, q2, q3, t_set q4 hap hk v⟩ (fun j _ => vp_updV_set hl v j)⟩ e3) (hD.set he) (hS0.put e2 e3 (hD.2 q0 _ he))
theorem mx_putN (hexec : p.tables.exec = Jvm.exec) (hb : c.code = cc) {host : String} {own ref C : String} {T : u_T} {N ci index : Nat} {Ts : List Cond} (hts : ∀ w ∈ Ts, w.before args s = true) (hin : ∀ w ∈ u_ws C T N, w ∈ Ts) (ty0 : Nat → FieldType) (hty : ∀ k, k < N → parseFieldDescriptor (T k).2.2.1 = some (ty0 k)) (hnm : ∀ a, a < N → ∀ b, b < N → a ≠ b → (T a).2.1 ≠ (T b).2.1) (hown : s.vm.findClass own = some m.cls) (hK : va_K D cl tys s) (hP : va_P D cl ws H) (hD : va_D A ws) (hS0 : va_S A H0 H locs) (q0 : Nat) {fs : List Value} (he : ws[q0]? = some (a, .inr (ci, fs))) (hc : cl[ci]? = some (C, T, N)) (k : Nat) (hk : k < N) (hlink : (Cond.fieldLinkNest own index ref (T k).2.1 (T k).2.2.1 host).before args s = true) (hsame : ∀ x, s.fieldFound? (T k).1 (T k).2.1 (T k).2.2.1 = some x → s.fieldFound? ref (T k).2.1 (T k).2.2.1 = some x) (hfin : (T k).2.2.2 = false) {ty : FieldType} {v : Value} (hd : parseFieldDescriptor (T k).2.2.1 = some ty) (hn : narrow ty v = v) (hfit : fits ty v = true) (hl : k < fs.length)
    (hdg : decode cc pc = .ok (.putfield index, 3)) (kk : ∀ (H1 : Heap) (locs1 : List Loc), H1.size = H.size → va_P D cl (ws.set q0 (a, .inr (ci, fs.set k v))) H1 → va_D A (ws.set q0 (a, .inr (ci, fs.set k v))) → va_S A H0 H1 locs1 → W p l e R s m args below meth c H1 locs1 cells slots Q (F0 m (pc + 3) ls rest)) : W p l e R s m args below meth c H locs cells slots Q (F0 m pc ls (v :: .ref a :: rest)) := by
  have hap := va_apart (own := own) hts hin ty0 hty hnm hK hc
  obtain ⟨r, h1, cell, q1, q2, q3, q4⟩ := hP q0 _ he
  cases Option.some.inj (h1.symm.trans hc)
  obtain ⟨hS, hfc, kC, hkC, hkind⟩ := hK.1 ci _ hc
  obtain ⟨cf, kf, fi, f, hi, hsl⟩ := hS k hk
  have hlay := hts _ (hin _ (u_in_lay hk))
  unfold u_lay at hlay
  rw [if_neg (by rw [hfin]; decide)] at hlay
  have hst := (u_facts hfc hkC (u_lays hts hin hk) hi).1
  have h6 := u_store hfc hkC hkind hlay hi hd hn hfit
  refine va_WputK hexec hb (f := f) hown hlink (hsame _ hi) hst (by rw [q2]; exact h6) q1 q3 (by rw [hsl]; exact k2_hasslot (q4 k hk)) rfl rfl hdg fun H' e1 e2 e3 => ?_
  rw [hsl] at e1 ⊢
  exact kk H' _ e2 (hP.set hD he ⟨_, hc, t_OB.to (V := updV (vp_V fs) k v) ⟨_, e1, q2, q3, t_set q4 hap hk v⟩ (fun j _ => vp_updV_set hl v j)⟩ e3) (hD.set he) (hS0.put e2 e3 (hD.2 q0 _ he))
theorem mx_putF (hexec : p.tables.exec = Jvm.exec) (hb : c.code = cc) {own ref C : String} {T : u_T} {N ci index : Nat} {Ts : List Cond} (hts : ∀ w ∈ Ts, w.before args s = true) (hin : ∀ w ∈ u_ws C T N, w ∈ Ts) (ty0 : Nat → FieldType) (hty : ∀ k, k < N → parseFieldDescriptor (T k).2.2.1 = some (ty0 k)) (hnm : ∀ a, a < N → ∀ b, b < N → a ≠ b → (T a).2.1 ≠ (T b).2.1) (hown : s.vm.findClass own = some m.cls) (hK : va_K D cl tys s) (hP : va_P D cl ws H) (hD : va_D A ws) (hS0 : va_S A H0 H locs) (q0 : Nat) {fs : List Value} (he : ws[q0]? = some (a, .inr (ci, fs))) (hc : cl[ci]? = some (C, T, N)) (k : Nat) (hk : k < N) (hlink : (Cond.fieldLink own index ref (T k).2.1 (T k).2.2.1).before args s = true) (hsame : ∀ x, s.fieldFound? (T k).1 (T k).2.1 (T k).2.2.1 = some x → s.fieldFound? ref (T k).2.1 (T k).2.2.1 = some x) (hfin : (T k).2.2.2 = true) (hin2 : meth.name = "<init>") (hdecl : (T k).1 = own) {ty : FieldType} {v : Value} (hd : parseFieldDescriptor (T k).2.2.1 = some ty) (hn : narrow ty v = v) (hfit : fits ty v = true) (hl : k < fs.length)
    (hdg : decode cc pc = .ok (.putfield index, 3)) (kk : ∀ (H1 : Heap) (locs1 : List Loc), H1.size = H.size → va_P D cl (ws.set q0 (a, .inr (ci, fs.set k v))) H1 → va_D A (ws.set q0 (a, .inr (ci, fs.set k v))) → va_S A H0 H1 locs1 → W p l e R s m args below meth c H1 locs1 cells slots Q (F0 m (pc + 3) ls rest)) : W p l e R s m args below meth c H locs cells slots Q (F0 m pc ls (v :: .ref a :: rest)) := by
  have hap := va_apart (own := own) hts hin ty0 hty hnm hK hc
  obtain ⟨r, h1, cell, q1, q2, q3, q4⟩ := hP q0 _ he
  cases Option.some.inj (h1.symm.trans hc)
  obtain ⟨hS, hfc, kC, hkC, hkind⟩ := hK.1 ci _ hc
  obtain ⟨cf, kf, fi, f, hi, hsl⟩ := hS k hk
  have hlay := hts _ (hin _ (u_in_lay hk))
  unfold u_lay at hlay
  rw [if_pos hfin] at hlay
  have hst := (u_facts hfc hkC (u_lays hts hin hk) hi).1
  have hcf : m.cls = cf := by
    obtain ⟨_, _, c1, _, _, _, -, -, hf1, -, -, -, hown2, -⟩ := Cond.laysFinal_spec hlay
    have e1 : c1 = cf := by have := hi.symm.trans hf1; simp at this; exact this.1.symm
    rw [hdecl] at hown2
    rw [← e1]; exact Option.some.inj (hown.symm.trans hown2)
  have h6 := u_fits hfc hkC hkind (Or.inr hlay) hi hd hn hfit
  refine W.putFinK hexec hb hown hlink (hsame _ hi) hst hcf hin2 (by rw [q2]; exact h6) q1 q3 (by rw [hsl]; exact k2_hasslot (q4 k hk)) rfl rfl hdg fun H' e1 e2 e3 => ?_
  rw [hsl] at e1 ⊢
  exact kk H' _ e2 (hP.set hD he ⟨_, hc, t_OB.to (V := updV (vp_V fs) k v) ⟨_, e1, q2, q3, t_set q4 hap hk v⟩ (fun j _ => vp_updV_set hl v j)⟩ e3) (hD.set he) (hS0.put e2 e3 (hD.2 q0 _ he))
theorem mx_iast (hexec : p.tables.exec = Jvm.exec) (hb : c.code = cc) (hK : va_K D cl tys s) (hP : va_P D cl ws H) (hD : va_D A ws) (hS : va_S A H0 H locs) (q0 t0 : Nat) {cA : ClassId} {n : Nat} {f : Nat → Int32} (ha : ws[q0]? = some (a, .inl (cA, n, .inl f))) (ht : tys[t0]? = some (cA, .int)) {i : Int32} {x : Int32} (hin : vp_in i n) (hdg : decode cc pc = .ok (.iastore, 1))
    (kk : ∀ (H1 : Heap) (locs1 : List Loc), H1.size = H.size → va_P D cl (ws.set q0 (a, .inl (cA, n, .inl (upd f i.toNatClampNeg x)))) H1 → va_D A (ws.set q0 (a, .inl (cA, n, .inl (upd f i.toNatClampNeg x)))) → va_S A H0 H1 locs1 → W p l e R s m args below meth c H1 locs1 cells slots Q (F0 m (pc + 1) ls rest)) : W p l e R s m args below meth c H locs cells slots Q (F0 m pc ls (.int x :: .int i :: .ref a :: rest)) := by
  refine W.iast hexec hb (hP q0 _ ha) ((hK.2 t0 _ ht).1 n (fun j => .int (f j))) (fun q => by cases q) (by show ¬ (i < 0 ∨ (arrV _ _ _).slots.size ≤ _); rw [arrV_size]; exact hin) rfl rfl hdg fun H1 e z oq => ?_
  refine kk H1 _ z (hP.set hD ha ?_ oq) (hD.set ha) (hS.put z oq (hD.2 q0 _ ha))
  show H1[a]? = some (vp_cell _ _)
  rw [e]
  rw [vp_cell_i, vp_cell_i, arrV_store]
  congr 2
  funext q
  by_cases hq : q = i.toNatClampNeg
  · subst hq
    simp [updV, upd, vp_nar]
    try rfl
  · simp [updV, upd, hq]
theorem mx_zast (hexec : p.tables.exec = Jvm.exec) (hb : c.code = cc) (hK : va_K D cl tys s) (hP : va_P D cl ws H) (hD : va_D A ws) (hS : va_S A H0 H locs) (q0 t0 : Nat) {cA : ClassId} {n : Nat} {f : Nat → Int32} (ha : ws[q0]? = some (a, .inl (cA, n, .inl f))) (ht : tys[t0]? = some (cA, .boolean)) {i : Int32} {x : Int32} (hin : vp_in i n) (hdg : decode cc pc = .ok (.bastore, 1))
    (kk : ∀ (H1 : Heap) (locs1 : List Loc), H1.size = H.size → va_P D cl (ws.set q0 (a, .inl (cA, n, .inl (upd f i.toNatClampNeg (vp_nar .boolean x))))) H1 → va_D A (ws.set q0 (a, .inl (cA, n, .inl (upd f i.toNatClampNeg (vp_nar .boolean x))))) → va_S A H0 H1 locs1 → W p l e R s m args below meth c H1 locs1 cells slots Q (F0 m (pc + 1) ls rest)) : W p l e R s m args below meth c H locs cells slots Q (F0 m pc ls (.int x :: .int i :: .ref a :: rest)) := by
  refine W.zast hexec hb (hP q0 _ ha) ((hK.2 t0 _ ht).1 n (fun j => .int (f j))) (fun q => by cases q) (by show ¬ (i < 0 ∨ (arrV _ _ _).slots.size ≤ _); rw [arrV_size]; exact hin) rfl rfl hdg fun H1 e z oq => ?_
  refine kk H1 _ z (hP.set hD ha ?_ oq) (hD.set ha) (hS.put z oq (hD.2 q0 _ ha))
  show H1[a]? = some (vp_cell _ _)
  rw [e]
  rw [vp_cell_i, vp_cell_i, arrV_store]
  congr 2
  funext q
  by_cases hq : q = i.toNatClampNeg
  · subst hq
    simp [updV, upd, vp_nar]
    try rfl
  · simp [updV, upd, hq]
end PUTS
section STEP
variable {d : Nat} {mt : Mt} {mc ms : Nat} {post : Option Value → Wd → Prop} {L : Nat} {xs : Nat → Int32} {g : Nat → Nat → Nat → Lo → List Value → Wd → Prop} {cs sl pc : Nat} {lo : Lo} {st : List Value} {w : Wd}
set_option maxHeartbeats 4000000 in
theorem Mach.one (M : Mach d mt mc ms post L xs g) {it : It} (hck : ck1 mt pc it = true) {q : Lo × List Value × Wd} (hex : ex1 it lo st w = some q) (k : g cs sl (nxp pc it) q.1 q.2.1 q.2.2) : g cs sl pc lo st w := by
  obtain ⟨p, l, e, R, s, m, args, below, meth, c, Q, E, D, cI, cZ, ⟨hx, hb, hml, hown, hts, hK, hB, hR, hnm, hret, hscr⟩, rfl⟩ := M
  unfold ck1 at hck
  rw [Bool.and_eq_true] at hck
  obtain ⟨hd, hck⟩ := hck
  have hd := of_decide_eq_true hd
  obtain ⟨i, a, b, v⟩ := it
  intro H locs ls hH hS hl
  dsimp only at hd
  cases i <;> first | (dsimp only at hck; cases hck; done) | skip
  all_goals dsimp only [ex1] at hex
  all_goals dsimp only [lnI] at hd
  case iconst n1 =>
    cases hex
    exact lv_iconst hx hb hd (of_decide_eq_true hck) (k H locs ls hH hS hl)
  case bipush n1 =>
    cases hex
    exact lv_bipush hx hb hd (of_decide_eq_true hck) (k H locs ls hH hS hl)
  case sipush n1 =>
    cases hex
    exact lv_sipush hx hb hd (of_decide_eq_true hck) (k H locs ls hH hS hl)
  case iload_n k1 =>
    split at hex
    · rename_i x hg
      cases hex
      exact lv_iload_n hx hb hd (eq_of_beq hck) (rlo_at hl hg) (k H locs ls hH hS hl)
    · cases hex
  case iload k1 =>
    split at hex
    · rename_i x hg
      cases hex
      cases eq_of_beq hck
      exact lv_iload hx hb hd (rlo_at hl hg) (k H locs ls hH hS hl)
    · cases hex
  case lload_n k1 =>
    split at hex
    · rename_i x hg
      cases hex
      exact lv_lload_n hx hb hd (eq_of_beq hck) (rlo_at hl hg) (k H locs ls hH hS hl)
    · cases hex
  case lload k1 =>
    split at hex
    · rename_i x hg
      cases hex
      cases eq_of_beq hck
      exact lv_lload hx hb hd (rlo_at hl hg) (k H locs ls hH hS hl)
    · cases hex
  case aload_n k1 =>
    split at hex
    · rename_i x hg
      cases hex
      exact lv_aload_n hx hb hd (eq_of_beq hck) (rlo_at hl hg) (k H locs ls hH hS hl)
    · cases hex
  case aload k1 =>
    split at hex
    · rename_i x hg
      cases hex
      cases eq_of_beq hck
      exact lv_aload hx hb hd (rlo_at hl hg) (k H locs ls hH hS hl)
    · cases hex
  case istore_n k1 =>
    split at hex
    · rename_i x r
      cases hex
      dsimp only at hck
      rw [Bool.and_eq_true] at hck
      exact lv_istore_n hx hb hd (eq_of_beq hck.1) hl (of_decide_eq_true hck.2) (rlo_slo E lo a (.int x)) (fun ls hl => k H locs ls hH hS hl)
    · cases hex
  case istore k1 =>
    split at hex
    · rename_i x r
      cases hex
      dsimp only at hck
      rw [Bool.and_eq_true] at hck
      cases eq_of_beq hck.1
      exact lv_istore hx hb hd hl (of_decide_eq_true hck.2) (rlo_slo E lo _ (.int x)) (fun ls hl => k H locs ls hH hS hl)
    · cases hex
  case astore_n k1 =>
    split at hex
    · rename_i x r
      cases hex
      dsimp only at hck
      rw [Bool.and_eq_true] at hck
      exact lv_astore_n hx hb hd (eq_of_beq hck.1) hl (of_decide_eq_true hck.2) (rlo_slo E lo a (.ref x)) (fun ls hl => k H locs ls hH hS hl)
    · cases hex
  case lstore_n k1 =>
    split at hex
    · rename_i x r
      cases hex
      dsimp only at hck
      rw [Bool.and_eq_true] at hck
      exact lv_lstore_n hx hb hd (eq_of_beq hck.1) hl (of_decide_eq_true hck.2) (rlo_slo2 E lo a (.long x)) (fun ls hl => k H locs ls hH hS hl)
    · cases hex
  case lstore k1 =>
    split at hex
    · rename_i x r
      cases hex
      dsimp only at hck
      rw [Bool.and_eq_true] at hck
      cases eq_of_beq hck.1
      exact lv_lstore hx hb hd hl (of_decide_eq_true hck.2) (rlo_slo2 E lo _ (.long x)) (fun ls hl => k H locs ls hH hS hl)
    · cases hex
  case iinc k1 n1 =>
    split at hex
    · rename_i x hg
      cases hex
      dsimp only at hck
      rw [Bool.and_eq_true, Bool.and_eq_true] at hck
      cases eq_of_beq hck.1
      obtain ⟨j, hj⟩ := List.getElem?_of_mem (List.mem_map_of_mem (f := fun q : Nat × Value => (q.1, rvl E q.2)) (glo_mem hg))
      exact lv_iinc hx hb hd hl hj (v := x + v) (by rw [of_decide_eq_true hck.2.2]) (of_decide_eq_true hck.2.1) (rlo_slo E lo _ (.int (x + v))) (fun ls hl => k H locs ls hH hS hl)
    · cases hex
  case goto off =>
    cases hex
    exact lv_goto hx hb hd (of_decide_eq_true hck) (k H locs ls hH hS hl)
  case getfield idx =>
    split at hex
    · rename_i k1 r
      split at hex
      · rename_i o ho
        cases ha : o.1 == a with
        | false => rw [ha] at hex; cases hex
        | true =>
          rw [ha] at hex
          dsimp only [cond] at hex
          split at hex
          · rename_i v1 hv1
            cases hex
            cases eq_of_beq ha
            obtain ⟨h5, hn, hlink⟩ := flI_ok hck
            obtain ⟨hc, hin, hty, hnm2⟩ := cls_ok _ h5
            have he := rwd_get (E := E) (cI := cI) (cZ := cZ) ho
            have hv2 : (o.2.map (rvl E))[b]? = some (rvl E v1) := by rw [List.getElem?_map, hv1]; rfl
            rcases hlink with hlink | hlink
            · exact va_get hx hb hts hin hown hK.1 hH.1 (psn w k1) he hc b hn (hts _ hlink) (fun _ h => h) hv2 hd (k H locs ls hH hS hl)
            · exact va_getN hx hb hts hin hown hK.1 hH.1 (psn w k1) he hc b hn (va_Nw.use rfl (hK.2.1 _ hlink)) (fun _ h => h) hv2 hd (k H locs ls hH hS hl)
          · cases hex
      · cases hex
    · cases hex
  case putfield idx =>
    split at hex
    · rename_i x k1 r
      split at hex
      · rename_i o ho
        cases ha : (o.1 == a && decide (b < o.2.length)) with
        | false => rw [ha] at hex; cases hex
        | true =>
          rw [ha] at hex
          dsimp only [cond] at hex
          cases hex
          rw [Bool.and_eq_true] at ha
          cases eq_of_beq ha.1
          dsimp only at hck
          rw [Bool.and_eq_true, Bool.and_eq_true] at hck
          obtain ⟨h5, hn, hlink⟩ := flI_ok hck.1
          have hyi := of_decide_eq_true hck.2.1
          have hfin : (tN o.1 b).2.2.2 = false := by simpa using hck.2.2
          obtain ⟨hc, hin, hty, hnm2⟩ := cls_ok _ h5
          have he := rwd_get (E := E) (cI := cI) (cZ := cZ) ho
          have hbl : b < (o.2.map (rvl E)).length := by rw [List.length_map]; exact of_decide_eq_true ha.2
          have hset : (rwd E cI cZ w).set (psn w k1) (adr E k1, Sum.inr (o.1, (o.2.map (rvl E)).set b (rvl E (.int x)))) = rwd E cI cZ (stc w k1 (.inl (o.1, o.2.set b (.int x)))) := by
            rw [← rwd_set ho]
            show _ = (rwd E cI cZ w).set (psn w k1) (adr E k1, Sum.inr (o.1, (o.2.set b (.int x)).map (rvl E)))
            rw [List.map_set]
          have hd2 : parseFieldDescriptor (tN o.1 b).2.2.1 = some .int := by rw [hty b hn, hyi]
          have hlen := stc_len (w := w) (k := k1) (c := .inl (o.1, o.2.set b (.int x)))
          rcases hlink with hlink | hlink
          · refine mx_put hx hb hts hin (yN o.1) hty hnm2 hown hK.1 hH.1 hH.2.1 hS (psn w k1) he hc b hn (hts _ hlink) (fun _ h => h) hfin hd2 rfl rfl hbl hd (fun H1 locs1 hz1 hP1 hD1 hS1 => ?_)
            exact k H1 locs1 ls ⟨hset ▸ hP1, hset ▸ hD1, by rw [hz1, hlen.1, hlen.2]; exact hH.2.2⟩ hS1 hl
          · refine mx_putN hx hb hts hin (yN o.1) hty hnm2 hown hK.1 hH.1 hH.2.1 hS (psn w k1) he hc b hn (va_Nw.use rfl (hK.2.1 _ hlink)) (fun _ h => h) hfin hd2 rfl rfl hbl hd (fun H1 locs1 hz1 hP1 hD1 hS1 => ?_)
            exact k H1 locs1 ls ⟨hset ▸ hP1, hset ▸ hD1, by rw [hz1, hlen.1, hlen.2]; exact hH.2.2⟩ hS1 hl
      · cases hex
    · cases hex
  case iadd =>
    split at hex
    · cases hex; exact lv_iadd hx hb hd (k H locs ls hH hS hl)
    · cases hex
  case isub =>
    split at hex
    · cases hex; exact lv_isub hx hb hd (k H locs ls hH hS hl)
    · cases hex
  case imul =>
    split at hex
    · cases hex; exact lv_imul hx hb hd (k H locs ls hH hS hl)
    · cases hex
  case iand =>
    split at hex
    · cases hex; exact lv_iand hx hb hd (k H locs ls hH hS hl)
    · cases hex
  case ior =>
    split at hex
    · cases hex; exact lv_ior hx hb hd (k H locs ls hH hS hl)
    · cases hex
  case ixor =>
    split at hex
    · cases hex; exact lv_ixor hx hb hd (k H locs ls hH hS hl)
    · cases hex
  case ishl =>
    split at hex
    · cases hex; exact lv_ishl hx hb hd (k H locs ls hH hS hl)
    · cases hex
  case ishr =>
    split at hex
    · cases hex; exact lv_ishr hx hb hd (k H locs ls hH hS hl)
    · cases hex
  case ladd =>
    split at hex
    · cases hex; exact lv_ladd hx hb hd (k H locs ls hH hS hl)
    · cases hex
  case lmul =>
    split at hex
    · cases hex; exact lv_lmul hx hb hd (k H locs ls hH hS hl)
    · cases hex
  case iushr =>
    split at hex
    · cases hex; exact lv_iushr hx hb hd rfl (k H locs ls hH hS hl)
    · cases hex
  case i2l =>
    split at hex
    · cases hex; exact lv_i2l hx hb hd rfl (k H locs ls hH hS hl)
    · cases hex
  case lcmp =>
    split at hex
    · cases hex; exact W.lcmp hx hb hd (k H locs ls hH hS hl)
    · cases hex
  case dup =>
    split at hex
    · cases hex; exact lv_dup hx hb hd rfl (k H locs ls hH hS hl)
    · cases hex; exact lv_dup hx hb hd rfl (k H locs ls hH hS hl)
    · cases hex
  case dup2 =>
    split at hex
    · cases hex; exact lv_dup2_11 hx hb hd rfl rfl (k H locs ls hH hS hl)
    · cases hex
  case pop =>
    split at hex
    · cases hex; exact lv_pop hx hb hd rfl (k H locs ls hH hS hl)
    · cases hex; exact lv_pop hx hb hd rfl (k H locs ls hH hS hl)
    · cases hex
theorem Mach.blk (M : Mach d mt mc ms post L xs g) {is : List It} : ∀ {pc pc1 : Nat} {lo lo1 : Lo} {st st1 : List Value} {w w1 : Wd}, (ck mt pc is && (endp pc is == pc1)) = true → ex is lo st w = some (lo1, st1, w1) → g cs sl pc1 lo1 st1 w1 → g cs sl pc lo st w := by
  induction is with
  | nil =>
    intro pc pc1 lo lo1 st st1 w w1 hck hex k
    rw [Bool.and_eq_true] at hck
    cases hex
    have e : pc = pc1 := eq_of_beq hck.2
    rw [e]
    exact k
  | cons it r ih =>
    intro pc pc1 lo lo1 st st1 w w1 hck hex k
    rw [Bool.and_eq_true] at hck
    obtain ⟨h1, h2⟩ := hck
    unfold ck at h1
    rw [Bool.and_eq_true] at h1
    unfold ex at hex
    split at hex
    · rename_i q hq
      exact M.one h1.1 hq (ih (by rw [Bool.and_eq_true]; exact ⟨h1.2, h2⟩) hex k)
    · cases hex
end STEP
end
section
section RULES
variable {d : Nat} {mt : Mt} {mc ms : Nat} {post : Option Value → Wd → Prop} {L : Nat} {xs : Nat → Int32} {g : Nat → Nat → Nat → Lo → List Value → Wd → Prop} {cs sl pc nx : Nat} {lo : Lo} {st : List Value} {w : Wd}

def jrem (x y : Int32) : Int32 := x - x / y * y
def ckn (mt : Mt) (pc : Nat) (i : Instr) (n nx : Nat) : Bool := decide (decode mt.2.1 pc = .ok (i, n)) && (pc + n == nx)
theorem ckn_1 {mt : Mt} {pc nx n : Nat} {i : Instr} (h : ckn mt pc i n nx = true) : decode mt.2.1 pc = .ok (i, n) ∧ pc + n = nx := by
  unfold ckn at h
  rw [Bool.and_eq_true] at h
  exact ⟨of_decide_eq_true h.1, eq_of_beq h.2⟩
def ckb (mt : Mt) (pc : Nat) (i : Instr) (off : Int) (tgt nx : Nat) : Bool := ckn mt pc i 3 nx && decide ((pc : Int) + off = (tgt : Int))
theorem ckb_1 {mt : Mt} {pc tgt nx : Nat} {off : Int} {i : Instr} (h : ckb mt pc i off tgt nx = true) : decode mt.2.1 pc = .ok (i, 3) ∧ pc + 3 = nx ∧ (pc : Int) + off = (tgt : Int) := by
  unfold ckb at h
  rw [Bool.and_eq_true] at h
  exact ⟨(ckn_1 h.1).1, (ckn_1 h.1).2, of_decide_eq_true h.2⟩
theorem Mach.icmp_eq (M : Mach d mt mc ms post L xs g) {x y : Int32} {off : Int} {tgt : Nat} (hck : ckb mt pc (.if_icmp .eq off) off tgt nx = true) (kt : x = y → g cs sl tgt lo st w) (kf : ¬ x = y → g cs sl nx lo st w) : g cs sl pc lo (.int y :: .int x :: st) w := by
  obtain ⟨p, l, e, R, s, m, args, below, meth, c, Q, E, D, cI, cZ, ⟨hx, hb, hml, hown, hts, hK, hB, hR, hnm, hret, hscr⟩, rfl⟩ := M
  intro H locs ls hH hS hl
  obtain ⟨h1, rfl, h3⟩ := ckb_1 hck
  exact lv_icmp_eq hx hb h1 h3 (fun z => kt z H locs ls hH hS hl) (fun z => kf z H locs ls hH hS hl)
theorem Mach.icmp_ne (M : Mach d mt mc ms post L xs g) {x y : Int32} {off : Int} {tgt : Nat} (hck : ckb mt pc (.if_icmp .ne off) off tgt nx = true) (kt : ¬ x = y → g cs sl tgt lo st w) (kf : x = y → g cs sl nx lo st w) : g cs sl pc lo (.int y :: .int x :: st) w := by
  obtain ⟨p, l, e, R, s, m, args, below, meth, c, Q, E, D, cI, cZ, ⟨hx, hb, hml, hown, hts, hK, hB, hR, hnm, hret, hscr⟩, rfl⟩ := M
  intro H locs ls hH hS hl
  obtain ⟨h1, rfl, h3⟩ := ckb_1 hck
  exact lv_icmp_ne hx hb h1 h3 (fun z => kt z H locs ls hH hS hl) (fun z => kf z H locs ls hH hS hl)
theorem Mach.icmp_lt (M : Mach d mt mc ms post L xs g) {x y : Int32} {off : Int} {tgt : Nat} (hck : ckb mt pc (.if_icmp .lt off) off tgt nx = true) (kt : x < y → g cs sl tgt lo st w) (kf : ¬ x < y → g cs sl nx lo st w) : g cs sl pc lo (.int y :: .int x :: st) w := by
  obtain ⟨p, l, e, R, s, m, args, below, meth, c, Q, E, D, cI, cZ, ⟨hx, hb, hml, hown, hts, hK, hB, hR, hnm, hret, hscr⟩, rfl⟩ := M
  intro H locs ls hH hS hl
  obtain ⟨h1, rfl, h3⟩ := ckb_1 hck
  exact lv_icmp_lt hx hb h1 h3 (fun z => kt z H locs ls hH hS hl) (fun z => kf z H locs ls hH hS hl)
theorem Mach.icmp_ge (M : Mach d mt mc ms post L xs g) {x y : Int32} {off : Int} {tgt : Nat} (hck : ckb mt pc (.if_icmp .ge off) off tgt nx = true) (kt : y ≤ x → g cs sl tgt lo st w) (kf : ¬ y ≤ x → g cs sl nx lo st w) : g cs sl pc lo (.int y :: .int x :: st) w := by
  obtain ⟨p, l, e, R, s, m, args, below, meth, c, Q, E, D, cI, cZ, ⟨hx, hb, hml, hown, hts, hK, hB, hR, hnm, hret, hscr⟩, rfl⟩ := M
  intro H locs ls hH hS hl
  obtain ⟨h1, rfl, h3⟩ := ckb_1 hck
  exact lv_icmp_ge hx hb h1 h3 (fun z => kt z H locs ls hH hS hl) (fun z => kf z H locs ls hH hS hl)
theorem Mach.icmp_gt (M : Mach d mt mc ms post L xs g) {x y : Int32} {off : Int} {tgt : Nat} (hck : ckb mt pc (.if_icmp .gt off) off tgt nx = true) (kt : y < x → g cs sl tgt lo st w) (kf : ¬ y < x → g cs sl nx lo st w) : g cs sl pc lo (.int y :: .int x :: st) w := by
  obtain ⟨p, l, e, R, s, m, args, below, meth, c, Q, E, D, cI, cZ, ⟨hx, hb, hml, hown, hts, hK, hB, hR, hnm, hret, hscr⟩, rfl⟩ := M
  intro H locs ls hH hS hl
  obtain ⟨h1, rfl, h3⟩ := ckb_1 hck
  exact lv_icmp_gt hx hb h1 h3 (fun z => kt z H locs ls hH hS hl) (fun z => kf z H locs ls hH hS hl)
theorem Mach.icmp_le (M : Mach d mt mc ms post L xs g) {x y : Int32} {off : Int} {tgt : Nat} (hck : ckb mt pc (.if_icmp .le off) off tgt nx = true) (kt : x ≤ y → g cs sl tgt lo st w) (kf : ¬ x ≤ y → g cs sl nx lo st w) : g cs sl pc lo (.int y :: .int x :: st) w := by
  obtain ⟨p, l, e, R, s, m, args, below, meth, c, Q, E, D, cI, cZ, ⟨hx, hb, hml, hown, hts, hK, hB, hR, hnm, hret, hscr⟩, rfl⟩ := M
  intro H locs ls hH hS hl
  obtain ⟨h1, rfl, h3⟩ := ckb_1 hck
  exact lv_icmp_le hx hb h1 h3 (fun z => kt z H locs ls hH hS hl) (fun z => kf z H locs ls hH hS hl)
theorem Mach.if_eq (M : Mach d mt mc ms post L xs g) {x : Int32} {off : Int} {tgt : Nat} (hck : ckb mt pc (.ifCond .eq off) off tgt nx = true) (kt : x = 0 → g cs sl tgt lo st w) (kf : ¬ x = 0 → g cs sl nx lo st w) : g cs sl pc lo (.int x :: st) w := by
  obtain ⟨p, l, e, R, s, m, args, below, meth, c, Q, E, D, cI, cZ, ⟨hx, hb, hml, hown, hts, hK, hB, hR, hnm, hret, hscr⟩, rfl⟩ := M
  intro H locs ls hH hS hl
  obtain ⟨h1, rfl, h3⟩ := ckb_1 hck
  exact lv_if_eq hx hb h1 h3 (fun z => kt z H locs ls hH hS hl) (fun z => kf z H locs ls hH hS hl)
theorem Mach.if_ne (M : Mach d mt mc ms post L xs g) {x : Int32} {off : Int} {tgt : Nat} (hck : ckb mt pc (.ifCond .ne off) off tgt nx = true) (kt : ¬ x = 0 → g cs sl tgt lo st w) (kf : x = 0 → g cs sl nx lo st w) : g cs sl pc lo (.int x :: st) w := by
  obtain ⟨p, l, e, R, s, m, args, below, meth, c, Q, E, D, cI, cZ, ⟨hx, hb, hml, hown, hts, hK, hB, hR, hnm, hret, hscr⟩, rfl⟩ := M
  intro H locs ls hH hS hl
  obtain ⟨h1, rfl, h3⟩ := ckb_1 hck
  exact lv_if_ne hx hb h1 h3 (fun z => kt z H locs ls hH hS hl) (fun z => kf z H locs ls hH hS hl)
theorem Mach.if_lt (M : Mach d mt mc ms post L xs g) {x : Int32} {off : Int} {tgt : Nat} (hck : ckb mt pc (.ifCond .lt off) off tgt nx = true) (kt : x < 0 → g cs sl tgt lo st w) (kf : ¬ x < 0 → g cs sl nx lo st w) : g cs sl pc lo (.int x :: st) w := by
  obtain ⟨p, l, e, R, s, m, args, below, meth, c, Q, E, D, cI, cZ, ⟨hx, hb, hml, hown, hts, hK, hB, hR, hnm, hret, hscr⟩, rfl⟩ := M
  intro H locs ls hH hS hl
  obtain ⟨h1, rfl, h3⟩ := ckb_1 hck
  exact lv_if_lt hx hb h1 h3 (fun z => kt z H locs ls hH hS hl) (fun z => kf z H locs ls hH hS hl)
theorem Mach.if_ge (M : Mach d mt mc ms post L xs g) {x : Int32} {off : Int} {tgt : Nat} (hck : ckb mt pc (.ifCond .ge off) off tgt nx = true) (kt : 0 ≤ x → g cs sl tgt lo st w) (kf : ¬ 0 ≤ x → g cs sl nx lo st w) : g cs sl pc lo (.int x :: st) w := by
  obtain ⟨p, l, e, R, s, m, args, below, meth, c, Q, E, D, cI, cZ, ⟨hx, hb, hml, hown, hts, hK, hB, hR, hnm, hret, hscr⟩, rfl⟩ := M
  intro H locs ls hH hS hl
  obtain ⟨h1, rfl, h3⟩ := ckb_1 hck
  exact lv_if_ge hx hb h1 h3 (fun z => kt z H locs ls hH hS hl) (fun z => kf z H locs ls hH hS hl)
theorem Mach.if_gt (M : Mach d mt mc ms post L xs g) {x : Int32} {off : Int} {tgt : Nat} (hck : ckb mt pc (.ifCond .gt off) off tgt nx = true) (kt : 0 < x → g cs sl tgt lo st w) (kf : ¬ 0 < x → g cs sl nx lo st w) : g cs sl pc lo (.int x :: st) w := by
  obtain ⟨p, l, e, R, s, m, args, below, meth, c, Q, E, D, cI, cZ, ⟨hx, hb, hml, hown, hts, hK, hB, hR, hnm, hret, hscr⟩, rfl⟩ := M
  intro H locs ls hH hS hl
  obtain ⟨h1, rfl, h3⟩ := ckb_1 hck
  exact lv_if_gt hx hb h1 h3 (fun z => kt z H locs ls hH hS hl) (fun z => kf z H locs ls hH hS hl)
theorem Mach.if_le (M : Mach d mt mc ms post L xs g) {x : Int32} {off : Int} {tgt : Nat} (hck : ckb mt pc (.ifCond .le off) off tgt nx = true) (kt : x ≤ 0 → g cs sl tgt lo st w) (kf : ¬ x ≤ 0 → g cs sl nx lo st w) : g cs sl pc lo (.int x :: st) w := by
  obtain ⟨p, l, e, R, s, m, args, below, meth, c, Q, E, D, cI, cZ, ⟨hx, hb, hml, hown, hts, hK, hB, hR, hnm, hret, hscr⟩, rfl⟩ := M
  intro H locs ls hH hS hl
  obtain ⟨h1, rfl, h3⟩ := ckb_1 hck
  exact lv_if_le hx hb h1 h3 (fun z => kt z H locs ls hH hS hl) (fun z => kf z H locs ls hH hS hl)
def ckt (mt : Mt) (pc : Nat) (dflt a b : Int) (offs : Array Int) (len : Nat) (tg : List Nat) (dt : Nat) : Bool := decide (decode mt.2.1 pc = .ok (.tableswitch dflt a b offs, len)) && (decide ((pc : Int) + dflt = (dt : Int)) && (decide (b = a + (tg.length : Int) - 1) && decide (offs.toList.map (fun z => (pc : Int) + z) = tg.map (fun z : Nat => (z : Int)))))
theorem Mach.tsw (M : Mach d mt mc ms post L xs g) {x : Int32} {dflt a b : Int} {offs : Array Int} {len : Nat} {tg : List Nat} {dt : Nat} (hck : ckt mt pc dflt a b offs len tg dt = true) (ki : ∀ (j t : Nat), tg[j]? = some t → x.toInt = a + (j : Int) → g cs sl t lo st w) (ko : (x.toInt < a ∨ a + (tg.length : Int) ≤ x.toInt) → g cs sl dt lo st w) : g cs sl pc lo (.int x :: st) w := by
  obtain ⟨p, l, e, R, s, m, args, below, meth, c, Q, E, D, cI, cZ, ⟨hx, hb, hml, hown, hts, hK, hB, hR, hnm, hret, hscr⟩, rfl⟩ := M
  intro H locs ls hH hS hl
  unfold ckt at hck
  rw [Bool.and_eq_true, Bool.and_eq_true, Bool.and_eq_true] at hck
  have h1 := of_decide_eq_true hck.1
  have h2 := of_decide_eq_true hck.2.1
  have h3 := of_decide_eq_true hck.2.2.1
  have h4 := of_decide_eq_true hck.2.2.2
  by_cases ho : x.toInt < a ∨ b < x.toInt
  · exact lv_tableOut hx hb h1 ho h2 (ko (by omega) H locs ls hH hS hl)
  · have hj : (x.toInt - a).toNat < tg.length := by omega
    have hl2 : offs.toList.length = tg.length := by
      have := congrArg List.length h4
      simpa using this
    have hoff : offs[(x.toInt - a).toNat]? = some offs.toList[(x.toInt - a).toNat] := by
      rw [← Array.getElem?_toList, List.getElem?_eq_getElem]
    have h5 : (pc : Int) + offs.toList[(x.toInt - a).toNat] = ((tg[(x.toInt - a).toNat] : Nat) : Int) := by
      have h6 : (offs.toList.map (fun z => (pc : Int) + z))[(x.toInt - a).toNat]? = (tg.map (fun z : Nat => (z : Int)))[(x.toInt - a).toNat]? := by rw [h4]
      rw [List.getElem?_map, List.getElem?_map, List.getElem?_eq_getElem (show (x.toInt - a).toNat < offs.toList.length by omega), List.getElem?_eq_getElem hj] at h6
      exact Option.some.inj h6
    exact lv_tableIn hx hb h1 (by omega) (by omega) hoff h5 (ki (x.toInt - a).toNat _ (List.getElem?_eq_getElem hj) (by omega) H locs ls hH hS hl)
theorem Mach.ald (M : Mach d mt mc ms post L xs g) {k n : Nat} {f : Nat → Int32} {i : Int32} {j : Nat} (hck : ckn mt pc .iaload 1 nx = true) (hlk : lkc w k = some (.inr (false, n, f))) (hi : i = nI j) (hj : j < n) (hn : n < 2147483648) (kk : g cs sl nx lo (.int (f j) :: st) w) : g cs sl pc lo (.int i :: .ref k :: st) w := by
  obtain ⟨p, l, e, R, s, m, args, below, meth, c, Q, E, D, cI, cZ, ⟨hx, hb, hml, hown, hts, hK, hB, hR, hnm, hret, hscr⟩, rfl⟩ := M
  intro H locs ls hH hS hl
  obtain ⟨h1, rfl⟩ := ckn_1 hck
  subst hi
  refine va_iald hx hb hK.1 hH.1 (psn w k) 0 (rwd_get hlk) rfl (vp_in_nI hj hn) h1 ?_
  rw [nI_clamp (by omega)]
  exact kk H locs ls hH hS hl
theorem Mach.zld (M : Mach d mt mc ms post L xs g) {k n : Nat} {f : Nat → Int32} {i : Int32} {j : Nat} (hck : ckn mt pc .baload 1 nx = true) (hlk : lkc w k = some (.inr (true, n, f))) (hi : i = nI j) (hj : j < n) (hn : n < 2147483648) (kk : g cs sl nx lo (.int (f j) :: st) w) : g cs sl pc lo (.int i :: .ref k :: st) w := by
  obtain ⟨p, l, e, R, s, m, args, below, meth, c, Q, E, D, cI, cZ, ⟨hx, hb, hml, hown, hts, hK, hB, hR, hnm, hret, hscr⟩, rfl⟩ := M
  intro H locs ls hH hS hl
  obtain ⟨h1, rfl⟩ := ckn_1 hck
  subst hi
  refine va_zald hx hb hK.1 hH.1 (psn w k) 1 (rwd_get hlk) rfl (vp_in_nI hj hn) h1 ?_
  rw [nI_clamp (by omega)]
  exact kk H locs ls hH hS hl
theorem Mach.alen (M : Mach d mt mc ms post L xs g) {k n : Nat} {f : Nat → Int32} {b : Bool} (hck : ckn mt pc .arraylength 1 nx = true) (hlk : lkc w k = some (.inr (b, n, f))) (kk : g cs sl nx lo (.int (nI n) :: st) w) : g cs sl pc lo (.ref k :: st) w := by
  obtain ⟨p, l, e, R, s, m, args, below, meth, c, Q, E, D, cI, cZ, ⟨hx, hb, hml, hown, hts, hK, hB, hR, hnm, hret, hscr⟩, rfl⟩ := M
  intro H locs ls hH hS hl
  obtain ⟨h1, rfl⟩ := ckn_1 hck
  cases b with
  | false => exact va_alen hx hb hK.1 hH.1 (psn w k) 0 (rwd_get hlk) rfl rfl h1 (kk H locs ls hH hS hl)
  | true => exact va_alen hx hb hK.1 hH.1 (psn w k) 1 (rwd_get hlk) rfl rfl h1 (kk H locs ls hH hS hl)
theorem Mach.ast (M : Mach d mt mc ms post L xs g) {k n : Nat} {f : Nat → Int32} {i x : Int32} {j : Nat} (hck : ckn mt pc .iastore 1 nx = true) (hlk : lkc w k = some (.inr (false, n, f))) (hi : i = nI j) (hj : j < n) (hn : n < 2147483648) (kk : g cs sl nx lo st (stc w k (.inr (false, n, upd f j x)))) : g cs sl pc lo (.int x :: .int i :: .ref k :: st) w := by
  obtain ⟨p, l, e, R, s, m, args, below, meth, c, Q, E, D, cI, cZ, ⟨hx, hb, hml, hown, hts, hK, hB, hR, hnm, hret, hscr⟩, rfl⟩ := M
  intro H locs ls hH hS hl
  obtain ⟨h1, rfl⟩ := ckn_1 hck
  subst hi
  have hset : (rwd E cI cZ w).set (psn w k) (adr E k, Sum.inl (cI, n, Sum.inl (upd f (nI j).toNatClampNeg x))) = rwd E cI cZ (stc w k (.inr (false, n, upd f j x))) := by
    rw [← rwd_set hlk, nI_clamp (by omega)]
    rfl
  have hlen := stc_len (w := w) (k := k) (c := .inr (false, n, upd f j x))
  refine mx_iast hx hb hK.1 hH.1 hH.2.1 hS (psn w k) 0 (rwd_get hlk) rfl (vp_in_nI hj hn) h1 (fun H1 locs1 hz1 hP1 hD1 hS1 => ?_)
  exact kk H1 locs1 ls ⟨hset ▸ hP1, hset ▸ hD1, by rw [hz1, hlen.1, hlen.2]; exact hH.2.2⟩ hS1 hl
theorem Mach.zst (M : Mach d mt mc ms post L xs g) {k n : Nat} {f : Nat → Int32} {i x : Int32} {j : Nat} (hck : ckn mt pc .bastore 1 nx = true) (hlk : lkc w k = some (.inr (true, n, f))) (hi : i = nI j) (hj : j < n) (hn : n < 2147483648) (hx01 : x = 0 ∨ x = 1) (kk : g cs sl nx lo st (stc w k (.inr (true, n, upd f j x)))) : g cs sl pc lo (.int x :: .int i :: .ref k :: st) w := by
  obtain ⟨p, l, e, R, s, m, args, below, meth, c, Q, E, D, cI, cZ, ⟨hx, hb, hml, hown, hts, hK, hB, hR, hnm, hret, hscr⟩, rfl⟩ := M
  intro H locs ls hH hS hl
  obtain ⟨h1, rfl⟩ := ckn_1 hck
  subst hi
  have hnr : vp_nar .boolean x = x := by rcases hx01 with rfl | rfl <;> rfl
  have hset : (rwd E cI cZ w).set (psn w k) (adr E k, Sum.inl (cZ, n, Sum.inl (upd f (nI j).toNatClampNeg (vp_nar .boolean x)))) = rwd E cI cZ (stc w k (.inr (true, n, upd f j x))) := by
    rw [← rwd_set hlk, nI_clamp (by omega), hnr]
    rfl
  have hlen := stc_len (w := w) (k := k) (c := .inr (true, n, upd f j x))
  refine mx_zast hx hb hK.1 hH.1 hH.2.1 hS (psn w k) 1 (rwd_get hlk) rfl (vp_in_nI hj hn) h1 (fun H1 locs1 hz1 hP1 hD1 hS1 => ?_)
  exact kk H1 locs1 ls ⟨hset ▸ hP1, hset ▸ hD1, by rw [hz1, hlen.1, hlen.2]; exact hH.2.2⟩ hS1 hl
theorem Mach.idv (M : Mach d mt mc ms post L xs g) {x y : Int32} (hck : ckn mt pc .idiv 1 nx = true) (hne : ¬ y = 0) (kk : g cs sl nx lo (.int (x / y) :: st) w) : g cs sl pc lo (.int y :: .int x :: st) w := by
  obtain ⟨p, l, e, R, s, m, args, below, meth, c, Q, E, D, cI, cZ, ⟨hx, hb, hml, hown, hts, hK, hB, hR, hnm, hret, hscr⟩, rfl⟩ := M
  intro H locs ls hH hS hl
  obtain ⟨h1, rfl⟩ := ckn_1 hck
  exact lv_idiv hx hb h1 hne (kk H locs ls hH hS hl)
theorem Mach.irm (M : Mach d mt mc ms post L xs g) {x y : Int32} (hck : ckn mt pc .irem 1 nx = true) (hne : ¬ y = 0) (kk : g cs sl nx lo (.int (jrem x y) :: st) w) : g cs sl pc lo (.int y :: .int x :: st) w := by
  obtain ⟨p, l, e, R, s, m, args, below, meth, c, Q, E, D, cI, cZ, ⟨hx, hb, hml, hown, hts, hK, hB, hR, hnm, hret, hscr⟩, rfl⟩ := M
  intro H locs ls hH hS hl
  obtain ⟨h1, rfl⟩ := ckn_1 hck
  exact lv_irem hx hb h1 hne (kk H locs ls hH hS hl)
theorem Mach.ldl (M : Mach d mt mc ms post L xs g) {v : Int64} {idx : Nat} (hck : ckn mt pc (.ldc2_w idx) 3 nx = true) (hw : Cond.constantLong (oN mt.2.2.2.2) idx v ∈ lw_good) (kk : g cs sl nx lo (.long v :: st) w) : g cs sl pc lo st w := by
  obtain ⟨p, l, e, R, s, m, args, below, meth, c, Q, E, D, cI, cZ, ⟨hx, hb, hml, hown, hts, hK, hB, hR, hnm, hret, hscr⟩, rfl⟩ := M
  intro H locs ls hH hS hl
  obtain ⟨h1, rfl⟩ := ckn_1 hck
  exact lv_ldc2 hx hb hown (hts _ hw) h1 (kk H locs ls hH hS hl)
theorem Mach.ldi (M : Mach d mt mc ms post L xs g) {v : Int32} {idx : Nat} (hck : ckn mt pc (.ldc_w idx) 3 nx = true) (hw : Cond.constant (oN mt.2.2.2.2) idx v ∈ lw_good) (kk : g cs sl nx lo (.int v :: st) w) : g cs sl pc lo st w := by
  obtain ⟨p, l, e, R, s, m, args, below, meth, c, Q, E, D, cI, cZ, ⟨hx, hb, hml, hown, hts, hK, hB, hR, hnm, hret, hscr⟩, rfl⟩ := M
  intro H locs ls hH hS hl
  obtain ⟨h1, rfl⟩ := ckn_1 hck
  exact lv_ldcw hx hb hown (hts _ hw) h1 (kk H locs ls hH hS hl)
theorem Mach.gord (M : Mach d mt mc ms post L xs g) {idx : Nat} (hck : ckn mt pc (.getstatic idx) 3 nx = true) (hw : Cond.fieldLink (oN mt.2.2.2.2) idx "DisturbedCells$Bench" "ORDER" "[I" ∈ lw_good) (kk : g cs sl nx lo (.ref 98 :: st) w) : g cs sl pc lo st w := by
  obtain ⟨p, l, e, R, s, m, args, below, meth, c, Q, E, D, cI, cZ, ⟨hx, hb, hml, hown, hts, hK, hB, hR, hnm, hret, hscr⟩, rfl⟩ := M
  intro H locs ls hH hS hl
  obtain ⟨h1, rfl⟩ := ckn_1 hck
  exact va_gets hx hb hK.2.2.1 hS hown (hts _ hw) (fun _ h => h) h1 (kk H locs ls hH hS hl)
theorem Mach.lord (M : Mach d mt mc ms post L xs g) (hck : ckn mt pc .arraylength 1 nx = true) (kk : g cs sl nx lo (.int 5 :: st) w) : g cs sl pc lo (.ref 98 :: st) w := by
  obtain ⟨p, l, e, R, s, m, args, below, meth, c, Q, E, D, cI, cZ, ⟨hx, hb, hml, hown, hts, hK, hB, hR, hnm, hret, hscr⟩, rfl⟩ := M
  intro H locs ls hH hS hl
  obtain ⟨h1, rfl⟩ := ckn_1 hck
  exact va_tlen hx hb hK.2.2.2 hS (v := 5) rfl h1 (kk H locs ls hH hS hl)
theorem Mach.aord (M : Mach d mt mc ms post L xs g) {i : Int32} {j : Nat} (hck : ckn mt pc .iaload 1 nx = true) (hi : i = nI j) (hj : j < 5) (kk : g cs sl nx lo (.int (ordF j) :: st) w) : g cs sl pc lo (.int i :: .ref 98 :: st) w := by
  obtain ⟨p, l, e, R, s, m, args, below, meth, c, Q, E, D, cI, cZ, ⟨hx, hb, hml, hown, hts, hK, hB, hR, hnm, hret, hscr⟩, rfl⟩ := M
  intro H locs ls hH hS hl
  obtain ⟨h1, rfl⟩ := ckn_1 hck
  subst hi
  exact va_ti hx hb hK.2.2.2 hS (vp_in_nI hj (by decide)) (v := .int (ordF j)) (by rw [nI_clamp (by omega)]) h1 (kk H locs ls hH hS hl)
theorem Mach.scl (M : Mach d mt mc ms post L xs g) (h0 : 0 < L) (hck : ckn mt pc .arraylength 1 nx = true) (kk : g cs sl nx lo (.int (nI L) :: st) w) : g cs sl pc lo (.ref 99 :: st) w := by
  obtain ⟨p, l, e, R, s, m, args, below, meth, c, Q, E, D, cI, cZ, ⟨hx, hb, hml, hown, hts, hK, hB, hR, hnm, hret, hscr⟩, rfl⟩ := M
  intro H locs ls hH hS hl
  obtain ⟨h1, rfl⟩ := ckn_1 hck
  obtain ⟨hX, hbl, hbB⟩ := hscr.resolve_left (by omega)
  exact va_slen hx hb hX hbl (Nat.not_le.mpr hbB) hS h1 (kk H locs ls hH hS hl)
theorem Mach.sca (M : Mach d mt mc ms post L xs g) {i : Int32} {j : Nat} (hL : L < 2147483648) (hck : ckn mt pc .iaload 1 nx = true) (hi : i = nI j) (hj : j < L) (kk : g cs sl nx lo (.int (xs j) :: st) w) : g cs sl pc lo (.int i :: .ref 99 :: st) w := by
  obtain ⟨p, l, e, R, s, m, args, below, meth, c, Q, E, D, cI, cZ, ⟨hx, hb, hml, hown, hts, hK, hB, hR, hnm, hret, hscr⟩, rfl⟩ := M
  intro H locs ls hH hS hl
  obtain ⟨h1, rfl⟩ := ckn_1 hck
  obtain ⟨hX, hbl, hbB⟩ := hscr.resolve_left (by omega)
  subst hi
  refine va_sld hx hb hX hbl (Nat.not_le.mpr hbB) hS (vp_in_nI hj hL) h1 ?_
  rw [nI_clamp (by omega)]
  exact kk H locs ls hH hS hl
theorem Mach.putl (M : Mach d mt mc ms post L xs g) {idx a b k : Nat} {fs : List Value} {x : Int64} (hck : (ckn mt pc (.putfield idx) 3 nx && (flI mt idx a b && (decide (yN a b = .long) && !(tN a b).2.2.2))) = true) (hlk : lkc w k = some (.inl (a, fs))) (hbl : b < fs.length) (kk : g cs sl nx lo st (stc w k (.inl (a, fs.set b (Value.long x))))) : g cs sl pc lo (Value.long x :: .ref k :: st) w := by
  obtain ⟨p, l, e, R, s, m, args, below, meth, c, Q, E, D, cI, cZ, ⟨hx, hb, hml, hown, hts, hK, hB, hR, hnm, hret, hscr⟩, rfl⟩ := M
  intro H locs ls hH hS hl
  rw [Bool.and_eq_true, Bool.and_eq_true, Bool.and_eq_true] at hck
  obtain ⟨h1, rfl⟩ := ckn_1 hck.1
  obtain ⟨h5, hn, hlink⟩ := flI_ok hck.2.1
  have hyi := of_decide_eq_true hck.2.2.1
  have hfin : (tN a b).2.2.2 = false := by simpa using hck.2.2.2
  obtain ⟨hc, hin, hty, hnm2⟩ := cls_ok _ h5
  have he := rwd_get (E := E) (cI := cI) (cZ := cZ) hlk
  have hbl2 : b < (fs.map (rvl E)).length := by rw [List.length_map]; exact hbl
  have hset : (rwd E cI cZ w).set (psn w k) (adr E k, Sum.inr (a, (fs.map (rvl E)).set b (Value.long x))) = rwd E cI cZ (stc w k (.inl (a, fs.set b (Value.long x)))) := by
    rw [← rwd_set hlk]
    show _ = (rwd E cI cZ w).set (psn w k) (adr E k, Sum.inr (a, (fs.set b (Value.long x)).map (rvl E)))
    rw [List.map_set]
    rfl
  have hd2 : parseFieldDescriptor (tN a b).2.2.1 = some .long := by rw [hty b hn, hyi]
  have hlen := stc_len (w := w) (k := k) (c := .inl (a, fs.set b (Value.long x)))
  rcases hlink with hlink | hlink
  · refine mx_put hx hb hts hin (yN a) hty hnm2 hown hK.1 hH.1 hH.2.1 hS (psn w k) he hc b hn (hts _ hlink) (fun _ h => h) hfin hd2 rfl rfl hbl2 h1 (fun H1 locs1 hz1 hP1 hD1 hS1 => ?_)
    exact kk H1 locs1 ls ⟨hset ▸ hP1, hset ▸ hD1, by rw [hz1, hlen.1, hlen.2]; exact hH.2.2⟩ hS1 hl
  · refine mx_putN hx hb hts hin (yN a) hty hnm2 hown hK.1 hH.1 hH.2.1 hS (psn w k) he hc b hn (va_Nw.use rfl (hK.2.1 _ hlink)) (fun _ h => h) hfin hd2 rfl rfl hbl2 h1 (fun H1 locs1 hz1 hP1 hD1 hS1 => ?_)
    exact kk H1 locs1 ls ⟨hset ▸ hP1, hset ▸ hD1, by rw [hz1, hlen.1, hlen.2]; exact hH.2.2⟩ hS1 hl
theorem Mach.putz (M : Mach d mt mc ms post L xs g) {idx a b k : Nat} {fs : List Value} {x : Int32} (hck : (ckn mt pc (.putfield idx) 3 nx && (flI mt idx a b && (decide (yN a b = .boolean) && !(tN a b).2.2.2))) = true) (hlk : lkc w k = some (.inl (a, fs))) (hbl : b < fs.length) (hx01 : x = 0 ∨ x = 1) (kk : g cs sl nx lo st (stc w k (.inl (a, fs.set b (Value.int x))))) : g cs sl pc lo (Value.int x :: .ref k :: st) w := by
  obtain ⟨p, l, e, R, s, m, args, below, meth, c, Q, E, D, cI, cZ, ⟨hx, hb, hml, hown, hts, hK, hB, hR, hnm, hret, hscr⟩, rfl⟩ := M
  intro H locs ls hH hS hl
  rw [Bool.and_eq_true, Bool.and_eq_true, Bool.and_eq_true] at hck
  obtain ⟨h1, rfl⟩ := ckn_1 hck.1
  obtain ⟨h5, hn, hlink⟩ := flI_ok hck.2.1
  have hyi := of_decide_eq_true hck.2.2.1
  have hfin : (tN a b).2.2.2 = false := by simpa using hck.2.2.2
  obtain ⟨hc, hin, hty, hnm2⟩ := cls_ok _ h5
  have he := rwd_get (E := E) (cI := cI) (cZ := cZ) hlk
  have hbl2 : b < (fs.map (rvl E)).length := by rw [List.length_map]; exact hbl
  have hset : (rwd E cI cZ w).set (psn w k) (adr E k, Sum.inr (a, (fs.map (rvl E)).set b (Value.int x))) = rwd E cI cZ (stc w k (.inl (a, fs.set b (Value.int x)))) := by
    rw [← rwd_set hlk]
    show _ = (rwd E cI cZ w).set (psn w k) (adr E k, Sum.inr (a, (fs.set b (Value.int x)).map (rvl E)))
    rw [List.map_set]
    rfl
  have hd2 : parseFieldDescriptor (tN a b).2.2.1 = some .boolean := by rw [hty b hn, hyi]
  have hlen := stc_len (w := w) (k := k) (c := .inl (a, fs.set b (Value.int x)))
  rcases hlink with hlink | hlink
  · refine mx_put hx hb hts hin (yN a) hty hnm2 hown hK.1 hH.1 hH.2.1 hS (psn w k) he hc b hn (hts _ hlink) (fun _ h => h) hfin hd2 (by rcases hx01 with rfl | rfl <;> rfl) (by rcases hx01 with rfl | rfl <;> rfl) hbl2 h1 (fun H1 locs1 hz1 hP1 hD1 hS1 => ?_)
    exact kk H1 locs1 ls ⟨hset ▸ hP1, hset ▸ hD1, by rw [hz1, hlen.1, hlen.2]; exact hH.2.2⟩ hS1 hl
  · refine mx_putN hx hb hts hin (yN a) hty hnm2 hown hK.1 hH.1 hH.2.1 hS (psn w k) he hc b hn (va_Nw.use rfl (hK.2.1 _ hlink)) (fun _ h => h) hfin hd2 (by rcases hx01 with rfl | rfl <;> rfl) (by rcases hx01 with rfl | rfl <;> rfl) hbl2 h1 (fun H1 locs1 hz1 hP1 hD1 hS1 => ?_)
    exact kk H1 locs1 ls ⟨hset ▸ hP1, hset ▸ hD1, by rw [hz1, hlen.1, hlen.2]; exact hH.2.2⟩ hS1 hl
theorem Mach.putF (M : Mach d mt mc ms post L xs g) {idx b k r : Nat} {fs : List Value} {ty : FieldType} (hck : (ckn mt pc (.putfield idx) 3 nx && (flI mt idx mt.2.2.2.2 b && (decide (yN mt.2.2.2.2 b = ty) && (tN mt.2.2.2.2 b).2.2.2))) = true) (hw : Cond.fieldLink (oN mt.2.2.2.2) idx (tN mt.2.2.2.2 b).1 (tN mt.2.2.2.2 b).2.1 (tN mt.2.2.2.2 b).2.2.1 ∈ lw_good) (hini : mt.1.name = "<init>") (hdecl : (tN mt.2.2.2.2 b).1 = oN mt.2.2.2.2) (hnr : ∀ z : Nat, narrow ty (.ref z) = .ref z ∧ fits ty (.ref z) = true) (hlk : lkc w k = some (.inl (mt.2.2.2.2, fs))) (hbl : b < fs.length) (kk : g cs sl nx lo st (stc w k (.inl (mt.2.2.2.2, fs.set b (.ref r))))) : g cs sl pc lo (.ref r :: .ref k :: st) w := by
  obtain ⟨p, l, e, R, s, m, args, below, meth, c, Q, E, D, cI, cZ, ⟨hx, hb, hml, hown, hts, hK, hB, hR, hnm, hret, hscr⟩, rfl⟩ := M
  intro H locs ls hH hS hl
  rw [Bool.and_eq_true, Bool.and_eq_true, Bool.and_eq_true] at hck
  obtain ⟨h1, rfl⟩ := ckn_1 hck.1
  obtain ⟨h5, hn, hlink⟩ := flI_ok hck.2.1
  have hyi := of_decide_eq_true hck.2.2.1
  have hfin : (tN mt.2.2.2.2 b).2.2.2 = true := by simpa using hck.2.2.2
  obtain ⟨hc, hin, hty, hnm2⟩ := cls_ok _ h5
  have he := rwd_get (E := E) (cI := cI) (cZ := cZ) hlk
  have hbl2 : b < (fs.map (rvl E)).length := by rw [List.length_map]; exact hbl
  have hset : (rwd E cI cZ w).set (psn w k) (adr E k, Sum.inr (mt.2.2.2.2, (fs.map (rvl E)).set b (.ref (adr E r)))) = rwd E cI cZ (stc w k (.inl (mt.2.2.2.2, fs.set b (.ref r)))) := by
    rw [← rwd_set hlk]
    show _ = (rwd E cI cZ w).set (psn w k) (adr E k, Sum.inr (mt.2.2.2.2, (fs.set b (.ref r)).map (rvl E)))
    rw [List.map_set]
    rfl
  have hd2 : parseFieldDescriptor (tN mt.2.2.2.2 b).2.2.1 = some ty := by rw [hty b hn, hyi]
  have hlen := stc_len (w := w) (k := k) (c := .inl (mt.2.2.2.2, fs.set b (.ref r)))
  refine mx_putF hx hb hts hin (yN mt.2.2.2.2) hty hnm2 hown hK.1 hH.1 hH.2.1 hS (psn w k) he hc b hn (hts _ hw) (fun _ h => h) hfin (hnm.trans hini) hdecl hd2 (hnr _).1 (hnr _).2 hbl2 h1 (fun H1 locs1 hz1 hP1 hD1 hS1 => ?_)
  exact kk H1 locs1 ls ⟨hset ▸ hP1, hset ▸ hD1, by rw [hz1, hlen.1, hlen.2]; exact hH.2.2⟩ hS1 hl
theorem Mach.reti (M : Mach d mt mc ms post L xs g) {v : Int32} (hck : (ckn mt pc .ireturn 1 nx && decide (mt.2.2.2.1 = some .int)) = true) (hp : post (some (.int v)) w) : g mc ms pc lo [.int v] w := by
  obtain ⟨p, l, e, R, s, m, args, below, meth, c, Q, E, D, cI, cZ, ⟨hx, hb, hml, hown, hts, hK, hB, hR, hnm, hret, hscr⟩, rfl⟩ := M
  intro H locs ls hH hS hl
  rw [Bool.and_eq_true] at hck
  exact hret pc (some (.int v)) w H locs ls (Or.inr (Or.inl ⟨v, rfl, Or.inl (of_decide_eq_true hck.2), (ckn_1 hck.1).1⟩)) hp hH hS
theorem Mach.retz (M : Mach d mt mc ms post L xs g) {v : Int32} (hck : (ckn mt pc .ireturn 1 nx && decide (mt.2.2.2.1 = some .boolean)) = true) (h01 : v = 0 ∨ v = 1) (hp : post (some (.int v)) w) : g mc ms pc lo [.int v] w := by
  obtain ⟨p, l, e, R, s, m, args, below, meth, c, Q, E, D, cI, cZ, ⟨hx, hb, hml, hown, hts, hK, hB, hR, hnm, hret, hscr⟩, rfl⟩ := M
  intro H locs ls hH hS hl
  rw [Bool.and_eq_true] at hck
  exact hret pc (some (.int v)) w H locs ls (Or.inr (Or.inl ⟨v, rfl, Or.inr ⟨of_decide_eq_true hck.2, h01⟩, (ckn_1 hck.1).1⟩)) hp hH hS
theorem Mach.retl (M : Mach d mt mc ms post L xs g) {v : Int64} (hck : (ckn mt pc .lreturn 1 nx && decide (mt.2.2.2.1 = some .long)) = true) (hp : post (some (.long v)) w) : g mc ms pc lo [.long v] w := by
  obtain ⟨p, l, e, R, s, m, args, below, meth, c, Q, E, D, cI, cZ, ⟨hx, hb, hml, hown, hts, hK, hB, hR, hnm, hret, hscr⟩, rfl⟩ := M
  intro H locs ls hH hS hl
  rw [Bool.and_eq_true] at hck
  exact hret pc (some (.long v)) w H locs ls (Or.inr (Or.inr ⟨v, rfl, of_decide_eq_true hck.2, (ckn_1 hck.1).1⟩)) hp hH hS
theorem Mach.retv (M : Mach d mt mc ms post L xs g) (hck : (ckn mt pc .return_ 1 nx && decide (mt.2.2.2.1 = none)) = true) (hp : post none w) : g mc ms pc lo [] w := by
  obtain ⟨p, l, e, R, s, m, args, below, meth, c, Q, E, D, cI, cZ, ⟨hx, hb, hml, hown, hts, hK, hB, hR, hnm, hret, hscr⟩, rfl⟩ := M
  intro H locs ls hH hS hl
  rw [Bool.and_eq_true] at hck
  exact hret pc none w H locs ls (Or.inl ⟨rfl, of_decide_eq_true hck.2, (ckn_1 hck.1).1⟩) hp hH hS
end RULES
end
section
section CALLS
def PcC (E : Ev) (D : va_G) (cI cZ : ClassId) (av : List Value) (w : Wd) : Array Value → State → Prop := fun a U => a = (av.map (rvl E)).toArray ∧ HH E D cI cZ w U.heap ∧ KK E D cI cZ U
def QcC (E : Ev) (D : va_G) (cI cZ : ClassId) (post : Option Value → Wd → Prop) : Array Value → State → Outcome → State → Prop := fun _ st oc t => (∃ (r : Option Value) (w' : Wd), oc = .returned (r.map (rvl E)) ∧ post r w' ∧ HH E D cI cZ w' t.heap) ∧ va_F (fun q => E.1 ≤ q) st t
/-- A CONTRACT: at depth d the method mt, with the arguments av in the world w, makes mc cells of ms slots, returns, and 'post' holds of its answer and the world behind it -/
def CC (d : Nat) (mt : Mt) (mc ms : Nat) (av : List Value) (w : Wd) (post : Option Value → Wd → Prop) : Prop :=
  ∀ (l : Launch) (E : Ev) (D : va_G) (cI cZ : ClassId), Met l mt.1 (Cond.code mt.1 mt.2.1 mt.2.2.1 mt.2.2.2.1 :: lw_good) { frames := d, cells := mc, slots := ms, locals := 40 * d } (PcC E D cI cZ av w) (QcC E D cI cZ post) mc ms (fun q => E.1 ≤ q)
theorem rlo_args (E : Ev) : ∀ (av : List Value) (i : Nat), rlo E (lv_args i av) = lv_args i (av.map (rvl E))
  | [], _ => rfl
  | v :: r, i => by
    show (i, rvl E v) :: rlo E (lv_args _ r) = (i, rvl E v) :: lv_args _ (r.map (rvl E))
    rw [rlo_args E r, rvl_cat]
theorem lg_sl_rvl (E : Ev) : ∀ (av : List Value), (lg_sl (av.map (rvl E))).length = (lg_sl av).length
  | [] => rfl
  | v :: r => by
    have h := lg_sl_rvl E r
    unfold lg_sl at h ⊢
    rw [List.map_cons, List.flatMap_cons, List.flatMap_cons, List.length_append, List.length_append, h, rvl_cat]
    congr 1
    split <;> rfl
theorem nest_kind : ∀ w ∈ lw_nest, (∃ a i b n d h, w = .fieldLinkNest a i b n d h) ∨ (∃ a i x h, w = .methodLinkNest a i x h) := by
  unfold lw_nest
  simp only [List.forall_mem_cons]
  refine ⟨?_, ?_, ?_, ?_, ?_, ?_, ?_, ?_, ?_, ?_, ?_, ?_, ?_, ?_, ?_, fun _ h => absurd h List.not_mem_nil⟩ <;> first | exact Or.inl ⟨_, _, _, _, _, _, rfl⟩ | exact Or.inr ⟨_, _, _, _, rfl⟩
theorem KK_moved {E : Ev} {D : va_G} {cI cZ : ClassId} {s U : State} {locs : List Loc} (h : KK E D cI cZ s) (hW : s.WarmedH U.vm) (hS : va_S (fun q => E.1 ≤ q) s.heap U.heap locs) : KK E D cI cZ U := by
  obtain ⟨h1, h2, h3, h4⟩ := h
  refine ⟨va_K.moved hW.alike h1, fun w hw => ?_, (h3.kept hS.2.1).moved hW.alike, (h4.kept hS.2.1).moved hW.alike⟩
  rcases nest_kind w hw with ⟨a, i, b, n, d, hh, rfl⟩ | ⟨a, i, x, hh, rfl⟩
  · exact va_Nw.warmF hW (h2 _ hw)
  · exact va_Nw.warmM hW (h2 _ hw)
theorem PcC_blind (E : Ev) (D : va_G) (cI cZ : ClassId) (av : List Value) (w : Wd) : FrameBlind (PcC E D cI cZ av w) := by
  intro a U g mk ⟨h1, h2, h3, h4, h5, h6⟩
  refine ⟨h1, h2, va_K.moved (u := U) (U := U.calling g mk a) (Vm.Alike.refl U.vm) h3, fun w hw => ?_, va_Z.moved (u := U) (U := U.calling g mk a) (Vm.Alike.refl U.vm) h5, va_T.moved (u := U) (U := U.calling g mk a) (Vm.Alike.refl U.vm) h6⟩
  rcases nest_kind w hw with ⟨a1, i, b, n, d, hh, rfl⟩ | ⟨a1, i, x, hh, rfl⟩
  · exact va_Nw.same rfl (u := U) (U := U.calling g mk a) rfl (h4 _ hw)
  · exact va_Nw.same rfl (u := U) (U := U.calling g mk a) rfl (h4 _ hw)
set_option maxHeartbeats 1000000 in
theorem CC.of {d : Nat} {mt : Mt} {mc ms n : Nat} {av : List Value} {w : Wd} {post : Option Value → Wd → Prop} (ok : OkB mt n) (hav : (lg_sl av).length ≤ mt.2.2.1)
    (h : ∀ g, Mach d mt mc ms post 0 (fun _ => 0) g → g 0 0 0 (lv_args 0 av) [] w) : CC d mt mc ms av w post := by
  intro l E D cI cZ
  refine Met.ofW (cc := mt.2.1) (maxL := mt.2.2.1) (ret := mt.2.2.2.1) ok.2.2.2.2.1 rfl ?_
  intro p e s m args below meth c s₁ B hml hv
  obtain ⟨rfl, hH, hK⟩ := hv
  have hts0 := atoms_spec (ws := Cond.code mt.1 mt.2.1 mt.2.2.1 mt.2.2.2.1 :: lw_good) B.pre
  have hts : ∀ w ∈ lw_good, w.before (av.map (rvl E)).toArray s = true := fun w hw => hts0 w (List.mem_cons_of_mem _ hw)
  have hown : s.vm.findClass mt.1.cls = some m.cls := findClass_of_methodNamed B.named
  have hnm : meth.name = mt.1.name := (name_of_methodNamed B.named B.method).1
  have hr := B.returns
  have hlocks := B.notSynchronized
  have hB : E.1 ≤ s.heap.size := by rw [hH.2.2]; omega
  rw [lg_entry_eq]
  have hl := lv_entry (av.map (rvl E)) (n := mt.2.2.1) (by rw [lg_sl_rvl]; exact hav)
  rw [← rlo_args] at hl
  refine h (Gp p l e _ s m _ below meth c _ E D cI cZ mt.2.2.1) ⟨p, l, e, _, s, m, _, below, meth, c, _, E, D, cI, cZ, ⟨B.exec, B.bytes, hml, by rw [ok.2.2.2.2.2]; exact hown, hts, hK, hB, ⟨Nat.le_refl _, Nat.le_refl _, Nat.le_refl _, Nat.le_refl _⟩, hnm, ?_, Or.inl rfl⟩, rfl⟩ s.heap [] _ hH va_S.rf hl
  intro pc r w1 H locs ls hri hp hH1 hS1
  have hf : ∀ q ∈ locs, (fun q => E.1 ≤ q) q.base := hS1.2.2
  rcases hri with ⟨rfl, h1, h2⟩ | ⟨v, rfl, h1, h2⟩ | ⟨v, rfl, h1, h2⟩
  · exact W.vret B.exec B.bytes (hr.trans h1) (fun t ht hW => ⟨⟨none, w1, rfl, hp, by rw [ht]; exact hH1⟩, hS1.F ht⟩) hf h2 hlocks
  · rcases h1 with h1 | ⟨h1, h3⟩
    · exact W.iret B.exec B.bytes (hr.trans h1) (fun t ht hW => ⟨⟨some (.int v), w1, rfl, hp, by rw [ht]; exact hH1⟩, hS1.F ht⟩) hf h2 hlocks
    · exact W.zret B.exec B.bytes (hr.trans h1) (by rcases h3 with rfl | rfl <;> rfl) (fun t ht hW => ⟨⟨some (.int v), w1, rfl, hp, by rw [ht]; exact hH1⟩, hS1.F ht⟩) hf h2 hlocks
  · exact W.lret B.exec B.bytes (hr.trans h1) (fun t ht hW => ⟨⟨some (.long v), w1, rfl, hp, by rw [ht]; exact hH1⟩, hS1.F ht⟩) hf h2 hlocks
end CALLS
end
section
section CALLR
variable {d : Nat} {mt : Mt} {mc ms : Nat} {post : Option Value → Wd → Prop} {L : Nat} {xs : Nat → Int32} {g : Nat → Nat → Nat → Lo → List Value → Wd → Prop} {cs sl pc nx : Nat} {lo : Lo} {st : List Value} {w : Wd}

theorem toList_rvl (E : Ev) (r : Option Value) (st : List Value) : (r.map (rvl E)).toList ++ st.map (rvl E) = (r.toList ++ st).map (rvl E) := by cases r <;> rfl
theorem good_sub (x : Cond) (hx : x ∈ lw_good) : GoodIn lw_good (x :: lw_good) := fun w hw => (List.mem_cons.mp hw).elim (fun h => ⟨h ▸ hx, good_of_word (lw_gw (h ▸ hx))⟩) (fun h => ⟨h, good_of_word (lw_gw h)⟩)
/-- behind a call -/
theorem mx_go {p : Program} {l : Launch} {e : Env} {R : Room} {s : State} {m : MethodId} {args : Array Value} {below : List Frame} {meth : Method} {c : Code} {Q : State → Prop} {E : Ev} {D : va_G} {cI cZ : ClassId} {nL : Nat} {H : Heap} {locs : List Loc} {ls : Array Slot} {mc1 ms1 : Nat} {post1 : Option Value → Wd → Prop} {a : Array Value} {st0 : List Value}
    (hr : va_Run p l e R s m args below meth c H locs cs sl mc1 ms1 (F0 m pc ls st0) (st.map (rvl E)) (QcC E D cI cZ post1 a) (fun q => E.1 ≤ q)) (hS : va_S (fun q => E.1 ≤ q) s.heap H locs) (hl : lv_has ls nL (rlo E lo))
    (k : ∀ r w1, post1 r w1 → Gp p l e R s m args below meth c Q E D cI cZ nL (cs + mc1) (sl + ms1) (pc + 3) lo (r.toList ++ st) w1) : W p l e R s m args below meth c H locs cs sl Q (F0 m pc ls st0) := by
  intro T hT X
  obtain ⟨v, st₀, t, T', L1, h0, X', hL, e1, e2, ⟨⟨r, w1, hv, hp, hH1⟩, hz, hk⟩, hst⟩ := hr T hT X
  have hv : v = r.map (rvl E) := by injection hv
  subst hv
  rw [h0] at hz hk
  obtain ⟨t2, a1, b1⟩ := k r w1 hp T'.heap (locs ++ L1) ls (by rw [e1]; exact hH1) ⟨Nat.le_trans hS.1 (by rw [e1]; exact hz), fun q h1 h2 => by rw [e1, hk q (Nat.lt_of_lt_of_le h1 hS.1) h2]; exact hS.2.1 q h1 h2, fun q hq => by
      rcases List.mem_append.mp hq with h | h
      · exact hS.2.2 q h
      · exact hL q h⟩ hl T' rfl X'
  refine ⟨t2, hst t2 ?_, b1⟩
  rw [toList_rvl]
  exact a1
set_option maxHeartbeats 1000000 in
theorem Mach.callV (M : Mach d mt mc ms post L xs g) {mt1 : Mt} {d1 mc1 ms1 n k idx : Nat} {as fs : List Value} {post1 : Option Value → Wd → Prop} (ok : OkV mt1 n) (hlm : LkM (oN mt.2.2.2.2) idx mt1.1) (hC : CC d1 mt1 mc1 ms1 (.ref k :: as) w post1) (hck : ckn mt pc (.invokevirtual idx) 3 nx = true) (hdd : d1 < d) (hn : as.length = n) (hrest : (st.map fun v => v.category).sum ≤ 8) (hrc : lkc w k = some (.inl (mt1.2.2.2.2, fs))) (hci : mt1.2.2.2.2 < 5) (hroom : cs + mc1 ≤ mc ∧ sl + ms1 ≤ ms)
    (kk : ∀ r w1, post1 r w1 → g (cs + mc1) (sl + ms1) nx lo (r.toList ++ st) w1) : g cs sl pc lo (as.reverse ++ .ref k :: st) w := by
  obtain ⟨p, l, e, R, s, m, args, below, meth, c, Q, E, D, cI, cZ, ⟨hx, hb, hml, hown, hts, hK, hB, hR, hnm, hret, hscr⟩, rfl⟩ := M
  intro H locs ls hH hS hl
  obtain ⟨okb, oki, oks⟩ := ok
  obtain ⟨h1, rfl⟩ := ckn_1 hck
  have hlsz : ls.size = mt.2.2.1 := hl.1
  have hpre : ∀ U : State, U.heap = H → s.WarmedH U.vm → PcC E D cI cZ (.ref k :: as) w ((Value.ref k :: as).map (rvl E)).toArray U := fun U hU hW => ⟨rfl, by rw [hU]; exact hH, KK_moved hK hW (by rw [hU]; exact hS)⟩
  have hrm : ({ frames := d1, cells := mc1, slots := ms1, locals := 40 * d1 } : Room).frames + 1 ≤ R.frames ∧ 8 + (mt1.2.2.1 + 11) + ({ frames := d1, cells := mc1, slots := ms1, locals := 40 * d1 } : Room).locals ≤ R.locals := by
    have h9 := okb.2.2.2.1
    refine ⟨?_, ?_⟩
    · show d1 + 1 ≤ R.frames; omega
    · show 8 + (mt1.2.2.1 + 11) + 40 * d1 ≤ R.locals; omega
  have hf : cs + mc1 ≤ R.cells ∧ sl + ms1 ≤ R.slots := ⟨Nat.le_trans hroom.1 hR.2.2.1, Nat.le_trans hroom.2 hR.2.2.2⟩
  have hG := good_sub _ okb.1
  have hrs : 2 * (F0 m pc ls ((as.reverse ++ Value.ref k :: st).map (rvl E))).monitorRoom + ((st.map (rvl E)).map fun v => v.category).sum ≤ 8 := lv_room (m := m) (pc := pc) (ls := ls) (rest := (as.reverse ++ Value.ref k :: st).map (rvl E)) (by
    rw [List.map_map]
    rw [show ((fun v : Value => v.category) ∘ rvl E) = (fun v : Value => v.category) from funext (fun v => rvl_cat E v)]
    exact hrest)
  have hrcv : ∃ cellB : Cell, H[adr E k]? = some cellB ∧ cellB.vm.isStatics = false ∧ s.vm.findClass mt1.1.cls = some cellB.cls := by
    have h := va_recv hK.1 hH.1 (cls_ok _ hci).1 (rwd_get (E := E) (cI := cI) (cZ := cZ) hrc)
    rw [← okb.2.2.2.2.2]
    exact h
  have hstk : (F0 m pc ls ((as.reverse ++ Value.ref k :: st).map (rvl E))).stack = (as.map (rvl E)).reverse ++ .ref (adr E k) :: st.map (rvl E) := by
    show (as.reverse ++ Value.ref k :: st).map (rvl E) = _
    rw [List.map_append, List.map_reverse]
    rfl
  rcases hlm with hlm | hlm
  · refine mx_go (lo := lo) (nL := mt.2.2.1) (st := st) (a := (Value.ref (adr E k) :: as.map (rvl E)).toArray) (post1 := post1) (mc1 := mc1) (ms1 := ms1) (D := D) (cI := cI) (cZ := cZ) ?_ hS hl kk
    exact va_runV (nL := mt.2.2.1) (Ts := lw_good) (C := mt1.1.cls) (n := n) ⟨hx, hb, hml, hown, hts⟩ (hC l E D cI cZ) ⟨callB_of n hts hG rfl rfl rfl (hts _ okb.2.1) (hts _ hlm) okb.2.2.1 hrm, hts _ oki, hts _ oks⟩ ⟨PcC_blind E D cI cZ _ w, hrcv, hpre⟩ rfl (by rw [List.length_map]; exact hn) hlsz hstk hrs h1 hf
  · refine mx_go (lo := lo) (nL := mt.2.2.1) (st := st) (a := (Value.ref (adr E k) :: as.map (rvl E)).toArray) (post1 := post1) (mc1 := mc1) (ms1 := ms1) (D := D) (cI := cI) (cZ := cZ) ?_ hS hl kk
    exact va_runVN (nL := mt.2.2.1) (Ts := lw_good) (C := mt1.1.cls) (host := "DisturbedCells") (n := n) ⟨hx, hb, hml, hown, hts⟩ (hC l E D cI cZ) ⟨va_cnB n hts hG rfl rfl rfl (hK.2.1 _ hlm) (hts _ okb.2.1) okb.2.2.1 hrm, hts _ oki, hts _ oks⟩ ⟨PcC_blind E D cI cZ _ w, hrcv, hpre⟩ rfl (by rw [List.length_map]; exact hn) hlsz hstk hrs h1 hf
set_option maxHeartbeats 1000000 in
theorem Mach.callS (M : Mach d mt mc ms post L xs g) {mt1 : Mt} {d1 mc1 ms1 n idx : Nat} {as : List Value} {post1 : Option Value → Wd → Prop} (ok : OkS mt1 n) (hlm : LkM (oN mt.2.2.2.2) idx mt1.1) (hC : CC d1 mt1 mc1 ms1 as w post1) (hck : ckn mt pc (.invokestatic idx) 3 nx = true) (hdd : d1 < d) (hn : as.length = n) (hrest : (st.map fun v => v.category).sum ≤ 8) (hroom : cs + mc1 ≤ mc ∧ sl + ms1 ≤ ms)
    (kk : ∀ r w1, post1 r w1 → g (cs + mc1) (sl + ms1) nx lo (r.toList ++ st) w1) : g cs sl pc lo (as.reverse ++ st) w := by
  obtain ⟨p, l, e, R, s, m, args, below, meth, c, Q, E, D, cI, cZ, ⟨hx, hb, hml, hown, hts, hK, hB, hR, hnm, hret, hscr⟩, rfl⟩ := M
  intro H locs ls hH hS hl
  obtain ⟨okb, oks⟩ := ok
  obtain ⟨h1, rfl⟩ := ckn_1 hck
  have hlsz : ls.size = mt.2.2.1 := hl.1
  have hpre : ∀ U : State, U.heap = H → s.WarmedH U.vm → PcC E D cI cZ as w (as.map (rvl E)).toArray U := fun U hU hW => ⟨rfl, by rw [hU]; exact hH, KK_moved hK hW (by rw [hU]; exact hS)⟩
  have hrm : ({ frames := d1, cells := mc1, slots := ms1, locals := 40 * d1 } : Room).frames + 1 ≤ R.frames ∧ 8 + (mt1.2.2.1 + 11) + ({ frames := d1, cells := mc1, slots := ms1, locals := 40 * d1 } : Room).locals ≤ R.locals := by
    have h9 := okb.2.2.2.1
    refine ⟨?_, ?_⟩
    · show d1 + 1 ≤ R.frames; omega
    · show 8 + (mt1.2.2.1 + 11) + 40 * d1 ≤ R.locals; omega
  have hf : cs + mc1 ≤ R.cells ∧ sl + ms1 ≤ R.slots := ⟨Nat.le_trans hroom.1 hR.2.2.1, Nat.le_trans hroom.2 hR.2.2.2⟩
  have hG := good_sub _ okb.1
  have hrs : 2 * (F0 m pc ls ((as.reverse ++ st).map (rvl E))).monitorRoom + ((st.map (rvl E)).map fun v => v.category).sum ≤ 8 := lv_room (m := m) (pc := pc) (ls := ls) (rest := (as.reverse ++ st).map (rvl E)) (by
    rw [List.map_map]
    rw [show ((fun v : Value => v.category) ∘ rvl E) = (fun v : Value => v.category) from funext (fun v => rvl_cat E v)]
    exact hrest)
  have hstk : (F0 m pc ls ((as.reverse ++ st).map (rvl E))).stack = (as.map (rvl E)).reverse ++ st.map (rvl E) := by
    show (as.reverse ++ st).map (rvl E) = _
    rw [List.map_append, List.map_reverse]
  rcases hlm with hlm | hlm
  · refine mx_go (lo := lo) (nL := mt.2.2.1) (st := st) (a := (as.map (rvl E)).toArray) (post1 := post1) (mc1 := mc1) (ms1 := ms1) (D := D) (cI := cI) (cZ := cZ) ?_ hS hl kk
    exact va_runS (nL := mt.2.2.1) (Ts := lw_good) (n := n) ⟨hx, hb, hml, hown, hts⟩ (hC l E D cI cZ) ⟨callB_of n hts hG rfl rfl rfl (hts _ okb.2.1) (hts _ hlm) okb.2.2.1 hrm, hts _ oks⟩ ⟨PcC_blind E D cI cZ _ w, hpre⟩ rfl (by rw [List.length_map]; exact hn) hlsz hstk hrs h1 hf
  · refine mx_go (lo := lo) (nL := mt.2.2.1) (st := st) (a := (as.map (rvl E)).toArray) (post1 := post1) (mc1 := mc1) (ms1 := ms1) (D := D) (cI := cI) (cZ := cZ) ?_ hS hl kk
    exact va_runSN (nL := mt.2.2.1) (Ts := lw_good) (host := "DisturbedCells") (n := n) ⟨hx, hb, hml, hown, hts⟩ (hC l E D cI cZ) ⟨va_cnB n hts hG rfl rfl rfl (hK.2.1 _ hlm) (hts _ okb.2.1) okb.2.2.1 hrm, hts _ oks, trivial⟩ ⟨PcC_blind E D cI cZ _ w, hpre⟩ rfl (by rw [List.length_map]; exact hn) hlsz hstk hrs h1 hf
set_option maxHeartbeats 1000000 in
theorem Mach.callI (M : Mach d mt mc ms post L xs g) {mt1 : Mt} {d1 mc1 ms1 n k idx : Nat} {as : List Value} {post1 : Option Value → Wd → Prop} (ok : OkI mt1 n) (hrt : mt1.2.2.2.1 = none) (hlm : LkM (oN mt.2.2.2.2) idx mt1.1) (hC : CC d1 mt1 mc1 ms1 (.ref k :: as) w post1) (hck : ckn mt pc (.invokespecial idx) 3 nx = true) (hdd : d1 < d) (hn : as.length = n) (hrest : (st.map fun v => v.category).sum ≤ 8) (hroom : cs + mc1 ≤ mc ∧ sl + ms1 ≤ ms)
    (kk : ∀ r w1, post1 r w1 → g (cs + mc1) (sl + ms1) nx lo (r.toList ++ st) w1) : g cs sl pc lo (as.reverse ++ .ref k :: st) w := by
  obtain ⟨p, l, e, R, s, m, args, below, meth, c, Q, E, D, cI, cZ, ⟨hx, hb, hml, hown, hts, hK, hB, hR, hnm, hret, hscr⟩, rfl⟩ := M
  intro H locs ls hH hS hl
  obtain ⟨okb, oki, oks⟩ := ok
  obtain ⟨h1, rfl⟩ := ckn_1 hck
  have hlsz : ls.size = mt.2.2.1 := hl.1
  have hpre : ∀ U : State, U.heap = H → s.WarmedH U.vm → PcC E D cI cZ (.ref k :: as) w ((Value.ref k :: as).map (rvl E)).toArray U := fun U hU hW => ⟨rfl, by rw [hU]; exact hH, KK_moved hK hW (by rw [hU]; exact hS)⟩
  have hrm : ({ frames := d1, cells := mc1, slots := ms1, locals := 40 * d1 } : Room).frames + 1 ≤ R.frames ∧ 8 + (mt1.2.2.1 + 11) + ({ frames := d1, cells := mc1, slots := ms1, locals := 40 * d1 } : Room).locals ≤ R.locals := by
    have h9 := okb.2.2.2.1
    refine ⟨?_, ?_⟩
    · show d1 + 1 ≤ R.frames; omega
    · show 8 + (mt1.2.2.1 + 11) + 40 * d1 ≤ R.locals; omega
  have hf : cs + mc1 ≤ R.cells ∧ sl + ms1 ≤ R.slots := ⟨Nat.le_trans hroom.1 hR.2.2.1, Nat.le_trans hroom.2 hR.2.2.2⟩
  have hG := good_sub _ okb.1
  have hrs : 2 * (F0 m pc ls ((as.reverse ++ Value.ref k :: st).map (rvl E))).monitorRoom + ((st.map (rvl E)).map fun v => v.category).sum ≤ 8 := lv_room (m := m) (pc := pc) (ls := ls) (rest := (as.reverse ++ Value.ref k :: st).map (rvl E)) (by
    rw [List.map_map]
    rw [show ((fun v : Value => v.category) ∘ rvl E) = (fun v : Value => v.category) from funext (fun v => rvl_cat E v)]
    exact hrest)
  have hstk : (F0 m pc ls ((as.reverse ++ Value.ref k :: st).map (rvl E))).stack = (as.map (rvl E)).reverse ++ .ref (adr E k) :: st.map (rvl E) := by
    show (as.reverse ++ Value.ref k :: st).map (rvl E) = _
    rw [List.map_append, List.map_reverse]
    rfl
  have hM := hC l E D cI cZ
  rw [hrt] at hM hG
  rcases hlm with hlm | hlm
  · refine mx_go (lo := lo) (nL := mt.2.2.1) (st := st) (a := (Value.ref (adr E k) :: as.map (rvl E)).toArray) (post1 := post1) (mc1 := mc1) (ms1 := ms1) (D := D) (cI := cI) (cZ := cZ) ?_ hS hl kk
    exact va_runI (nL := mt.2.2.1) (Ts := lw_good) (n := n) ⟨hx, hb, hml, hown, hts⟩ hM ⟨callB_of n hts hG rfl rfl rfl (hts _ okb.2.1) (hts _ hlm) okb.2.2.1 hrm, oki, hts _ oks⟩ ⟨PcC_blind E D cI cZ _ w, hpre⟩ rfl (by rw [List.length_map]; exact hn) hlsz hstk hrs h1 hf
  · refine mx_go (lo := lo) (nL := mt.2.2.1) (st := st) (a := (Value.ref (adr E k) :: as.map (rvl E)).toArray) (post1 := post1) (mc1 := mc1) (ms1 := ms1) (D := D) (cI := cI) (cZ := cZ) ?_ hS hl kk
    exact va_runIN (nL := mt.2.2.1) (Ts := lw_good) (host := "DisturbedCells") (n := n) ⟨hx, hb, hml, hown, hts⟩ hM ⟨va_cnB n hts hG rfl rfl rfl (hK.2.1 _ hlm) (hts _ okb.2.1) okb.2.2.1 hrm, oki, hts _ oks⟩ ⟨PcC_blind E D cI cZ _ w, hpre⟩ rfl (by rw [List.length_map]; exact hn) hlsz hstk hrs h1 hf
end CALLR
end
section
section NEWR
variable {d : Nat} {mt : Mt} {mc ms : Nat} {post : Option Value → Wd → Prop} {L : Nat} {xs : Nat → Int32} {g : Nat → Nat → Nat → Lo → List Value → Wd → Prop} {cs sl pc nx : Nat} {lo : Lo} {st : List Value} {w : Wd}

def nwp (w : Wd) (k : Nat) (c : Cl) (w1 : Wd) : Prop := (w.1 = [] ∧ k = 100 + w.2.length ∧ w1 = (w.1, w.2 ++ [c])) ∨ (w.2.length = 19 ∧ w.1.length < 98 ∧ k = w.1.length ∧ w1 = (w.1 ++ [c], w.2))
theorem nwp_spec {E : Ev} {cI cZ : ClassId} {w w1 : Wd} {k : Nat} {c : Cl} (h : nwp w k c w1) : adr E k = E.1 + w.2.length + w.1.length ∧ rwd E cI cZ w1 = rwd E cI cZ w ++ [(adr E k, rcl E cI cZ c)] ∧ w1.2.length + w1.1.length = w.2.length + w.1.length + 1 := by
  rcases h with ⟨h1, rfl, rfl⟩ | ⟨h1, h2, rfl, rfl⟩
  · have ha : adr E (100 + w.2.length) = E.1 + w.2.length := by
      unfold adr
      rw [if_neg (by omega), if_neg (by omega), if_neg (by omega)]
      omega
    refine ⟨by rw [ha, h1]; rfl, ?_, by simp; omega⟩
    rw [ha]
    unfold rwd
    dsimp only
    rw [h1, List.mapIdx_concat]
    simp
  · have ha : adr E w.1.length = E.1 + 19 + w.1.length := by
      unfold adr
      rw [if_pos h2]
    refine ⟨by rw [ha, h1], ?_, by simp; omega⟩
    rw [ha]
    unfold rwd
    dsimp only
    rw [List.mapIdx_concat, List.append_assoc]
set_option maxHeartbeats 1000000 in
theorem Mach.new (M : Mach d mt mc ms post L xs g) {ci idx k : Nat} {fs : List Value} {w1 : Wd} (hck : ckn mt pc (.new idx) 3 nx = true) (hcl : Cond.classLink (oN mt.2.2.2.2) idx (oN ci) ∈ lw_good) (hins : Cond.instantiable (oN ci) (nN ci) ∈ lw_good) (hini : Cond.initialized (oN ci) ∈ lw_good) (hci : ci < 5) (hfs : ∀ j, j < nN ci → defaultValue (yN ci j) = vp_V fs j) (href : ∀ E, fs.map (rvl E) = fs) (hw : nwp w k (.inl (ci, fs)) w1) (hr1 : cs + 1 ≤ mc) (hr2 : sl + nN ci ≤ ms) (kk : g (cs + 1) (sl + nN ci) nx lo (.ref k :: st) w1) : g cs sl pc lo st w := by
  obtain ⟨p, l, e, R, s, m, args, below, meth, c, Q, E, D, cI, cZ, ⟨hx, hb, hml, hown, hts, hK, hB, hR, hnm, hret, hscr⟩, rfl⟩ := M
  intro H locs ls hH hS hl
  obtain ⟨h1, rfl⟩ := ckn_1 hck
  obtain ⟨hc, hin, hty, hnm2⟩ := cls_ok _ hci
  obtain ⟨hP, hD, hsz⟩ := hH
  obtain ⟨ha, hrw, hle⟩ := nwp_spec (E := E) (cI := cI) (cZ := cZ) hw
  have hKn := hK.1.1 ci _ hc
  refine W.newcK hx hb hown (hts _ hcl) (hts _ hins) (hts _ hini) rfl h1 (Nat.le_trans hr1 hR.2.2.1) (Nat.le_trans hr2 hR.2.2.2) hKn.2.1 rfl fun H1 kC hkC e1 z1 o1 => ?_
  have hk1 : ∀ (k : Nat) (x : Nat × va_E), (rwd E cI cZ w)[k]? = some x → H1[x.1]? = H[x.1]? := fun k x hx => o1 x.1 ((hP k x hx).lt)
  have hak : adr E k = H.size := by rw [ha, hsz]
  have hP1 : va_P D vwCl (rwd E cI cZ w1) H1 := by
    rw [hrw]
    refine (hP.kept hk1).app (fun k2 x hx2 => ?_)
    have hz : k2 < 1 := (List.getElem?_eq_some_iff.mp hx2).1
    rw [show k2 = 0 by omega] at hx2
    cases hx2
    show ∃ r : vw_C, _
    refine ⟨_, hc, ?_⟩
    show t_OB (adr E k) _ _ _ H1 (vp_V (fs.map (rvl E)))
    rw [href, hak]
    exact (u_born (yN ci) hts hin hKn hkC e1 hty).to hfs
  have hD1 : va_D (fun q => E.1 ≤ q) (rwd E cI cZ w1) := by
    rw [hrw]
    exact hD.push hP hak (by show E.1 ≤ adr E k; omega)
  have h3 := kk H1 locs ls ⟨hP1, hD1, by omega⟩ ⟨Nat.le_trans hS.1 (by omega), fun x h1 h2 => (o1 x (Nat.lt_of_lt_of_le h1 hS.1)).trans (hS.2.1 x h1 h2), hS.2.2⟩ hl
  have h4 : (Value.ref k :: st).map (rvl E) = Value.ref H.size :: st.map (rvl E) := by
    rw [← hak]
    rfl
  rw [h4] at h3
  exact h3
set_option maxHeartbeats 1000000 in
theorem Mach.newA (M : Mach d mt mc ms post L xs g) {b : Bool} {at1 : ArrayType} {k n : Nat} {w1 : Wd} (hck : ckn mt pc (.newarray at1) 2 nx = true) (hb1 : (b = false ∧ at1 = .int) ∨ (b = true ∧ at1 = .boolean)) (hn : n < 1000) (hw : nwp w k (.inr (b, n, fun _ => 0)) w1) (harr : Cond.arrayClass (newarray.typeOf at1) ∈ lw_good) (hr1 : cs + 1 ≤ mc) (hr2 : sl + n ≤ ms) (kk : g (cs + 1) (sl + n) nx lo (.ref k :: st) w1) : g cs sl pc lo (.int (nI n) :: st) w := by
  obtain ⟨p, l, e, R, s, m, args, below, meth, c, Q, E, D, cI, cZ, ⟨hx, hb, hml, hown, hts, hK, hB, hR, hnm, hret, hscr⟩, rfl⟩ := M
  intro H locs ls hH hS hl
  obtain ⟨h1, rfl⟩ := ckn_1 hck
  obtain ⟨hP, hD, hsz⟩ := hH
  obtain ⟨ha, hrw, hle⟩ := nwp_spec (E := E) (cI := cI) (cZ := cZ) hw
  have hak : adr E k = H.size := by rw [ha, hsz]
  have hby : n * componentBytes (newarray.typeOf at1) ≤ 536870912 := by
    rcases hb1 with ⟨_, rfl⟩ | ⟨_, rfl⟩
    · show n * 4 ≤ 536870912; omega
    · show n * 1 ≤ 536870912; omega
  refine va_newaK hx hb (hts _ harr) rfl h1 rfl (nI_pos (by omega)) (nI_clamp (by omega)) hby (Nat.le_trans hr1 hR.2.2.1) (Nat.le_trans hr2 hR.2.2.2) rfl fun H1 cA e1 z1 o1 hAr hNm => ?_
  have hk1 : ∀ (k : Nat) (x : Nat × va_E), (rwd E cI cZ w)[k]? = some x → H1[x.1]? = H[x.1]? := fun k x hx => o1 x.1 ((hP k x hx).lt)
  have hcA : (bif b then cZ else cI) = cA := by
    rcases hb1 with ⟨rfl, rfl⟩ | ⟨rfl, rfl⟩
    · exact Option.some.inj ((hK.1.2 0 (cI, .int) rfl).2.symm.trans hNm)
    · exact Option.some.inj ((hK.1.2 1 (cZ, .boolean) rfl).2.symm.trans hNm)
  have hP1 : va_P D vwCl (rwd E cI cZ w1) H1 := by
    rw [hrw]
    refine (hP.kept hk1).app (fun k2 x hx2 => ?_)
    have hz : k2 < 1 := (List.getElem?_eq_some_iff.mp hx2).1
    rw [show k2 = 0 by omega] at hx2
    cases hx2
    show H1[adr E k]? = some (vp_cell (bif b then cZ else cI) (n, .inl (fun _ => 0)))
    rw [hak, e1, hcA]
    rcases hb1 with ⟨rfl, rfl⟩ | ⟨rfl, rfl⟩ <;> rfl
  have hD1 : va_D (fun q => E.1 ≤ q) (rwd E cI cZ w1) := by
    rw [hrw]
    exact hD.push hP hak (by show E.1 ≤ adr E k; omega)
  have h3 := kk H1 locs ls ⟨hP1, hD1, by omega⟩ ⟨Nat.le_trans hS.1 (by omega), fun x h1 h2 => (o1 x (Nat.lt_of_lt_of_le h1 hS.1)).trans (hS.2.1 x h1 h2), hS.2.2⟩ hl
  have h4 : (Value.ref k :: st).map (rvl E) = Value.ref H.size :: st.map (rvl E) := by
    rw [← hak]
    rfl
  rw [h4] at h3
  exact h3
theorem Mach.obj (M : Mach d mt mc ms post L xs g) {idx k : Nat} (hck : ckn mt pc (.invokespecial idx) 3 nx = true) (hlm : Cond.methodLink (oN mt.2.2.2.2) idx objectInit ∈ lw_good) (hin : Cond.instanceMethod objectInit ∈ lw_good) (hco : Cond.code objectInit ⟨#[0xb1]⟩ 1 none ∈ lw_good) (h1d : 1 ≤ d) (hst : (st.map fun v => v.category).sum ≤ 8) (kk : g cs sl nx lo st w) : g cs sl pc lo (.ref k :: st) w := by
  obtain ⟨p, l, e, R, s, m, args, below, meth, c, Q, E, D, cI, cZ, ⟨hx, hb, hml, hown, hts, hK, hB, hR, hnm, hret, hscr⟩, rfl⟩ := M
  intro H locs ls hH hS hl
  obtain ⟨h1, rfl⟩ := ckn_1 hck
  have hcat : ((st.map (rvl E)).map fun v => v.category).sum ≤ 8 := by
    rw [List.map_map, show ((fun v : Value => v.category) ∘ rvl E) = (fun v : Value => v.category) from funext (fun v => rvl_cat E v)]
    exact hst
  have hrs := lv_room (m := m) (pc := pc) (ls := ls) (rest := (Value.ref k :: st).map (rvl E)) hcat
  refine W.objInit hx hb hown (hts _ hlm) (hts _ hin) (hts _ hco) rfl (by rw [hml]; exact hl.1) rfl h1 (by omega) (by omega) ?_
  exact kk H locs ls hH hS hl
theorem Mach.mmax (M : Mach d mt mc ms post L xs g) {idx : Nat} {x y : Int32} (hck : ckn mt pc (.invokestatic idx) 3 nx = true) (hlm : Cond.methodLink (oN mt.2.2.2.2) idx Lib.Math.max.name ∈ lw_good) (hs : Cond.static Lib.Math.max.name ∈ lw_good) (hi : Cond.initialized "java/lang/Math" ∈ lw_good) (hco : Cond.code Lib.Math.max.name Lib.Math.max.code 2 (some .int) ∈ lw_good) (h1d : 1 ≤ d) (hst : (st.map fun v => v.category).sum ≤ 8) (hc : cs ≤ mc) (hs2 : sl ≤ ms) (kk : g cs sl nx lo (.int (if x < y then y else x) :: st) w) : g cs sl pc lo (.int y :: .int x :: st) w := by
  obtain ⟨p, l, e, R, s, m, args, below, meth, c, Q, E, D, cI, cZ, ⟨hx, hb, hml, hown, hts, hK, hB, hR, hnm, hret, hscr⟩, rfl⟩ := M
  intro H locs ls hH hS hl
  obtain ⟨h1, rfl⟩ := ckn_1 hck
  have hcat : ((st.map (rvl E)).map fun v => v.category).sum ≤ 8 := by
    rw [List.map_map, show ((fun v : Value => v.category) ∘ rvl E) = (fun v : Value => v.category) from funext (fun v => rvl_cat E v)]
    exact hst
  refine va_mmax hx hb (by rw [hml]; exact hl.1.symm) hown (hts _ hlm) (hts _ hs) (hts _ hi) (hts _ hco) (by omega) (by omega) (Nat.le_trans hc hR.2.2.1) (Nat.le_trans hs2 hR.2.2.2) h1 ?_
  exact kk H locs ls hH hS hl
theorem Mach.mmin (M : Mach d mt mc ms post L xs g) {idx : Nat} {x y : Int32} (hck : ckn mt pc (.invokestatic idx) 3 nx = true) (hlm : Cond.methodLink (oN mt.2.2.2.2) idx Lib.Math.min.name ∈ lw_good) (hs : Cond.static Lib.Math.min.name ∈ lw_good) (hi : Cond.initialized "java/lang/Math" ∈ lw_good) (hco : Cond.code Lib.Math.min.name Lib.Math.min.code 2 (some .int) ∈ lw_good) (h1d : 1 ≤ d) (hst : (st.map fun v => v.category).sum ≤ 8) (hc : cs ≤ mc) (hs2 : sl ≤ ms) (kk : g cs sl nx lo (.int (if y < x then y else x) :: st) w) : g cs sl pc lo (.int y :: .int x :: st) w := by
  obtain ⟨p, l, e, R, s, m, args, below, meth, c, Q, E, D, cI, cZ, ⟨hx, hb, hml, hown, hts, hK, hB, hR, hnm, hret, hscr⟩, rfl⟩ := M
  intro H locs ls hH hS hl
  obtain ⟨h1, rfl⟩ := ckn_1 hck
  have hcat : ((st.map (rvl E)).map fun v => v.category).sum ≤ 8 := by
    rw [List.map_map, show ((fun v : Value => v.category) ∘ rvl E) = (fun v : Value => v.category) from funext (fun v => rvl_cat E v)]
    exact hst
  refine va_mmin hx hb (by rw [hml]; exact hl.1.symm) hown (hts _ hlm) (hts _ hs) (hts _ hi) (hts _ hco) (by omega) (by omega) (Nat.le_trans hc hR.2.2.1) (Nat.le_trans hs2 hR.2.2.2) h1 ?_
  exact kk H locs ls hH hS hl
end NEWR
end
section
def xo : Cl := .inl (3, [.ref 101, .ref 103, .ref 105, .ref 113])
def sg (k : Nat) (L : Int32) : Cl := .inl (2, [.ref k, .int L])
def ar (n : Nat) (f : Nat → Int32) : Cl := .inr (false, n, f)
def WS1 (c0 : Cl) (C : Nat → Int32) (L : Int32) (rest u : List Cl) : Wd := (u, c0 :: sg 102 L :: ar 64 C :: rest)
def WS3 (c0 c1 c2 : Cl) (C : Nat → Int32) (L : Int32) (rest u : List Cl) : Wd := (u, c0 :: c1 :: c2 :: sg 104 L :: ar 64 C :: rest)
def plc (PS : Nat → Int32) : Cl := .inl (1, [.ref 106, .ref 107, .ref 108, .ref 109, .ref 110, .ref 111, .ref 112, .int (PS 7), .int (PS 8), .int (PS 9), .int (PS 10), .int (PS 11), .int (PS 12)])
def WP (c0 c1 c2 c3 c4 : Cl) (PA : Nat → Nat → Int32) (PS : Nat → Int32) (rest u : List Cl) : Wd := (u, c0 :: c1 :: c2 :: c3 :: c4 :: plc PS :: ar 25 (PA 0) :: ar 5 (PA 1) :: ar 25 (PA 2) :: ar 100 (PA 3) :: ar 25 (PA 4) :: ar 25 (PA 5) :: ar 25 (PA 6) :: rest)
def bnl (BA : Nat → Nat → Int32) (BS : Nat → Int32) : List Cl := [.inl (0, [.ref 114, .ref 115, .ref 116, .ref 117, .ref 118, .int (BS 5), .int (BS 6), .int (BS 7), .int (BS 8), .int (BS 9), .int (BS 10), .int (BS 11), .int (BS 12)]), ar 128 (BA 0), ar 128 (BA 1), ar 128 (BA 2), ar 128 (BA 3), ar 5 (BA 4)]
abbrev WX (pgC : Nat → Int32) (pgL : Int32) (stC : Nat → Int32) (stL : Int32) (PA : Nat → Nat → Int32) (PS : Nat → Int32) (BA : Nat → Nat → Int32) (BS : Nat → Int32) (u : List Cl) : Wd := WP xo (sg 102 pgL) (ar 64 pgC) (sg 104 stL) (ar 64 stC) PA PS (bnl BA BS) u
def mdc (MS : Nat → Int32) (Mh : Int64) : Cl := .inl (4, [.int (MS 0), .ref 1, .int (MS 2), .ref 2, .int (MS 4), .int (MS 5), .int (MS 6), .int (MS 7), .int (MS 8), .int (MS 9), .int (MS 10), .int (MS 11), .int (MS 12), .int (MS 13), .int (MS 14), .int (MS 15), .int (MS 16), .int (MS 17), .int (MS 18), .int (MS 19), .int (MS 20), .int (MS 21), .int (MS 22), .ref 3, .ref 4, .ref 5, .long Mh])
def WM (MA : Nat → Nat → Int32) (MS : Nat → Int32) (Mh : Int64) (v : List Cl) : Wd := ([mdc MS Mh, ar 60 (MA 1), ar 64 (MA 3), ar 25 (MA 23), .inr (true, 75, MA 24), ar 300 (MA 25)], v)
def Rt (x : Int32) (w1 : Wd) : Option Value → Wd → Prop := fun r w => r = some (.int x) ∧ w = w1
def Rl (x : Int64) (w1 : Wd) : Option Value → Wd → Prop := fun r w => r = some (.long x) ∧ w = w1
def Rv (w1 : Wd) : Option Value → Wd → Prop := fun r w => r = none ∧ w = w1
def b2i (b : Bool) : Int32 := if b then 1 else 0
theorem b2i_01 (b : Bool) : b2i b = 0 ∨ b2i b = 1 := by cases b <;> decide
theorem idx_of {x : Int32} {n : Nat} (h0 : ¬ x < 0) (h1 : ¬ nI n ≤ x) (hn : n < 2147483648) : x = nI x.toNatClampNeg ∧ x.toNatClampNeg < n := by
  rcases pk_ix x hn with h | h | ⟨j, hj, rfl⟩
  · exact absurd h h0
  · exact absurd h h1
  · rw [nI_clamp (by omega)]
    exact ⟨rfl, hj⟩
section CALLF
variable {d : Nat} {mt : Mt} {mc ms : Nat} {post : Option Value → Wd → Prop} {L : Nat} {xs : Nat → Int32} {g : Nat → Nat → Nat → Lo → List Value → Wd → Prop} {cs sl pc nx : Nat} {lo : Lo} {st : List Value} {w : Wd}

theorem Mach.callVi (M : Mach d mt mc ms post L xs g) {mt1 : Mt} {d1 n k idx : Nat} {as fs : List Value} {v : Int32} {w1 : Wd} (ok : OkV mt1 n) (hlm : LkM (oN mt.2.2.2.2) idx mt1.1) (hC : CC d1 mt1 0 0 (.ref k :: as) w (Rt v w1)) (hck : ckn mt pc (.invokevirtual idx) 3 nx = true) (hdd : d1 < d) (hn : as.length = n) (hrest : (st.map fun v => v.category).sum ≤ 8) (hrc : lkc w k = some (.inl (mt1.2.2.2.2, fs))) (hci : mt1.2.2.2.2 < 5) (kk : g cs sl nx lo (.int v :: st) w1) (hroom : cs + 0 ≤ mc ∧ sl + 0 ≤ ms := by decide) : g cs sl pc lo (as.reverse ++ .ref k :: st) w :=
  M.callV ok hlm hC hck hdd hn hrest hrc hci hroom (fun r w2 h => by obtain ⟨rfl, rfl⟩ := h; exact kk)
theorem Mach.callSi (M : Mach d mt mc ms post L xs g) {mt1 : Mt} {d1 n idx : Nat} {as : List Value} {v : Int32} {w1 : Wd} (ok : OkS mt1 n) (hlm : LkM (oN mt.2.2.2.2) idx mt1.1) (hC : CC d1 mt1 0 0 as w (Rt v w1)) (hck : ckn mt pc (.invokestatic idx) 3 nx = true) (hdd : d1 < d) (hn : as.length = n) (hrest : (st.map fun v => v.category).sum ≤ 8) (kk : g cs sl nx lo (.int v :: st) w1) (hroom : cs + 0 ≤ mc ∧ sl + 0 ≤ ms := by decide) : g cs sl pc lo (as.reverse ++ st) w :=
  M.callS ok hlm hC hck hdd hn hrest hroom (fun r w2 h => by obtain ⟨rfl, rfl⟩ := h; exact kk)
theorem Mach.callVl (M : Mach d mt mc ms post L xs g) {mt1 : Mt} {d1 n k idx : Nat} {as fs : List Value} {v : Int64} {w1 : Wd} (ok : OkV mt1 n) (hlm : LkM (oN mt.2.2.2.2) idx mt1.1) (hC : CC d1 mt1 0 0 (.ref k :: as) w (Rl v w1)) (hck : ckn mt pc (.invokevirtual idx) 3 nx = true) (hdd : d1 < d) (hn : as.length = n) (hrest : (st.map fun v => v.category).sum ≤ 8) (hrc : lkc w k = some (.inl (mt1.2.2.2.2, fs))) (hci : mt1.2.2.2.2 < 5) (kk : g cs sl nx lo (.long v :: st) w1) (hroom : cs + 0 ≤ mc ∧ sl + 0 ≤ ms := by decide) : g cs sl pc lo (as.reverse ++ .ref k :: st) w :=
  M.callV ok hlm hC hck hdd hn hrest hrc hci hroom (fun r w2 h => by obtain ⟨rfl, rfl⟩ := h; exact kk)
theorem Mach.callSl (M : Mach d mt mc ms post L xs g) {mt1 : Mt} {d1 n idx : Nat} {as : List Value} {v : Int64} {w1 : Wd} (ok : OkS mt1 n) (hlm : LkM (oN mt.2.2.2.2) idx mt1.1) (hC : CC d1 mt1 0 0 as w (Rl v w1)) (hck : ckn mt pc (.invokestatic idx) 3 nx = true) (hdd : d1 < d) (hn : as.length = n) (hrest : (st.map fun v => v.category).sum ≤ 8) (kk : g cs sl nx lo (.long v :: st) w1) (hroom : cs + 0 ≤ mc ∧ sl + 0 ≤ ms := by decide) : g cs sl pc lo (as.reverse ++ st) w :=
  M.callS ok hlm hC hck hdd hn hrest hroom (fun r w2 h => by obtain ⟨rfl, rfl⟩ := h; exact kk)
theorem Mach.callVv (M : Mach d mt mc ms post L xs g) {mt1 : Mt} {d1 n k idx : Nat} {as fs : List Value} {w1 : Wd} (ok : OkV mt1 n) (hlm : LkM (oN mt.2.2.2.2) idx mt1.1) (hC : CC d1 mt1 0 0 (.ref k :: as) w (Rv w1)) (hck : ckn mt pc (.invokevirtual idx) 3 nx = true) (hdd : d1 < d) (hn : as.length = n) (hrest : (st.map fun v => v.category).sum ≤ 8) (hrc : lkc w k = some (.inl (mt1.2.2.2.2, fs))) (hci : mt1.2.2.2.2 < 5) (kk : g cs sl nx lo st w1) (hroom : cs + 0 ≤ mc ∧ sl + 0 ≤ ms := by decide) : g cs sl pc lo (as.reverse ++ .ref k :: st) w :=
  M.callV ok hlm hC hck hdd hn hrest hrc hci hroom (fun r w2 h => by obtain ⟨rfl, rfl⟩ := h; exact kk)
theorem Mach.callSv (M : Mach d mt mc ms post L xs g) {mt1 : Mt} {d1 n idx : Nat} {as : List Value} {w1 : Wd} (ok : OkS mt1 n) (hlm : LkM (oN mt.2.2.2.2) idx mt1.1) (hC : CC d1 mt1 0 0 as w (Rv w1)) (hck : ckn mt pc (.invokestatic idx) 3 nx = true) (hdd : d1 < d) (hn : as.length = n) (hrest : (st.map fun v => v.category).sum ≤ 8) (kk : g cs sl nx lo st w1) (hroom : cs + 0 ≤ mc ∧ sl + 0 ≤ ms := by decide) : g cs sl pc lo (as.reverse ++ st) w :=
  M.callS ok hlm hC hck hdd hn hrest hroom (fun r w2 h => by obtain ⟨rfl, rfl⟩ := h; exact kk)
end CALLF
end
section
def sGet (C : Nat → Int32) (L x : Int32) : Int32 := if x < 0 then -1 else if L ≤ x then -1 else if 64 ≤ x then -1 else C x.toNatClampNeg
theorem s_clear1 {c0 : Cl} {C : Nat → Int32} {L : Int32} {rest u : List Cl} : CC 0 mX2_clear 0 0 [.ref 101] (WS1 c0 C L rest u) (Rv (WS1 c0 C 0 rest u)) := by
  refine CC.of okX2_clear.1 (Nat.le_of_ble_eq_true rfl) (fun g M => ?_)
  show g 0 0 0 [(0, .ref 101)] [] (WS1 c0 C L rest u)
  refine M.blk (is := [(.aload_n 0, 0, 0, 0), (.iconst 0, 0, 0, 0), (.putfield 15, 2, 1, 0)]) (pc1 := 5) (lo1 := [(0, .ref 101)]) (st1 := []) (w1 := (WS1 c0 C 0 rest u)) (by decide +kernel) rfl ?_
  exact M.retv (nx := 6) (by decide +kernel) ⟨rfl, rfl⟩
theorem s_get1 {c0 : Cl} {C : Nat → Int32} {L : Int32} {rest u : List Cl} (x : Int32) : CC 0 mX2_get 0 0 [.ref 101, .int x] (WS1 c0 C L rest u) (Rt (sGet C L x) (WS1 c0 C L rest u)) := by
  refine CC.of okX2_get.1 (Nat.le_of_ble_eq_true rfl) (fun g M => ?_)
  show g 0 0 0 [(0, .ref 101), (1, .int x)] [] (WS1 c0 C L rest u)
  refine M.blk (is := [(.iload_n 1, 1, 0, 0)]) (pc1 := 1) (lo1 := [(0, .ref 101), (1, .int x)]) (st1 := [.int x]) (w1 := (WS1 c0 C L rest u)) (by decide +kernel) rfl ?_
  refine M.if_lt (off := 29) (tgt := 30) (nx := 4) (by decide +kernel) (fun z1 => ?_) (fun z1 => ?_)
  · refine M.blk (is := [(.iconst (-1), 0, 0, (-1))]) (pc1 := 31) (lo1 := [(0, .ref 101), (1, .int x)]) (st1 := [.int (-1)]) (w1 := (WS1 c0 C L rest u)) (by decide +kernel) rfl ?_
    exact M.reti (nx := 32) (by decide +kernel) ⟨by simp [sGet, *], rfl⟩
  · refine M.blk (is := [(.iload_n 1, 1, 0, 0), (.aload_n 0, 0, 0, 0), (.getfield 15, 2, 1, 0)]) (pc1 := 9) (lo1 := [(0, .ref 101), (1, .int x)]) (st1 := [.int L, .int x]) (w1 := (WS1 c0 C L rest u)) (by decide +kernel) rfl ?_
    refine M.icmp_ge (off := 21) (tgt := 30) (nx := 12) (by decide +kernel) (fun z9 => ?_) (fun z9 => ?_)
    · refine M.blk (is := [(.iconst (-1), 0, 0, (-1))]) (pc1 := 31) (lo1 := [(0, .ref 101), (1, .int x)]) (st1 := [.int (-1)]) (w1 := (WS1 c0 C L rest u)) (by decide +kernel) rfl ?_
      exact M.reti (nx := 32) (by decide +kernel) ⟨by simp [sGet, *], rfl⟩
    · refine M.blk (is := [(.iload_n 1, 1, 0, 0), (.aload_n 0, 0, 0, 0), (.getfield 9, 2, 0, 0)]) (pc1 := 17) (lo1 := [(0, .ref 101), (1, .int x)]) (st1 := [.ref 102, .int x]) (w1 := (WS1 c0 C L rest u)) (by decide +kernel) rfl ?_
      refine M.alen (n := 64) (f := C) (b := false) (nx := 18) (by decide +kernel) rfl ?_
      show g 0 0 18 [(0, .ref 101), (1, .int x)] [.int 64, .int x] (WS1 c0 C L rest u)
      refine M.icmp_ge (off := 12) (tgt := 30) (nx := 21) (by decide +kernel) (fun z18 => ?_) (fun z18 => ?_)
      · refine M.blk (is := [(.iconst (-1), 0, 0, (-1))]) (pc1 := 31) (lo1 := [(0, .ref 101), (1, .int x)]) (st1 := [.int (-1)]) (w1 := (WS1 c0 C L rest u)) (by decide +kernel) rfl ?_
        exact M.reti (nx := 32) (by decide +kernel) ⟨by simp [sGet, *], rfl⟩
      · refine M.blk (is := [(.aload_n 0, 0, 0, 0), (.getfield 9, 2, 0, 0), (.iload_n 1, 1, 0, 0)]) (pc1 := 26) (lo1 := [(0, .ref 101), (1, .int x)]) (st1 := [.int x, .ref 102]) (w1 := (WS1 c0 C L rest u)) (by decide +kernel) rfl ?_
        refine M.ald (n := 64) (f := C) (j := x.toNatClampNeg) (nx := 27) (by decide +kernel) rfl (idx_of z1 z18 (by decide)).1 (idx_of z1 z18 (by decide)).2 (by decide) ?_
        refine M.blk (is := [(.goto 4, 31, 0, 0)]) (pc1 := 31) (lo1 := [(0, .ref 101), (1, .int x)]) (st1 := [.int (C x.toNatClampNeg)]) (w1 := (WS1 c0 C L rest u)) (by decide +kernel) rfl ?_
        exact M.reti (nx := 32) (by decide +kernel) ⟨by simp [sGet, *], rfl⟩
theorem s_add1 {c0 : Cl} {C : Nat → Int32} {rest u : List Cl} {n : Nat} (hn : n < 64) (x : Int32) : CC 0 mX2_add 0 0 [.ref 101, .int x] (WS1 c0 C (nI n) rest u) (Rv (WS1 c0 (upd C n x) (nI (n + 1)) rest u)) := by
  refine CC.of okX2_add.1 (Nat.le_of_ble_eq_true rfl) (fun g M => ?_)
  show g 0 0 0 [(0, .ref 101), (1, .int x)] [] (WS1 c0 C (nI n) rest u)
  refine M.blk (is := [(.aload_n 0, 0, 0, 0), (.getfield 15, 2, 1, 0)]) (pc1 := 4) (lo1 := [(0, .ref 101), (1, .int x)]) (st1 := [.int (nI n)]) (w1 := (WS1 c0 C (nI n) rest u)) (by decide +kernel) rfl ?_
  refine M.if_lt (off := 35) (tgt := 39) (nx := 7) (by decide +kernel) (fun z4 => by exfalso; exact nI_pos (by omega) z4) (fun z4 => ?_)
  refine M.blk (is := [(.aload_n 0, 0, 0, 0), (.getfield 15, 2, 1, 0), (.aload_n 0, 0, 0, 0), (.getfield 9, 2, 0, 0)]) (pc1 := 15) (lo1 := [(0, .ref 101), (1, .int x)]) (st1 := [.ref 102, .int (nI n)]) (w1 := (WS1 c0 C (nI n) rest u)) (by decide +kernel) rfl ?_
  refine M.alen (n := 64) (f := C) (b := false) (nx := 16) (by decide +kernel) rfl ?_
  show g 0 0 16 [(0, .ref 101), (1, .int x)] [.int 64, .int (nI n)] (WS1 c0 C (nI n) rest u)
  refine M.icmp_ge (off := 23) (tgt := 39) (nx := 19) (by decide +kernel) (fun z16 => by exfalso; exact nI_ge (a := n) (b := 64) hn (by decide) z16) (fun z16 => ?_)
  refine M.blk (is := [(.aload_n 0, 0, 0, 0), (.getfield 9, 2, 0, 0), (.aload_n 0, 0, 0, 0), (.getfield 15, 2, 1, 0), (.iload_n 1, 1, 0, 0)]) (pc1 := 28) (lo1 := [(0, .ref 101), (1, .int x)]) (st1 := [.int x, .int (nI n), .ref 102]) (w1 := (WS1 c0 C (nI n) rest u)) (by decide +kernel) rfl ?_
  refine M.ast (n := 64) (f := C) (j := n) (nx := 29) (by decide +kernel) rfl rfl (by omega) (by decide) ?_
  show g 0 0 29 [(0, .ref 101), (1, .int x)] [] (WS1 c0 (upd C n x) (nI n) rest u)
  refine M.blk (is := [(.aload_n 0, 0, 0, 0), (.dup, 0, 0, 0), (.getfield 15, 2, 1, 0), (.iconst 1, 0, 0, 1), (.iadd, 0, 0, 0), (.putfield 15, 2, 1, 0)]) (pc1 := 39) (lo1 := [(0, .ref 101), (1, .int x)]) (st1 := []) (w1 := (WS1 c0 (upd C n x) ((nI n) + 1) rest u)) (by decide +kernel) rfl ?_
  exact M.retv (nx := 40) (by decide +kernel) ⟨rfl, by rw [← nI_1]⟩
theorem s_clear3 {c0 c1 c2 : Cl} {C : Nat → Int32} {L : Int32} {rest u : List Cl} : CC 0 mX2_clear 0 0 [.ref 103] (WS3 c0 c1 c2 C L rest u) (Rv (WS3 c0 c1 c2 C 0 rest u)) := by
  refine CC.of okX2_clear.1 (Nat.le_of_ble_eq_true rfl) (fun g M => ?_)
  show g 0 0 0 [(0, .ref 103)] [] (WS3 c0 c1 c2 C L rest u)
  refine M.blk (is := [(.aload_n 0, 0, 0, 0), (.iconst 0, 0, 0, 0), (.putfield 15, 2, 1, 0)]) (pc1 := 5) (lo1 := [(0, .ref 103)]) (st1 := []) (w1 := (WS3 c0 c1 c2 C 0 rest u)) (by decide +kernel) rfl ?_
  exact M.retv (nx := 6) (by decide +kernel) ⟨rfl, rfl⟩
theorem s_get3 {c0 c1 c2 : Cl} {C : Nat → Int32} {L : Int32} {rest u : List Cl} (x : Int32) : CC 0 mX2_get 0 0 [.ref 103, .int x] (WS3 c0 c1 c2 C L rest u) (Rt (sGet C L x) (WS3 c0 c1 c2 C L rest u)) := by
  refine CC.of okX2_get.1 (Nat.le_of_ble_eq_true rfl) (fun g M => ?_)
  show g 0 0 0 [(0, .ref 103), (1, .int x)] [] (WS3 c0 c1 c2 C L rest u)
  refine M.blk (is := [(.iload_n 1, 1, 0, 0)]) (pc1 := 1) (lo1 := [(0, .ref 103), (1, .int x)]) (st1 := [.int x]) (w1 := (WS3 c0 c1 c2 C L rest u)) (by decide +kernel) rfl ?_
  refine M.if_lt (off := 29) (tgt := 30) (nx := 4) (by decide +kernel) (fun z1 => ?_) (fun z1 => ?_)
  · refine M.blk (is := [(.iconst (-1), 0, 0, (-1))]) (pc1 := 31) (lo1 := [(0, .ref 103), (1, .int x)]) (st1 := [.int (-1)]) (w1 := (WS3 c0 c1 c2 C L rest u)) (by decide +kernel) rfl ?_
    exact M.reti (nx := 32) (by decide +kernel) ⟨by simp [sGet, *], rfl⟩
  · refine M.blk (is := [(.iload_n 1, 1, 0, 0), (.aload_n 0, 0, 0, 0), (.getfield 15, 2, 1, 0)]) (pc1 := 9) (lo1 := [(0, .ref 103), (1, .int x)]) (st1 := [.int L, .int x]) (w1 := (WS3 c0 c1 c2 C L rest u)) (by decide +kernel) rfl ?_
    refine M.icmp_ge (off := 21) (tgt := 30) (nx := 12) (by decide +kernel) (fun z9 => ?_) (fun z9 => ?_)
    · refine M.blk (is := [(.iconst (-1), 0, 0, (-1))]) (pc1 := 31) (lo1 := [(0, .ref 103), (1, .int x)]) (st1 := [.int (-1)]) (w1 := (WS3 c0 c1 c2 C L rest u)) (by decide +kernel) rfl ?_
      exact M.reti (nx := 32) (by decide +kernel) ⟨by simp [sGet, *], rfl⟩
    · refine M.blk (is := [(.iload_n 1, 1, 0, 0), (.aload_n 0, 0, 0, 0), (.getfield 9, 2, 0, 0)]) (pc1 := 17) (lo1 := [(0, .ref 103), (1, .int x)]) (st1 := [.ref 104, .int x]) (w1 := (WS3 c0 c1 c2 C L rest u)) (by decide +kernel) rfl ?_
      refine M.alen (n := 64) (f := C) (b := false) (nx := 18) (by decide +kernel) rfl ?_
      show g 0 0 18 [(0, .ref 103), (1, .int x)] [.int 64, .int x] (WS3 c0 c1 c2 C L rest u)
      refine M.icmp_ge (off := 12) (tgt := 30) (nx := 21) (by decide +kernel) (fun z18 => ?_) (fun z18 => ?_)
      · refine M.blk (is := [(.iconst (-1), 0, 0, (-1))]) (pc1 := 31) (lo1 := [(0, .ref 103), (1, .int x)]) (st1 := [.int (-1)]) (w1 := (WS3 c0 c1 c2 C L rest u)) (by decide +kernel) rfl ?_
        exact M.reti (nx := 32) (by decide +kernel) ⟨by simp [sGet, *], rfl⟩
      · refine M.blk (is := [(.aload_n 0, 0, 0, 0), (.getfield 9, 2, 0, 0), (.iload_n 1, 1, 0, 0)]) (pc1 := 26) (lo1 := [(0, .ref 103), (1, .int x)]) (st1 := [.int x, .ref 104]) (w1 := (WS3 c0 c1 c2 C L rest u)) (by decide +kernel) rfl ?_
        refine M.ald (n := 64) (f := C) (j := x.toNatClampNeg) (nx := 27) (by decide +kernel) rfl (idx_of z1 z18 (by decide)).1 (idx_of z1 z18 (by decide)).2 (by decide) ?_
        refine M.blk (is := [(.goto 4, 31, 0, 0)]) (pc1 := 31) (lo1 := [(0, .ref 103), (1, .int x)]) (st1 := [.int (C x.toNatClampNeg)]) (w1 := (WS3 c0 c1 c2 C L rest u)) (by decide +kernel) rfl ?_
        exact M.reti (nx := 32) (by decide +kernel) ⟨by simp [sGet, *], rfl⟩
theorem s_add3 {c0 c1 c2 : Cl} {C : Nat → Int32} {rest u : List Cl} {n : Nat} (hn : n < 64) (x : Int32) : CC 0 mX2_add 0 0 [.ref 103, .int x] (WS3 c0 c1 c2 C (nI n) rest u) (Rv (WS3 c0 c1 c2 (upd C n x) (nI (n + 1)) rest u)) := by
  refine CC.of okX2_add.1 (Nat.le_of_ble_eq_true rfl) (fun g M => ?_)
  show g 0 0 0 [(0, .ref 103), (1, .int x)] [] (WS3 c0 c1 c2 C (nI n) rest u)
  refine M.blk (is := [(.aload_n 0, 0, 0, 0), (.getfield 15, 2, 1, 0)]) (pc1 := 4) (lo1 := [(0, .ref 103), (1, .int x)]) (st1 := [.int (nI n)]) (w1 := (WS3 c0 c1 c2 C (nI n) rest u)) (by decide +kernel) rfl ?_
  refine M.if_lt (off := 35) (tgt := 39) (nx := 7) (by decide +kernel) (fun z4 => by exfalso; exact nI_pos (by omega) z4) (fun z4 => ?_)
  refine M.blk (is := [(.aload_n 0, 0, 0, 0), (.getfield 15, 2, 1, 0), (.aload_n 0, 0, 0, 0), (.getfield 9, 2, 0, 0)]) (pc1 := 15) (lo1 := [(0, .ref 103), (1, .int x)]) (st1 := [.ref 104, .int (nI n)]) (w1 := (WS3 c0 c1 c2 C (nI n) rest u)) (by decide +kernel) rfl ?_
  refine M.alen (n := 64) (f := C) (b := false) (nx := 16) (by decide +kernel) rfl ?_
  show g 0 0 16 [(0, .ref 103), (1, .int x)] [.int 64, .int (nI n)] (WS3 c0 c1 c2 C (nI n) rest u)
  refine M.icmp_ge (off := 23) (tgt := 39) (nx := 19) (by decide +kernel) (fun z16 => by exfalso; exact nI_ge (a := n) (b := 64) hn (by decide) z16) (fun z16 => ?_)
  refine M.blk (is := [(.aload_n 0, 0, 0, 0), (.getfield 9, 2, 0, 0), (.aload_n 0, 0, 0, 0), (.getfield 15, 2, 1, 0), (.iload_n 1, 1, 0, 0)]) (pc1 := 28) (lo1 := [(0, .ref 103), (1, .int x)]) (st1 := [.int x, .int (nI n), .ref 104]) (w1 := (WS3 c0 c1 c2 C (nI n) rest u)) (by decide +kernel) rfl ?_
  refine M.ast (n := 64) (f := C) (j := n) (nx := 29) (by decide +kernel) rfl rfl (by omega) (by decide) ?_
  show g 0 0 29 [(0, .ref 103), (1, .int x)] [] (WS3 c0 c1 c2 (upd C n x) (nI n) rest u)
  refine M.blk (is := [(.aload_n 0, 0, 0, 0), (.dup, 0, 0, 0), (.getfield 15, 2, 1, 0), (.iconst 1, 0, 0, 1), (.iadd, 0, 0, 0), (.putfield 15, 2, 1, 0)]) (pc1 := 39) (lo1 := [(0, .ref 103), (1, .int x)]) (st1 := []) (w1 := (WS3 c0 c1 c2 (upd C n x) ((nI n) + 1) rest u)) (by decide +kernel) rfl ?_
  exact M.retv (nx := 40) (by decide +kernel) ⟨rfl, by rw [← nI_1]⟩
end
section
/-! the sheet's geometry in plain numbers -/
def tyN (c k : Nat) : Nat := (k / c + 2 * (k % c)) % 5
def nbO (r c k d : Nat) : Option Nat := match d with
  | 0 => if 0 < k / c then some (k - c) else none
  | 1 => if k % c + 1 < c then some (k + 1) else none
  | 2 => if k / c + 1 < r then some (k + c) else none
  | _ => if 0 < k % c then some (k - 1) else none
def oI (o : Option Nat) : Int32 := match o with | none => -1 | some k => nI k
def thr (r c k : Nat) : Nat := (if (nbO r c k 0).isSome then 1 else 0) + ((if (nbO r c k 1).isSome then 2 else 0) + ((if (nbO r c k 2).isSome then 4 else 0) + (if (nbO r c k 3).isSome then 8 else 0)))
def mkT (c t m : Nat) : Nat := match m with
  | 0 => 0
  | m + 1 => mkT c t m + (if tyN c m = t then 2 ^ m else 0)
theorem mkT_lt (c t m : Nat) : mkT c t m < 2 ^ m := by
  induction m with
  | zero => exact Nat.one_pos
  | succ m ih =>
    unfold mkT
    rw [Nat.pow_succ]
    split <;> omega
theorem nI_or (a b : Nat) : nI a ||| nI b = nI (a ||| b) := by
  apply Int32.toBitVec_inj.mp
  rw [Int32.toBitVec_or]
  show BitVec.ofNat 32 a ||| BitVec.ofNat 32 b = BitVec.ofNat 32 (a ||| b)
  exact BitVec.ofNat_or.symm
theorem nI_or_pow {a m : Nat} (h : a < 2 ^ m) : nI a ||| nI (2 ^ m) = nI (a + 2 ^ m) := by
  rw [nI_or]
  congr 1
  have h1 := Nat.two_pow_add_eq_or_of_lt (i := m) (b := a) h 1
  rw [Nat.mul_one] at h1
  rw [Nat.add_comm, h1, Nat.or_comm]
theorem shl1 {m : Nat} (h : m < 31) : (1 : Int32) <<< (nI m &&& 31) = nI (2 ^ m) := by
  have key : ∀ m : Fin 31, (1 : Int32) <<< (nI m.val &&& 31) = nI (2 ^ m.val) := by decide +kernel
  exact key ⟨m, h⟩
theorem hf_rem {a d : Nat} (ha : a < 2147483648) (h0 : 0 < d) (hd : d < 2147483648) : jrem (nI a) (nI d) = nI (a % d) := pk_rem ha h0 hd
theorem oI_ne {k : Nat} (h : k < 1000) : ¬ nI k = -1 := by
  intro e
  have h1 := congrArg Int32.toInt e
  rw [nI_toInt (by omega)] at h1
  have h2 : (-1 : Int32).toInt = -1 := by decide
  omega
theorem Mach.lsub {d : Nat} {mt : Mt} {mc ms : Nat} {post : Option Value → Wd → Prop} {L : Nat} {xs : Nat → Int32} {g : Nat → Nat → Nat → Lo → List Value → Wd → Prop} {cs sl pc : Nat} {lo lo1 : Lo} {st : List Value} {w : Wd} (M : Mach d mt mc ms post L xs g) (ks : List Nat) (h : lv_pick lo ks = lo1) (k : g cs sl pc lo1 st w) : g cs sl pc lo st w := by
  obtain ⟨p, l, e, R, s, m, args, below, meth, c, Q, E, D, cI, cZ, ⟨hx, hb, hml, hown, hts, hK, hB, hR, hnm, hret, hscr⟩, rfl⟩ := M
  intro H locs ls hH hS hl
  refine k H locs ls hH hS ⟨hl.1, hl.2.1, fun q hq => ?_⟩
  subst h
  obtain ⟨q0, hq0, rfl⟩ := List.mem_map.mp hq
  unfold lv_pick at hq0
  obtain ⟨i, -, hi⟩ := List.mem_filterMap.mp hq0
  exact hl.2.2 _ (List.mem_map.mpr ⟨q0, List.mem_of_getElem? hi, rfl⟩)
theorem nI_le0 {i : Nat} (h : i < 2147483648) : nI i ≤ 0 ↔ i = 0 := by
  rw [show (0 : Int32) = nI 0 from rfl, nI_leI h (by decide)]
  omega
theorem nI_inj {a b : Nat} (ha : a < 2147483648) (hb : b < 2147483648) (h : nI a = nI b) : a = b := (nI_eq ha hb).mp h
def LayInv (r c m : Nat) (PA : Nat → Nat → Int32) : Prop := (∀ k, k < m → PA 0 k = nI (tyN c k) ∧ PA 2 k = nI (k / c) ∧ PA 4 k = nI (thr r c k) ∧ ∀ d, d < 4 → PA 3 (4 * k + d) = oI (nbO r c k d)) ∧ ∀ t, t < 5 → PA 1 t = nI (mkT c t m)
def MixInv (n f h m : Nat) (PA : Nat → Nat → Int32) : Prop := ∀ a, a < m → PA 5 a = nI ((f * a + h) % n) ∧ PA 6 ((f * a + h) % n) = nI a
def GeoOk (r c f h t : Nat) : Prop := (3 ≤ r ∧ r ≤ 5) ∧ (3 ≤ c ∧ c ≤ 5) ∧ (1 ≤ f ∧ f < r * c) ∧ Nat.gcd (r * c) f = 1 ∧ h < r * c ∧ t < 2 ^ r
def PlOk (r c f h t : Nat) (PA : Nat → Nat → Int32) (PS : Nat → Int32) : Prop := (PS 7 = nI r ∧ PS 8 = nI c ∧ PS 9 = nI (r * c) ∧ PS 10 = nI f ∧ PS 11 = nI h ∧ PS 12 = nI t) ∧ LayInv r c (r * c) PA ∧ MixInv (r * c) f h (r * c) PA
def mixP (r n : Nat) (x y z : Int32) : Prop := ∃ f h t : Nat, x = nI f ∧ y = nI h ∧ z = nI t ∧ 1 ≤ f ∧ f < n ∧ Nat.gcd n f = 1 ∧ h < n ∧ t < 2 ^ r
def layP (x y : Int32) : Prop := ∃ r c : Nat, x = nI r ∧ y = nI c ∧ (3 ≤ r ∧ r ≤ 5) ∧ (3 ≤ c ∧ c ≤ 5)
theorem mod_inj {n f h a b : Nat} (hg : Nat.gcd n f = 1) (ha : a < n) (hb : b < n) (e : (f * a + h) % n = (f * b + h) % n) : a = b := by
  have key : ∀ a b, a < n → b < n → a ≤ b → (f * a + h) % n = (f * b + h) % n → a = b := by
    intro a b ha hb hab e
    have h1 : (f * b + h - (f * a + h)) % n = 0 := Nat.sub_mod_eq_zero_of_mod_eq e.symm
    have h2 : f * b + h - (f * a + h) = f * (b - a) := by rw [Nat.mul_sub]; omega
    rw [h2] at h1
    have h3 : n ∣ f * (b - a) := Nat.dvd_of_mod_eq_zero h1
    have h4 : n ∣ b - a := Nat.Coprime.dvd_of_dvd_mul_left hg h3
    rcases Nat.eq_zero_or_pos (b - a) with h5 | h5
    · omega
    · have := Nat.le_of_dvd h5 h4
      omega
  rcases Nat.le_total a b with hab | hab
  · exact key a b ha hb hab e
  · exact (key b a hb ha hab e.symm).symm
theorem div_row {c i j : Nat} (hj : j < c) : (i * c + j) / c = i ∧ (i * c + j) % c = j := by
  have h0 : 0 < c := by omega
  rw [Nat.mul_comm, Nat.mul_add_div h0, Nat.mul_add_mod, Nat.div_eq_of_lt hj, Nat.mod_eq_of_lt hj]
  exact ⟨rfl, rfl⟩
theorem va_upS {α : Type} (f : Nat → α) (k : Nat) (v : α) : va_up f k v k = v := if_pos rfl
theorem va_upN {α : Type} (f : Nat → α) {k j : Nat} (v : α) (h : j ≠ k) : va_up f k v j = f j := if_neg h
theorem lay_V (s0 s1 s2 s3 : Bool) : ((((0 : Int32) ||| (if s0 then nI (2 ^ 0) else 0)) ||| (if s1 then nI (2 ^ 1) else 0)) ||| (if s2 then nI (2 ^ 2) else 0)) ||| (if s3 then nI (2 ^ 3) else 0) = nI ((if s0 then 1 else 0) + ((if s1 then 2 else 0) + ((if s2 then 4 else 0) + (if s3 then 8 else 0)))) := by
  cases s0 <;> cases s1 <;> cases s2 <;> cases s3 <;> decide
theorem lay_step {r c i j : Nat} {PA PB : Nat → Nat → Int32} {v0 v1 v2 v3 V : Int32} (hj : j < c) (hi : i < r) (h25 : r * c ≤ 25) (h : LayInv r c (i * c + j) PA)
    (e0 : PB 0 = upd (PA 0) (i * c + j) (nI (tyN c (i * c + j)))) (e1 : PB 1 = upd (PA 1) (tyN c (i * c + j)) (PA 1 (tyN c (i * c + j)) ||| nI (2 ^ (i * c + j)))) (e2 : PB 2 = upd (PA 2) (i * c + j) (nI i))
    (e3 : PB 3 = upd (upd (upd (upd (PA 3) (4 * (i * c + j) + 0) v0) (4 * (i * c + j) + 1) v1) (4 * (i * c + j) + 2) v2) (4 * (i * c + j) + 3) v3) (e4 : PB 4 (i * c + j) = V) (e5 : ∀ k, k ≠ i * c + j → PB 4 k = PA 4 k)
    (f0 : v0 = oI (nbO r c (i * c + j) 0)) (f1 : v1 = oI (nbO r c (i * c + j) 1)) (f2 : v2 = oI (nbO r c (i * c + j) 2)) (f3 : v3 = oI (nbO r c (i * c + j) 3)) (f4 : V = nI (thr r c (i * c + j))) : LayInv r c (i * c + j + 1) PB := by
  obtain ⟨hd1, hd2⟩ := div_row (i := i) hj
  generalize i * c + j = m at *
  obtain ⟨ha, hb⟩ := h
  refine ⟨fun k hk => ?_, fun t ht => ?_⟩
  · by_cases hkm : k = m
    · subst hkm
      refine ⟨by rw [e0, pk_us], by rw [e2, pk_us, hd1], by rw [e4, f4], fun d hd => ?_⟩
      rw [e3]
      rcases (show d = 0 ∨ d = 1 ∨ d = 2 ∨ d = 3 by omega) with rfl | rfl | rfl | rfl
      · rw [pk_un (by omega), pk_un (by omega), pk_un (by omega), pk_us, f0]
      · rw [pk_un (by omega), pk_un (by omega), pk_us, f1]
      · rw [pk_un (by omega), pk_us, f2]
      · rw [pk_us, f3]
    · obtain ⟨g1, g2, g3, g4⟩ := ha k (by omega)
      refine ⟨by rw [e0, pk_un hkm, g1], by rw [e2, pk_un hkm, g2], by rw [e5 k hkm, g3], fun d hd => ?_⟩
      rw [e3, pk_un (by omega), pk_un (by omega), pk_un (by omega), pk_un (by omega)]
      exact g4 d hd
  · rw [e1]
    unfold mkT
    by_cases htt : tyN c m = t
    · subst htt
      rw [pk_us, hb _ ht, if_pos rfl, nI_or_pow (mkT_lt c _ m)]
    · rw [pk_un (Ne.symm htt), if_neg htt, Nat.add_zero]
      exact hb t ht
end
section
section PLANE
variable {c0 c1 c2 c3 c4 : Cl} {PA : Nat → Nat → Int32} {PS : Nat → Int32} {rest u : List Cl}
def hasF (PS : Nat → Int32) (x : Int32) : Int32 := if x < 0 then 0 else if PS 9 ≤ x then 0 else if 25 ≤ x then 0 else 1
theorem hasF_idx {PS : Nat → Int32} {x : Int32} (h : ¬ hasF PS x = 0) : x = nI x.toNatClampNeg ∧ x.toNatClampNeg < 25 := by
  unfold hasF at h
  split at h
  · exact absurd rfl h
  · split at h
    · exact absurd rfl h
    · split at h
      · exact absurd rfl h
      · exact idx_of (n := 25) (by assumption) (by assumption) (by decide)
theorem hasF_nI {PS : Nat → Int32} {k m : Nat} (hm : PS 9 = nI m) (h25 : m ≤ 25) (hk : k < m) : hasF PS (nI k) = 1 := by
  unfold hasF
  rw [if_neg (nI_pos (by omega)), if_neg (by rw [hm]; exact nI_ge hk (by omega)), if_neg (show ¬ (25 : Int32) ≤ nI k from nI_ge (b := 25) (by omega) (by decide))]
theorem hasF_cases (PS : Nat → Int32) (x : Int32) {m : Nat} (hm : PS 9 = nI m) (h25 : m ≤ 25) : (hasF PS x = 0 ∧ ∀ k, k < m → ¬ x = nI k) ∨ (hasF PS x = 1 ∧ ∃ k, k < m ∧ x = nI k) := by
  rcases pk_ix x (n := m) (by omega) with h | h | ⟨j, hj, rfl⟩
  · left
    refine ⟨by unfold hasF; rw [if_pos h], fun k hk e => ?_⟩
    rw [e] at h
    exact nI_pos (by omega) h
  · left
    refine ⟨?_, fun k hk e => ?_⟩
    · unfold hasF
      split
      · rfl
      · rw [if_pos (by rw [hm]; exact h)]
    · rw [e] at h
      exact nI_ge hk (by omega) h
  · exact Or.inr ⟨hasF_nI hm h25 hj, j, hj, rfl⟩
theorem s_has (x : Int32) : CC 0 mX1_has 0 0 [.ref 105, .int x] (WP c0 c1 c2 c3 c4 PA PS rest u) (Rt (hasF PS x) (WP c0 c1 c2 c3 c4 PA PS rest u)) := by
  refine CC.of okX1_has.1 (Nat.le_of_ble_eq_true rfl) (fun g M => ?_)
  show g 0 0 0 [(0, .ref 105), (1, .int x)] [] (WP c0 c1 c2 c3 c4 PA PS rest u)
  refine M.blk (is := [(.iload_n 1, 1, 0, 0)]) (pc1 := 1) (lo1 := [(0, .ref 105), (1, .int x)]) (st1 := [.int x]) (w1 := (WP c0 c1 c2 c3 c4 PA PS rest u)) (by decide +kernel) rfl ?_
  refine M.if_lt (off := 21) (tgt := 22) (nx := 4) (by decide +kernel) (fun z1 => ?_) (fun z1 => ?_)
  · refine M.blk (is := [(.iconst 0, 0, 0, 0)]) (pc1 := 23) (lo1 := [(0, .ref 105), (1, .int x)]) (st1 := [.int 0]) (w1 := (WP c0 c1 c2 c3 c4 PA PS rest u)) (by decide +kernel) rfl ?_
    exact M.retz (nx := 24) (by decide +kernel) (by decide) ⟨by simp [hasF, *], rfl⟩
  · refine M.blk (is := [(.iload_n 1, 1, 0, 0), (.aload_n 0, 0, 0, 0), (.getfield 48, 1, 9, 0)]) (pc1 := 9) (lo1 := [(0, .ref 105), (1, .int x)]) (st1 := [.int (PS 9), .int x]) (w1 := (WP c0 c1 c2 c3 c4 PA PS rest u)) (by decide +kernel) rfl ?_
    refine M.icmp_ge (off := 13) (tgt := 22) (nx := 12) (by decide +kernel) (fun z9 => ?_) (fun z9 => ?_)
    · refine M.blk (is := [(.iconst 0, 0, 0, 0)]) (pc1 := 23) (lo1 := [(0, .ref 105), (1, .int x)]) (st1 := [.int 0]) (w1 := (WP c0 c1 c2 c3 c4 PA PS rest u)) (by decide +kernel) rfl ?_
      exact M.retz (nx := 24) (by decide +kernel) (by decide) ⟨by simp [hasF, *], rfl⟩
    · refine M.blk (is := [(.iload_n 1, 1, 0, 0), (.bipush 25, 0, 0, 25)]) (pc1 := 15) (lo1 := [(0, .ref 105), (1, .int x)]) (st1 := [.int 25, .int x]) (w1 := (WP c0 c1 c2 c3 c4 PA PS rest u)) (by decide +kernel) rfl ?_
      refine M.icmp_ge (off := 7) (tgt := 22) (nx := 18) (by decide +kernel) (fun z15 => ?_) (fun z15 => ?_)
      · refine M.blk (is := [(.iconst 0, 0, 0, 0)]) (pc1 := 23) (lo1 := [(0, .ref 105), (1, .int x)]) (st1 := [.int 0]) (w1 := (WP c0 c1 c2 c3 c4 PA PS rest u)) (by decide +kernel) rfl ?_
        exact M.retz (nx := 24) (by decide +kernel) (by decide) ⟨by simp [hasF, *], rfl⟩
      · refine M.blk (is := [(.iconst 1, 0, 0, 1), (.goto 4, 23, 0, 0)]) (pc1 := 23) (lo1 := [(0, .ref 105), (1, .int x)]) (st1 := [.int 1]) (w1 := (WP c0 c1 c2 c3 c4 PA PS rest u)) (by decide +kernel) rfl ?_
        exact M.retz (nx := 24) (by decide +kernel) (by decide) ⟨by simp [hasF, *], rfl⟩
theorem s_typeOf (x : Int32) : CC 1 mX1_typeOf 0 0 [.ref 105, .int x] (WP c0 c1 c2 c3 c4 PA PS rest u) (Rt (if hasF PS x = 0 then -1 else PA 0 x.toNatClampNeg) (WP c0 c1 c2 c3 c4 PA PS rest u)) := by
  refine CC.of okX1_typeOf.1 (Nat.le_of_ble_eq_true rfl) (fun g M => ?_)
  show g 0 0 0 [(0, .ref 105), (1, .int x)] [] (WP c0 c1 c2 c3 c4 PA PS rest u)
  refine M.blk (is := [(.aload_n 0, 0, 0, 0), (.iload_n 1, 1, 0, 0)]) (pc1 := 2) (lo1 := [(0, .ref 105), (1, .int x)]) (st1 := [.int x, .ref 105]) (w1 := (WP c0 c1 c2 c3 c4 PA PS rest u)) (by decide +kernel) rfl ?_
  refine M.callVi (as := [.int x]) (st := []) (nx := 5) okX1_has lkX1_59 (s_has x) (by decide +kernel) (by decide) rfl (Nat.le_of_ble_eq_true rfl) rfl (by decide) ?_
  refine M.if_eq (off := 12) (tgt := 17) (nx := 8) (by decide +kernel) (fun z5 => ?_) (fun z5 => ?_)
  · refine M.blk (is := [(.iconst (-1), 0, 0, (-1))]) (pc1 := 18) (lo1 := [(0, .ref 105), (1, .int x)]) (st1 := [.int (-1)]) (w1 := (WP c0 c1 c2 c3 c4 PA PS rest u)) (by decide +kernel) rfl ?_
    exact M.reti (nx := 19) (by decide +kernel) ⟨by simp [*], rfl⟩
  · refine M.blk (is := [(.aload_n 0, 0, 0, 0), (.getfield 9, 1, 0, 0), (.iload_n 1, 1, 0, 0)]) (pc1 := 13) (lo1 := [(0, .ref 105), (1, .int x)]) (st1 := [.int x, .ref 106]) (w1 := (WP c0 c1 c2 c3 c4 PA PS rest u)) (by decide +kernel) rfl ?_
    refine M.ald (n := 25) (f := PA 0) (j := x.toNatClampNeg) (nx := 14) (by decide +kernel) rfl (hasF_idx z5).1 (hasF_idx z5).2 (by decide) ?_
    refine M.blk (is := [(.goto 4, 18, 0, 0)]) (pc1 := 18) (lo1 := [(0, .ref 105), (1, .int x)]) (st1 := [.int ((PA 0) x.toNatClampNeg)]) (w1 := (WP c0 c1 c2 c3 c4 PA PS rest u)) (by decide +kernel) rfl ?_
    exact M.reti (nx := 19) (by decide +kernel) ⟨by simp [*], rfl⟩
theorem s_addressOf (x : Int32) : CC 1 mX1_addressOf 0 0 [.ref 105, .int x] (WP c0 c1 c2 c3 c4 PA PS rest u) (Rt (if hasF PS x = 0 then -1 else PA 6 x.toNatClampNeg) (WP c0 c1 c2 c3 c4 PA PS rest u)) := by
  refine CC.of okX1_addressOf.1 (Nat.le_of_ble_eq_true rfl) (fun g M => ?_)
  show g 0 0 0 [(0, .ref 105), (1, .int x)] [] (WP c0 c1 c2 c3 c4 PA PS rest u)
  refine M.blk (is := [(.aload_n 0, 0, 0, 0), (.iload_n 1, 1, 0, 0)]) (pc1 := 2) (lo1 := [(0, .ref 105), (1, .int x)]) (st1 := [.int x, .ref 105]) (w1 := (WP c0 c1 c2 c3 c4 PA PS rest u)) (by decide +kernel) rfl ?_
  refine M.callVi (as := [.int x]) (st := []) (nx := 5) okX1_has lkX1_59 (s_has x) (by decide +kernel) (by decide) rfl (Nat.le_of_ble_eq_true rfl) rfl (by decide) ?_
  refine M.if_eq (off := 12) (tgt := 17) (nx := 8) (by decide +kernel) (fun z5 => ?_) (fun z5 => ?_)
  · refine M.blk (is := [(.iconst (-1), 0, 0, (-1))]) (pc1 := 18) (lo1 := [(0, .ref 105), (1, .int x)]) (st1 := [.int (-1)]) (w1 := (WP c0 c1 c2 c3 c4 PA PS rest u)) (by decide +kernel) rfl ?_
    exact M.reti (nx := 19) (by decide +kernel) ⟨by simp [*], rfl⟩
  · refine M.blk (is := [(.aload_n 0, 0, 0, 0), (.getfield 30, 1, 6, 0), (.iload_n 1, 1, 0, 0)]) (pc1 := 13) (lo1 := [(0, .ref 105), (1, .int x)]) (st1 := [.int x, .ref 112]) (w1 := (WP c0 c1 c2 c3 c4 PA PS rest u)) (by decide +kernel) rfl ?_
    refine M.ald (n := 25) (f := PA 6) (j := x.toNatClampNeg) (nx := 14) (by decide +kernel) rfl (hasF_idx z5).1 (hasF_idx z5).2 (by decide) ?_
    refine M.blk (is := [(.goto 4, 18, 0, 0)]) (pc1 := 18) (lo1 := [(0, .ref 105), (1, .int x)]) (st1 := [.int ((PA 6) x.toNatClampNeg)]) (w1 := (WP c0 c1 c2 c3 c4 PA PS rest u)) (by decide +kernel) rfl ?_
    exact M.reti (nx := 19) (by decide +kernel) ⟨by simp [*], rfl⟩
theorem s_cellOf (x : Int32) : CC 1 mX1_cellOf 0 0 [.ref 105, .int x] (WP c0 c1 c2 c3 c4 PA PS rest u) (Rt (if hasF PS x = 0 then -1 else PA 5 x.toNatClampNeg) (WP c0 c1 c2 c3 c4 PA PS rest u)) := by
  refine CC.of okX1_cellOf.1 (Nat.le_of_ble_eq_true rfl) (fun g M => ?_)
  show g 0 0 0 [(0, .ref 105), (1, .int x)] [] (WP c0 c1 c2 c3 c4 PA PS rest u)
  refine M.blk (is := [(.aload_n 0, 0, 0, 0), (.iload_n 1, 1, 0, 0)]) (pc1 := 2) (lo1 := [(0, .ref 105), (1, .int x)]) (st1 := [.int x, .ref 105]) (w1 := (WP c0 c1 c2 c3 c4 PA PS rest u)) (by decide +kernel) rfl ?_
  refine M.callVi (as := [.int x]) (st := []) (nx := 5) okX1_has lkX1_59 (s_has x) (by decide +kernel) (by decide) rfl (Nat.le_of_ble_eq_true rfl) rfl (by decide) ?_
  refine M.if_eq (off := 12) (tgt := 17) (nx := 8) (by decide +kernel) (fun z5 => ?_) (fun z5 => ?_)
  · refine M.blk (is := [(.iconst (-1), 0, 0, (-1))]) (pc1 := 18) (lo1 := [(0, .ref 105), (1, .int x)]) (st1 := [.int (-1)]) (w1 := (WP c0 c1 c2 c3 c4 PA PS rest u)) (by decide +kernel) rfl ?_
    exact M.reti (nx := 19) (by decide +kernel) ⟨by simp [*], rfl⟩
  · refine M.blk (is := [(.aload_n 0, 0, 0, 0), (.getfield 27, 1, 5, 0), (.iload_n 1, 1, 0, 0)]) (pc1 := 13) (lo1 := [(0, .ref 105), (1, .int x)]) (st1 := [.int x, .ref 111]) (w1 := (WP c0 c1 c2 c3 c4 PA PS rest u)) (by decide +kernel) rfl ?_
    refine M.ald (n := 25) (f := PA 5) (j := x.toNatClampNeg) (nx := 14) (by decide +kernel) rfl (hasF_idx z5).1 (hasF_idx z5).2 (by decide) ?_
    refine M.blk (is := [(.goto 4, 18, 0, 0)]) (pc1 := 18) (lo1 := [(0, .ref 105), (1, .int x)]) (st1 := [.int ((PA 5) x.toNatClampNeg)]) (w1 := (WP c0 c1 c2 c3 c4 PA PS rest u)) (by decide +kernel) rfl ?_
    exact M.reti (nx := 19) (by decide +kernel) ⟨by simp [*], rfl⟩
theorem s_there (x : Int32) : CC 1 mX1_there 0 0 [.ref 105, .int x] (WP c0 c1 c2 c3 c4 PA PS rest u) (Rt (if hasF PS x = 0 then 0 else PA 4 x.toNatClampNeg) (WP c0 c1 c2 c3 c4 PA PS rest u)) := by
  refine CC.of okX1_there.1 (Nat.le_of_ble_eq_true rfl) (fun g M => ?_)
  show g 0 0 0 [(0, .ref 105), (1, .int x)] [] (WP c0 c1 c2 c3 c4 PA PS rest u)
  refine M.blk (is := [(.aload_n 0, 0, 0, 0), (.iload_n 1, 1, 0, 0)]) (pc1 := 2) (lo1 := [(0, .ref 105), (1, .int x)]) (st1 := [.int x, .ref 105]) (w1 := (WP c0 c1 c2 c3 c4 PA PS rest u)) (by decide +kernel) rfl ?_
  refine M.callVi (as := [.int x]) (st := []) (nx := 5) okX1_has lkX1_59 (s_has x) (by decide +kernel) (by decide) rfl (Nat.le_of_ble_eq_true rfl) rfl (by decide) ?_
  refine M.if_eq (off := 12) (tgt := 17) (nx := 8) (by decide +kernel) (fun z5 => ?_) (fun z5 => ?_)
  · refine M.blk (is := [(.iconst 0, 0, 0, 0)]) (pc1 := 18) (lo1 := [(0, .ref 105), (1, .int x)]) (st1 := [.int 0]) (w1 := (WP c0 c1 c2 c3 c4 PA PS rest u)) (by decide +kernel) rfl ?_
    exact M.reti (nx := 19) (by decide +kernel) ⟨by simp [*], rfl⟩
  · refine M.blk (is := [(.aload_n 0, 0, 0, 0), (.getfield 24, 1, 4, 0), (.iload_n 1, 1, 0, 0)]) (pc1 := 13) (lo1 := [(0, .ref 105), (1, .int x)]) (st1 := [.int x, .ref 110]) (w1 := (WP c0 c1 c2 c3 c4 PA PS rest u)) (by decide +kernel) rfl ?_
    refine M.ald (n := 25) (f := PA 4) (j := x.toNatClampNeg) (nx := 14) (by decide +kernel) rfl (hasF_idx z5).1 (hasF_idx z5).2 (by decide) ?_
    refine M.blk (is := [(.goto 4, 18, 0, 0)]) (pc1 := 18) (lo1 := [(0, .ref 105), (1, .int x)]) (st1 := [.int ((PA 4) x.toNatClampNeg)]) (w1 := (WP c0 c1 c2 c3 c4 PA PS rest u)) (by decide +kernel) rfl ?_
    exact M.reti (nx := 19) (by decide +kernel) ⟨by simp [*], rfl⟩
theorem s_turnedAt (x : Int32) : CC 1 mX1_turnedAt 0 0 [.ref 105, .int x] (WP c0 c1 c2 c3 c4 PA PS rest u) (Rt (if hasF PS x = 0 then 0 else (PS 12 >>> (PA 2 x.toNatClampNeg &&& 31)) &&& 1) (WP c0 c1 c2 c3 c4 PA PS rest u)) := by
  refine CC.of okX1_turnedAt.1 (Nat.le_of_ble_eq_true rfl) (fun g M => ?_)
  show g 0 0 0 [(0, .ref 105), (1, .int x)] [] (WP c0 c1 c2 c3 c4 PA PS rest u)
  refine M.blk (is := [(.aload_n 0, 0, 0, 0), (.iload_n 1, 1, 0, 0)]) (pc1 := 2) (lo1 := [(0, .ref 105), (1, .int x)]) (st1 := [.int x, .ref 105]) (w1 := (WP c0 c1 c2 c3 c4 PA PS rest u)) (by decide +kernel) rfl ?_
  refine M.callVi (as := [.int x]) (st := []) (nx := 5) okX1_has lkX1_59 (s_has x) (by decide +kernel) (by decide) rfl (Nat.le_of_ble_eq_true rfl) rfl (by decide) ?_
  refine M.if_eq (off := 19) (tgt := 24) (nx := 8) (by decide +kernel) (fun z5 => ?_) (fun z5 => ?_)
  · refine M.blk (is := [(.iconst 0, 0, 0, 0)]) (pc1 := 25) (lo1 := [(0, .ref 105), (1, .int x)]) (st1 := [.int 0]) (w1 := (WP c0 c1 c2 c3 c4 PA PS rest u)) (by decide +kernel) rfl ?_
    exact M.reti (nx := 26) (by decide +kernel) ⟨by simp [*], rfl⟩
  · refine M.blk (is := [(.aload_n 0, 0, 0, 0), (.getfield 76, 1, 12, 0), (.aload_n 0, 0, 0, 0), (.getfield 18, 1, 2, 0), (.iload_n 1, 1, 0, 0)]) (pc1 := 17) (lo1 := [(0, .ref 105), (1, .int x)]) (st1 := [.int x, .ref 108, .int (PS 12)]) (w1 := (WP c0 c1 c2 c3 c4 PA PS rest u)) (by decide +kernel) rfl ?_
    refine M.ald (n := 25) (f := PA 2) (j := x.toNatClampNeg) (nx := 18) (by decide +kernel) rfl (hasF_idx z5).1 (hasF_idx z5).2 (by decide) ?_
    refine M.blk (is := [(.ishr, 0, 0, 0), (.iconst 1, 0, 0, 1), (.iand, 0, 0, 0), (.goto 4, 25, 0, 0)]) (pc1 := 25) (lo1 := [(0, .ref 105), (1, .int x)]) (st1 := [.int (((PS 12) >>> (((PA 2) x.toNatClampNeg) &&& 31)) &&& 1)]) (w1 := (WP c0 c1 c2 c3 c4 PA PS rest u)) (by decide +kernel) rfl ?_
    exact M.reti (nx := 26) (by decide +kernel) ⟨by simp [*], rfl⟩
theorem s_beside (x k : Int32) : CC 1 mX1_beside 0 0 [.ref 105, .int x, .int k] (WP c0 c1 c2 c3 c4 PA PS rest u) (Rt (if hasF PS x = 0 then -1 else if k < 0 then -1 else if 4 ≤ k then -1 else PA 3 (4 * x.toNatClampNeg + k.toNatClampNeg)) (WP c0 c1 c2 c3 c4 PA PS rest u)) := by
  refine CC.of okX1_beside.1 (Nat.le_of_ble_eq_true rfl) (fun g M => ?_)
  show g 0 0 0 [(0, .ref 105), (1, .int x), (2, .int k)] [] (WP c0 c1 c2 c3 c4 PA PS rest u)
  refine M.blk (is := [(.aload_n 0, 0, 0, 0), (.iload_n 1, 1, 0, 0)]) (pc1 := 2) (lo1 := [(0, .ref 105), (1, .int x), (2, .int k)]) (st1 := [.int x, .ref 105]) (w1 := (WP c0 c1 c2 c3 c4 PA PS rest u)) (by decide +kernel) rfl ?_
  refine M.callVi (as := [.int x]) (st := []) (nx := 5) okX1_has lkX1_59 (s_has x) (by decide +kernel) (by decide) rfl (Nat.le_of_ble_eq_true rfl) rfl (by decide) ?_
  refine M.if_eq (off := 25) (tgt := 30) (nx := 8) (by decide +kernel) (fun z5 => ?_) (fun z5 => ?_)
  · refine M.blk (is := [(.iconst (-1), 0, 0, (-1))]) (pc1 := 31) (lo1 := [(0, .ref 105), (1, .int x), (2, .int k)]) (st1 := [.int (-1)]) (w1 := (WP c0 c1 c2 c3 c4 PA PS rest u)) (by decide +kernel) rfl ?_
    exact M.reti (nx := 32) (by decide +kernel) ⟨by simp [*], rfl⟩
  · refine M.blk (is := [(.iload_n 2, 2, 0, 0)]) (pc1 := 9) (lo1 := [(0, .ref 105), (1, .int x), (2, .int k)]) (st1 := [.int k]) (w1 := (WP c0 c1 c2 c3 c4 PA PS rest u)) (by decide +kernel) rfl ?_
    refine M.if_lt (off := 21) (tgt := 30) (nx := 12) (by decide +kernel) (fun z9 => ?_) (fun z9 => ?_)
    · refine M.blk (is := [(.iconst (-1), 0, 0, (-1))]) (pc1 := 31) (lo1 := [(0, .ref 105), (1, .int x), (2, .int k)]) (st1 := [.int (-1)]) (w1 := (WP c0 c1 c2 c3 c4 PA PS rest u)) (by decide +kernel) rfl ?_
      exact M.reti (nx := 32) (by decide +kernel) ⟨by simp [*], rfl⟩
    · refine M.blk (is := [(.iload_n 2, 2, 0, 0), (.iconst 4, 0, 0, 4)]) (pc1 := 14) (lo1 := [(0, .ref 105), (1, .int x), (2, .int k)]) (st1 := [.int 4, .int k]) (w1 := (WP c0 c1 c2 c3 c4 PA PS rest u)) (by decide +kernel) rfl ?_
      refine M.icmp_ge (off := 16) (tgt := 30) (nx := 17) (by decide +kernel) (fun z14 => ?_) (fun z14 => ?_)
      · refine M.blk (is := [(.iconst (-1), 0, 0, (-1))]) (pc1 := 31) (lo1 := [(0, .ref 105), (1, .int x), (2, .int k)]) (st1 := [.int (-1)]) (w1 := (WP c0 c1 c2 c3 c4 PA PS rest u)) (by decide +kernel) rfl ?_
        exact M.reti (nx := 32) (by decide +kernel) ⟨by simp [*], rfl⟩
      · refine M.blk (is := [(.aload_n 0, 0, 0, 0), (.getfield 21, 1, 3, 0), (.iconst 4, 0, 0, 4), (.iload_n 1, 1, 0, 0), (.imul, 0, 0, 0), (.iload_n 2, 2, 0, 0), (.iadd, 0, 0, 0)]) (pc1 := 26) (lo1 := [(0, .ref 105), (1, .int x), (2, .int k)]) (st1 := [.int ((4 * x) + k), .ref 109]) (w1 := (WP c0 c1 c2 c3 c4 PA PS rest u)) (by decide +kernel) rfl ?_
        refine M.ald (n := 100) (f := PA 3) (j := 4 * x.toNatClampNeg + k.toNatClampNeg) (nx := 27) (by decide +kernel) rfl (by conv => lhs; rw [(hasF_idx z5).1, (idx_of (n := 4) z9 z14 (by decide)).1, show (4 : Int32) = nI 4 from rfl, pk_mul, nI_add]) (by have h1 := (hasF_idx z5).2; have h2 := (idx_of (n := 4) z9 z14 (by decide)).2; omega) (by decide) ?_
        refine M.blk (is := [(.goto 4, 31, 0, 0)]) (pc1 := 31) (lo1 := [(0, .ref 105), (1, .int x), (2, .int k)]) (st1 := [.int ((PA 3) (4 * x.toNatClampNeg + k.toNatClampNeg))]) (w1 := (WP c0 c1 c2 c3 c4 PA PS rest u)) (by decide +kernel) rfl ?_
        exact M.reti (nx := 32) (by decide +kernel) ⟨by simp [*], rfl⟩
theorem s_cellsOfType (t : Int32) : CC 0 mX1_cellsOfType 0 0 [.ref 105, .int t] (WP c0 c1 c2 c3 c4 PA PS rest u) (Rt (if t < 0 then 0 else if 5 ≤ t then 0 else PA 1 t.toNatClampNeg) (WP c0 c1 c2 c3 c4 PA PS rest u)) := by
  refine CC.of okX1_cellsOfType.1 (Nat.le_of_ble_eq_true rfl) (fun g M => ?_)
  show g 0 0 0 [(0, .ref 105), (1, .int t)] [] (WP c0 c1 c2 c3 c4 PA PS rest u)
  refine M.blk (is := [(.iload_n 1, 1, 0, 0)]) (pc1 := 1) (lo1 := [(0, .ref 105), (1, .int t)]) (st1 := [.int t]) (w1 := (WP c0 c1 c2 c3 c4 PA PS rest u)) (by decide +kernel) rfl ?_
  refine M.if_lt (off := 17) (tgt := 18) (nx := 4) (by decide +kernel) (fun z1 => ?_) (fun z1 => ?_)
  · refine M.blk (is := [(.iconst 0, 0, 0, 0)]) (pc1 := 19) (lo1 := [(0, .ref 105), (1, .int t)]) (st1 := [.int 0]) (w1 := (WP c0 c1 c2 c3 c4 PA PS rest u)) (by decide +kernel) rfl ?_
    exact M.reti (nx := 20) (by decide +kernel) ⟨by simp [*], rfl⟩
  · refine M.blk (is := [(.iload_n 1, 1, 0, 0), (.iconst 5, 0, 0, 5)]) (pc1 := 6) (lo1 := [(0, .ref 105), (1, .int t)]) (st1 := [.int 5, .int t]) (w1 := (WP c0 c1 c2 c3 c4 PA PS rest u)) (by decide +kernel) rfl ?_
    refine M.icmp_ge (off := 12) (tgt := 18) (nx := 9) (by decide +kernel) (fun z6 => ?_) (fun z6 => ?_)
    · refine M.blk (is := [(.iconst 0, 0, 0, 0)]) (pc1 := 19) (lo1 := [(0, .ref 105), (1, .int t)]) (st1 := [.int 0]) (w1 := (WP c0 c1 c2 c3 c4 PA PS rest u)) (by decide +kernel) rfl ?_
      exact M.reti (nx := 20) (by decide +kernel) ⟨by simp [*], rfl⟩
    · refine M.blk (is := [(.aload_n 0, 0, 0, 0), (.getfield 15, 1, 1, 0), (.iload_n 1, 1, 0, 0)]) (pc1 := 14) (lo1 := [(0, .ref 105), (1, .int t)]) (st1 := [.int t, .ref 107]) (w1 := (WP c0 c1 c2 c3 c4 PA PS rest u)) (by decide +kernel) rfl ?_
      refine M.ald (n := 5) (f := PA 1) (j := t.toNatClampNeg) (nx := 15) (by decide +kernel) rfl (idx_of (n := 5) z1 z6 (by decide)).1 (idx_of (n := 5) z1 z6 (by decide)).2 (by decide) ?_
      refine M.blk (is := [(.goto 4, 19, 0, 0)]) (pc1 := 19) (lo1 := [(0, .ref 105), (1, .int t)]) (st1 := [.int ((PA 1) t.toNatClampNeg)]) (w1 := (WP c0 c1 c2 c3 c4 PA PS rest u)) (by decide +kernel) rfl ?_
      exact M.reti (nx := 20) (by decide +kernel) ⟨by simp [*], rfl⟩
def sideF (x : Int32) : Int32 := if x < 3 then 0 else if 5 < x then 0 else 1
theorem s_isSide (w0 : Wd) (x : Int32) : CC 0 mX1_isSide 0 0 [.int x] w0 (Rt (sideF x) w0) := by
  refine CC.of okX1_isSide.1 (Nat.le_of_ble_eq_true rfl) (fun g M => ?_)
  show g 0 0 0 [(0, .int x)] [] w0
  refine M.blk (is := [(.iload_n 0, 0, 0, 0), (.iconst 3, 0, 0, 3)]) (pc1 := 2) (lo1 := [(0, .int x)]) (st1 := [.int 3, .int x]) (w1 := w0) (by decide +kernel) rfl ?_
  refine M.icmp_lt (off := 12) (tgt := 14) (nx := 5) (by decide +kernel) (fun z2 => ?_) (fun z2 => ?_)
  · refine M.blk (is := [(.iconst 0, 0, 0, 0)]) (pc1 := 15) (lo1 := [(0, .int x)]) (st1 := [.int 0]) (w1 := w0) (by decide +kernel) rfl ?_
    exact M.retz (nx := 16) (by decide +kernel) (by decide) ⟨by simp [sideF, *], rfl⟩
  · refine M.blk (is := [(.iload_n 0, 0, 0, 0), (.iconst 5, 0, 0, 5)]) (pc1 := 7) (lo1 := [(0, .int x)]) (st1 := [.int 5, .int x]) (w1 := w0) (by decide +kernel) rfl ?_
    refine M.icmp_gt (off := 7) (tgt := 14) (nx := 10) (by decide +kernel) (fun z7 => ?_) (fun z7 => ?_)
    · refine M.blk (is := [(.iconst 0, 0, 0, 0)]) (pc1 := 15) (lo1 := [(0, .int x)]) (st1 := [.int 0]) (w1 := w0) (by decide +kernel) rfl ?_
      exact M.retz (nx := 16) (by decide +kernel) (by decide) ⟨by simp [sideF, *], rfl⟩
    · refine M.blk (is := [(.iconst 1, 0, 0, 1), (.goto 4, 15, 0, 0)]) (pc1 := 15) (lo1 := [(0, .int x)]) (st1 := [.int 1]) (w1 := w0) (by decide +kernel) rfl ?_
      exact M.retz (nx := 16) (by decide +kernel) (by decide) ⟨by simp [sideF, *], rfl⟩
theorem s_setAddress {a k n : Nat} (hn : PS 9 = nI n) (h25 : n ≤ 25) (ha : a < n) (hk : k < n) : CC 1 mX1_setAddress 0 0 [.ref 105, .int (nI a), .int (nI k)] (WP c0 c1 c2 c3 c4 PA PS rest u) (Rv (WP c0 c1 c2 c3 c4 (va_up (va_up PA 5 (upd (PA 5) a (nI k))) 6 (upd (PA 6) k (nI a))) PS rest u)) := by
  refine CC.of okX1_setAddress.1 (Nat.le_of_ble_eq_true rfl) (fun g M => ?_)
  show g 0 0 0 [(0, .ref 105), (1, .int (nI a)), (2, .int (nI k))] [] (WP c0 c1 c2 c3 c4 PA PS rest u)
  refine M.blk (is := [(.aload_n 0, 0, 0, 0), (.iload_n 1, 1, 0, 0)]) (pc1 := 2) (lo1 := [(0, .ref 105), (1, .int (nI a)), (2, .int (nI k))]) (st1 := [.int (nI a), .ref 105]) (w1 := (WP c0 c1 c2 c3 c4 PA PS rest u)) (by decide +kernel) rfl ?_
  refine M.callVi (as := [.int (nI a)]) (st := []) (nx := 5) okX1_has lkX1_59 (s_has (nI a)) (by decide +kernel) (by decide) rfl (Nat.le_of_ble_eq_true rfl) rfl (by decide) ?_
  refine M.if_eq (off := 25) (tgt := 30) (nx := 8) (by decide +kernel) (fun z5 => by exfalso; rw [hasF_nI hn h25 ha] at z5; exact absurd z5 (by decide)) (fun z5 => ?_)
  refine M.blk (is := [(.aload_n 0, 0, 0, 0), (.iload_n 2, 2, 0, 0)]) (pc1 := 10) (lo1 := [(0, .ref 105), (1, .int (nI a)), (2, .int (nI k))]) (st1 := [.int (nI k), .ref 105]) (w1 := (WP c0 c1 c2 c3 c4 PA PS rest u)) (by decide +kernel) rfl ?_
  refine M.callVi (as := [.int (nI k)]) (st := []) (nx := 13) okX1_has lkX1_59 (s_has (nI k)) (by decide +kernel) (by decide) rfl (Nat.le_of_ble_eq_true rfl) rfl (by decide) ?_
  refine M.if_eq (off := 17) (tgt := 30) (nx := 16) (by decide +kernel) (fun z13 => by exfalso; rw [hasF_nI hn h25 hk] at z13; exact absurd z13 (by decide)) (fun z13 => ?_)
  refine M.blk (is := [(.aload_n 0, 0, 0, 0), (.getfield 27, 1, 5, 0), (.iload_n 1, 1, 0, 0), (.iload_n 2, 2, 0, 0)]) (pc1 := 22) (lo1 := [(0, .ref 105), (1, .int (nI a)), (2, .int (nI k))]) (st1 := [.int (nI k), .int (nI a), .ref 111]) (w1 := (WP c0 c1 c2 c3 c4 PA PS rest u)) (by decide +kernel) rfl ?_
  refine M.ast (n := 25) (f := PA 5) (j := a) (nx := 23) (by decide +kernel) rfl rfl (by omega) (by decide) ?_
  show g 0 0 23 [(0, .ref 105), (1, .int (nI a)), (2, .int (nI k))] [] (WP c0 c1 c2 c3 c4 (va_up PA 5 (upd (PA 5) a (nI k))) PS rest u)
  refine M.blk (is := [(.aload_n 0, 0, 0, 0), (.getfield 30, 1, 6, 0), (.iload_n 2, 2, 0, 0), (.iload_n 1, 1, 0, 0)]) (pc1 := 29) (lo1 := [(0, .ref 105), (1, .int (nI a)), (2, .int (nI k))]) (st1 := [.int (nI a), .int (nI k), .ref 112]) (w1 := (WP c0 c1 c2 c3 c4 (va_up PA 5 (upd (PA 5) a (nI k))) PS rest u)) (by decide +kernel) rfl ?_
  refine M.ast (n := 25) (f := PA 6) (j := k) (nx := 30) (by decide +kernel) rfl rfl (by omega) (by decide) ?_
  show g 0 0 30 [(0, .ref 105), (1, .int (nI a)), (2, .int (nI k))] [] (WP c0 c1 c2 c3 c4 (va_up (va_up PA 5 (upd (PA 5) a (nI k))) 6 (upd (PA 6) k (nI a))) PS rest u)
  exact M.retv (nx := 31) (by decide +kernel) ⟨rfl, rfl⟩
theorem s_layBeside {x k : Int32} {m dd n : Nat} (hn : PS 9 = nI n) (h25 : n ≤ 25) (hx : x = nI m) (hk : k = nI dd) (hm : m < n) (hd : dd < 4) (b y : Int32) : CC 1 mX1_layBeside 0 0 [.ref 105, .int x, .int k, .int b, .int y] (WP c0 c1 c2 c3 c4 PA PS rest u) (Rv (WP c0 c1 c2 c3 c4 (va_up (va_up PA 3 (upd (PA 3) (4 * m + dd) (if b = 0 then -1 else y))) 4 (upd (PA 4) m (PA 4 m ||| if b = 0 then 0 else nI (2 ^ dd)))) PS rest u)) := by
  refine CC.of okX1_layBeside.1 (Nat.le_of_ble_eq_true rfl) (fun g M => ?_)
  show g 0 0 0 [(0, .ref 105), (1, .int x), (2, .int k), (3, .int b), (4, .int y)] [] (WP c0 c1 c2 c3 c4 PA PS rest u)
  refine M.blk (is := [(.aload_n 0, 0, 0, 0), (.iload_n 1, 1, 0, 0)]) (pc1 := 2) (lo1 := [(0, .ref 105), (1, .int x), (2, .int k), (3, .int b), (4, .int y)]) (st1 := [.int x, .ref 105]) (w1 := (WP c0 c1 c2 c3 c4 PA PS rest u)) (by decide +kernel) rfl ?_
  refine M.callVi (as := [.int x]) (st := []) (nx := 5) okX1_has lkX1_59 (s_has x) (by decide +kernel) (by decide) rfl (Nat.le_of_ble_eq_true rfl) rfl (by decide) ?_
  refine M.if_eq (off := 52) (tgt := 57) (nx := 8) (by decide +kernel) (fun z5 => by exfalso; rw [hx, hasF_nI hn h25 hm] at z5; exact absurd z5 (by decide)) (fun z5 => ?_)
  refine M.blk (is := [(.iload_n 2, 2, 0, 0)]) (pc1 := 9) (lo1 := [(0, .ref 105), (1, .int x), (2, .int k), (3, .int b), (4, .int y)]) (st1 := [.int k]) (w1 := (WP c0 c1 c2 c3 c4 PA PS rest u)) (by decide +kernel) rfl ?_
  refine M.if_lt (off := 48) (tgt := 57) (nx := 12) (by decide +kernel) (fun z9 => by exfalso; rw [hk] at z9; exact nI_pos (by omega) z9) (fun z9 => ?_)
  refine M.blk (is := [(.iload_n 2, 2, 0, 0), (.iconst 4, 0, 0, 4)]) (pc1 := 14) (lo1 := [(0, .ref 105), (1, .int x), (2, .int k), (3, .int b), (4, .int y)]) (st1 := [.int 4, .int k]) (w1 := (WP c0 c1 c2 c3 c4 PA PS rest u)) (by decide +kernel) rfl ?_
  refine M.icmp_ge (off := 43) (tgt := 57) (nx := 17) (by decide +kernel) (fun z14 => by exfalso; rw [hk] at z14; exact nI_ge (b := 4) hd (by decide) z14) (fun z14 => ?_)
  refine M.blk (is := [(.aload_n 0, 0, 0, 0), (.getfield 21, 1, 3, 0), (.iconst 4, 0, 0, 4), (.iload_n 1, 1, 0, 0), (.imul, 0, 0, 0), (.iload_n 2, 2, 0, 0), (.iadd, 0, 0, 0), (.iload_n 3, 3, 0, 0)]) (pc1 := 27) (lo1 := [(0, .ref 105), (1, .int x), (2, .int k), (3, .int b), (4, .int y)]) (st1 := [.int b, .int ((4 * x) + k), .ref 109]) (w1 := (WP c0 c1 c2 c3 c4 PA PS rest u)) (by decide +kernel) rfl ?_
  have j27 : ∀ b27 : Int32, b27 = (if b = 0 then ((-1) : Int32) else y) → g 0 0 36 [(0, .ref 105), (1, .int x), (2, .int k), (3, .int b), (4, .int y)] [.int b27, .int ((4 * x) + k), .ref 109] (WP c0 c1 c2 c3 c4 PA PS rest u) := by
    intro b27 hb27
    refine M.ast (n := 100) (f := PA 3) (j := 4 * m + dd) (nx := 37) (by decide +kernel) rfl (by rw [hx, hk, show (4 : Int32) = nI 4 from rfl, pk_mul, nI_add]) (by omega) (by decide) ?_
    show g 0 0 37 [(0, .ref 105), (1, .int x), (2, .int k), (3, .int b), (4, .int y)] [] (WP c0 c1 c2 c3 c4 (va_up PA 3 (upd (PA 3) (4 * m + dd) b27)) PS rest u)
    refine M.blk (is := [(.aload_n 0, 0, 0, 0), (.getfield 24, 1, 4, 0), (.iload_n 1, 1, 0, 0), (.dup2, 0, 0, 0)]) (pc1 := 43) (lo1 := [(0, .ref 105), (1, .int x), (2, .int k), (3, .int b), (4, .int y)]) (st1 := [.int x, .ref 110, .int x, .ref 110]) (w1 := (WP c0 c1 c2 c3 c4 (va_up PA 3 (upd (PA 3) (4 * m + dd) b27)) PS rest u)) (by decide +kernel) rfl ?_
    refine M.ald (n := 25) (f := PA 4) (j := m) (nx := 44) (by decide +kernel) rfl hx (by omega) (by decide) ?_
    refine M.blk (is := [(.iload_n 3, 3, 0, 0)]) (pc1 := 45) (lo1 := [(0, .ref 105), (1, .int x), (2, .int k), (3, .int b), (4, .int y)]) (st1 := [.int b, .int ((PA 4) m), .int x, .ref 110]) (w1 := (WP c0 c1 c2 c3 c4 (va_up PA 3 (upd (PA 3) (4 * m + dd) b27)) PS rest u)) (by decide +kernel) rfl ?_
    have j45 : ∀ b45 : Int32, b45 = (if b = 0 then (0 : Int32) else (1 : Int32) <<< (k &&& 31)) → g 0 0 55 [(0, .ref 105), (1, .int x), (2, .int k), (3, .int b), (4, .int y)] [.int b45, .int ((PA 4) m), .int x, .ref 110] (WP c0 c1 c2 c3 c4 (va_up PA 3 (upd (PA 3) (4 * m + dd) b27)) PS rest u) := by
      intro b45 hb45
      refine M.blk (is := [(.ior, 0, 0, 0)]) (pc1 := 56) (lo1 := [(0, .ref 105), (1, .int x), (2, .int k), (3, .int b), (4, .int y)]) (st1 := [.int (((PA 4) m) ||| b45), .int x, .ref 110]) (w1 := (WP c0 c1 c2 c3 c4 (va_up PA 3 (upd (PA 3) (4 * m + dd) b27)) PS rest u)) (by decide +kernel) rfl ?_
      refine M.ast (n := 25) (f := PA 4) (j := m) (nx := 57) (by decide +kernel) rfl hx (by omega) (by decide) ?_
      show g 0 0 57 [(0, .ref 105), (1, .int x), (2, .int k), (3, .int b), (4, .int y)] [] (WP c0 c1 c2 c3 c4 (va_up (va_up PA 3 (upd (PA 3) (4 * m + dd) b27)) 4 (upd (PA 4) m (((PA 4) m) ||| b45))) PS rest u)
      exact M.retv (nx := 58) (by decide +kernel) ⟨rfl, by rw [hb27, hb45, hk, shl1 (by omega)]⟩
    refine M.if_eq (off := 9) (tgt := 54) (nx := 48) (by decide +kernel) (fun z45 => ?_) (fun z45 => ?_)
    · refine M.blk (is := [(.iconst 0, 0, 0, 0)]) (pc1 := 55) (lo1 := [(0, .ref 105), (1, .int x), (2, .int k), (3, .int b), (4, .int y)]) (st1 := [.int 0, .int ((PA 4) m), .int x, .ref 110]) (w1 := (WP c0 c1 c2 c3 c4 (va_up PA 3 (upd (PA 3) (4 * m + dd) b27)) PS rest u)) (by decide +kernel) rfl ?_
      exact j45 _ (if_pos z45).symm
    · refine M.blk (is := [(.iconst 1, 0, 0, 1), (.iload_n 2, 2, 0, 0), (.ishl, 0, 0, 0), (.goto 4, 55, 0, 0)]) (pc1 := 55) (lo1 := [(0, .ref 105), (1, .int x), (2, .int k), (3, .int b), (4, .int y)]) (st1 := [.int ((1 : Int32) <<< (k &&& 31)), .int ((PA 4) m), .int x, .ref 110]) (w1 := (WP c0 c1 c2 c3 c4 (va_up PA 3 (upd (PA 3) (4 * m + dd) b27)) PS rest u)) (by decide +kernel) rfl ?_
      exact j45 _ (if_neg z45).symm
  refine M.if_eq (off := 8) (tgt := 35) (nx := 30) (by decide +kernel) (fun z27 => ?_) (fun z27 => ?_)
  · refine M.blk (is := [(.iconst (-1), 0, 0, (-1))]) (pc1 := 36) (lo1 := [(0, .ref 105), (1, .int x), (2, .int k), (3, .int b), (4, .int y)]) (st1 := [.int (-1), .int ((4 * x) + k), .ref 109]) (w1 := (WP c0 c1 c2 c3 c4 PA PS rest u)) (by decide +kernel) rfl ?_
    exact j27 _ (if_pos z27).symm
  · refine M.blk (is := [(.iload 4, 4, 0, 0), (.goto 4, 36, 0, 0)]) (pc1 := 36) (lo1 := [(0, .ref 105), (1, .int x), (2, .int k), (3, .int b), (4, .int y)]) (st1 := [.int y, .int ((4 * x) + k), .ref 109]) (w1 := (WP c0 c1 c2 c3 c4 PA PS rest u)) (by decide +kernel) rfl ?_
    exact j27 _ (if_neg z27).symm
end PLANE
end
section
section LAY
variable {c0 c1 c2 c3 c4 : Cl} {PA : Nat → Nat → Int32} {PS : Nat → Int32} {rest u : List Cl}
theorem nb0 (r c k : Nat) : nbO r c k 0 = if 0 < k / c then some (k - c) else none := rfl
theorem nb1 (r c k : Nat) : nbO r c k 1 = if k % c + 1 < c then some (k + 1) else none := rfl
theorem nb2 (r c k : Nat) : nbO r c k 2 = if k / c + 1 < r then some (k + c) else none := rfl
theorem nb3 (r c k : Nat) : nbO r c k 3 = if 0 < k % c then some (k - 1) else none := rfl
theorem lc_n0 {r c i j : Nat} (hj : j < c) (hi25 : i ≤ 25) {b : Int32} (hb : b = if nI i ≤ 0 then (0 : Int32) else 1) : (b = 0 ↔ nbO r c (i * c + j) 0 = none) ∧ (¬ b = 0 → nbO r c (i * c + j) 0 = some (i * c + j - c)) := by
  obtain ⟨h1, h2⟩ := div_row (i := i) hj
  rw [nb0]
  rw [h1]
  by_cases h0 : i = 0
  · rw [if_pos ((nI_le0 (by omega)).mpr h0)] at hb
    rw [if_neg (by omega)]
    exact ⟨⟨fun _ => rfl, fun _ => hb⟩, fun h => absurd hb h⟩
  · rw [if_neg (fun h => h0 ((nI_le0 (by omega)).mp h))] at hb
    rw [if_pos (by omega)]
    exact ⟨⟨fun h => by rw [hb] at h; exact absurd h (by decide), fun h => by cases h⟩, fun _ => rfl⟩
theorem lc_n1 {r c i j : Nat} (hj : j < c) (hc25 : c ≤ 25) {b x : Int32} (hx : x = nI c) (hb : b = if x - 1 ≤ nI j then (0 : Int32) else 1) : (b = 0 ↔ nbO r c (i * c + j) 1 = none) ∧ (¬ b = 0 → nbO r c (i * c + j) 1 = some (i * c + j + 1)) := by
  obtain ⟨h1, h2⟩ := div_row (i := i) hj
  rw [nb1]
  rw [h2]
  have hx1 : x - 1 = nI (c - 1) := by rw [hx, show (1 : Int32) = nI 1 from rfl, pk_sub (by omega)]
  rw [hx1] at hb
  by_cases h0 : c - 1 ≤ j
  · rw [if_pos ((nI_leI (by omega) (by omega)).mpr h0)] at hb
    rw [if_neg (by omega)]
    exact ⟨⟨fun _ => rfl, fun _ => hb⟩, fun h => absurd hb h⟩
  · rw [if_neg (fun h => h0 ((nI_leI (by omega) (by omega)).mp h))] at hb
    rw [if_pos (by omega)]
    exact ⟨⟨fun h => by rw [hb] at h; exact absurd h (by decide), fun h => by cases h⟩, fun _ => rfl⟩
theorem lc_n2 {r c i j : Nat} (hj : j < c) (hi : i < r) (hr25 : r ≤ 25) {b x : Int32} (hx : x = nI r) (hb : b = if x - 1 ≤ nI i then (0 : Int32) else 1) : (b = 0 ↔ nbO r c (i * c + j) 2 = none) ∧ (¬ b = 0 → nbO r c (i * c + j) 2 = some (i * c + j + c)) := by
  obtain ⟨h1, h2⟩ := div_row (i := i) hj
  rw [nb2]
  rw [h1]
  have hx1 : x - 1 = nI (r - 1) := by rw [hx, show (1 : Int32) = nI 1 from rfl, pk_sub (by omega)]
  rw [hx1] at hb
  by_cases h0 : r - 1 ≤ i
  · rw [if_pos ((nI_leI (by omega) (by omega)).mpr h0)] at hb
    rw [if_neg (by omega)]
    exact ⟨⟨fun _ => rfl, fun _ => hb⟩, fun h => absurd hb h⟩
  · rw [if_neg (fun h => h0 ((nI_leI (by omega) (by omega)).mp h))] at hb
    rw [if_pos (by omega)]
    exact ⟨⟨fun h => by rw [hb] at h; exact absurd h (by decide), fun h => by cases h⟩, fun _ => rfl⟩
theorem lc_n3 {r c i j : Nat} (hj : j < c) (hc25 : c ≤ 25) {b : Int32} (hb : b = if nI j ≤ 0 then (0 : Int32) else 1) : (b = 0 ↔ nbO r c (i * c + j) 3 = none) ∧ (¬ b = 0 → nbO r c (i * c + j) 3 = some (i * c + j - 1)) := by
  obtain ⟨h1, h2⟩ := div_row (i := i) hj
  rw [nb3]
  rw [h2]
  by_cases h0 : j = 0
  · rw [if_pos ((nI_le0 (by omega)).mpr h0)] at hb
    rw [if_neg (by omega)]
    exact ⟨⟨fun _ => rfl, fun _ => hb⟩, fun h => absurd hb h⟩
  · rw [if_neg (fun h => h0 ((nI_le0 (by omega)).mp h))] at hb
    rw [if_pos (by omega)]
    exact ⟨⟨fun h => by rw [hb] at h; exact absurd h (by decide), fun h => by cases h⟩, fun _ => rfl⟩
theorem lc_or {o : Option Nat} {k : Nat} {b y : Int32} (h1 : b = 0 ↔ o = none) (h2 : ¬ b = 0 → o = some k) (hy : ¬ b = 0 → y = nI k) : (if b = 0 then -1 else y) = oI o := by
  by_cases hb : b = 0
  · rw [if_pos hb, h1.mp hb]; rfl
  · rw [if_neg hb, h2 hb, hy hb]; rfl
theorem lc_s {o : Option Nat} {b : Int32} {n : Nat} (h1 : b = 0 ↔ o = none) : (if b = 0 then (0 : Int32) else nI n) = if o.isSome = true then nI n else 0 := by
  cases o with
  | none => rw [if_pos (h1.mpr rfl)]; rfl
  | some k => rw [if_neg (fun h => by cases h1.mp h)]; rfl
theorem nb_up {r c k : Nat} {m : Nat} (h : nbO r c k 0 = some m) (hc : 0 < c) : c ≤ k := by
  rw [nb0] at h
  split at h
  · rename_i h1
    exact (Nat.div_pos_iff.mp h1).2
  · cases h
theorem nb_lf {r c k : Nat} {m : Nat} (h : nbO r c k 3 = some m) : 1 ≤ k := by
  rw [nb3] at h
  split at h
  · rename_i h1
    rcases Nat.eq_zero_or_pos k with h2 | h2
    · subst h2; rw [Nat.zero_mod] at h1; omega
    · exact h2
  · cases h

theorem gcd_half {x y : Nat} (hr : 0 < x % y) (hy : 0 < y) {m : Nat} (h : y < 2 ^ (m + 1)) : y % (x % y) < 2 ^ m := by
  have h1 := Nat.mod_lt x hy
  generalize x % y = r at *
  have h2 := Nat.mod_lt y hr
  rw [Nat.pow_succ] at h
  by_cases hc : 2 * r ≤ y
  · omega
  · have : y % r = y - r := by
      rw [Nat.mod_eq_sub_mod (by omega), Nat.mod_eq_of_lt (by omega)]
    omega
theorem s_commonDivisor (w0 : Wd) {a b : Nat} (ha : a < 2147483648) (hb : b < 2147483648) : CC 0 mX3_commonDivisor 0 0 [.int (nI a), .int (nI b)] w0 (Rt (nI (Nat.gcd a b)) w0) := by
  refine CC.of okX3_commonDivisor.1 (Nat.le_of_ble_eq_true rfl) (fun g M => ?_)
  have out : ∀ x t : Nat, x < 2147483648 → t ≤ 64 → Nat.gcd a b = x → g 0 0 7 [(2, .int (nI x)), (3, .int 0), (4, .int (nI t))] [] w0 := by
    intro x t hx ht he
    refine M.blk (is := [(.iload 4, 4, 0, 0), (.bipush 64, 0, 0, 64)]) (pc1 := 11) (lo1 := [(2, .int (nI x)), (3, .int 0), (4, .int (nI t))]) (st1 := [.int 64, .int (nI t)]) (w1 := w0) (by decide +kernel) rfl ?_
    refine M.icmp_ge (off := 23) (tgt := 34) (nx := 14) (by decide +kernel) (fun z11 => ?_) (fun z11 => ?_)
    · refine M.blk (is := [(.iload_n 2, 2, 0, 0)]) (pc1 := 35) (lo1 := [(2, .int (nI x)), (3, .int 0), (4, .int (nI t))]) (st1 := [.int (nI x)]) (w1 := w0) (by decide +kernel) rfl ?_
      exact M.reti (nx := 36) (by decide +kernel) ⟨by rw [he], rfl⟩
    · refine M.blk (is := [(.iload_n 3, 3, 0, 0)]) (pc1 := 15) (lo1 := [(2, .int (nI x)), (3, .int 0), (4, .int (nI t))]) (st1 := [.int 0]) (w1 := w0) (by decide +kernel) rfl ?_
      refine M.if_le (off := 19) (tgt := 34) (nx := 18) (by decide +kernel) (fun _ => ?_) (fun h => absurd h (by decide))
      refine M.blk (is := [(.iload_n 2, 2, 0, 0)]) (pc1 := 35) (lo1 := [(2, .int (nI x)), (3, .int 0), (4, .int (nI t))]) (st1 := [.int (nI x)]) (w1 := w0) (by decide +kernel) rfl ?_
      exact M.reti (nx := 36) (by decide +kernel) ⟨by rw [he], rfl⟩
  have one : ∀ x y t : Nat, x < 2147483648 → 0 < y → y < 2147483648 → t < 64 → g 0 0 7 [(2, .int (nI y)), (3, .int (nI (x % y))), (4, .int (nI (t + 1)))] [] w0 → g 0 0 7 [(2, .int (nI x)), (3, .int (nI y)), (4, .int (nI t))] [] w0 := by
    intro x y t hx hy hy2 ht kk
    refine M.blk (is := [(.iload 4, 4, 0, 0), (.bipush 64, 0, 0, 64)]) (pc1 := 11) (lo1 := [(2, .int (nI x)), (3, .int (nI y)), (4, .int (nI t))]) (st1 := [.int 64, .int (nI t)]) (w1 := w0) (by decide +kernel) rfl ?_
    refine M.icmp_ge (off := 23) (tgt := 34) (nx := 14) (by decide +kernel) (fun z11 => by exfalso; exact nI_ge (b := 64) ht (by decide) z11) (fun z11 => ?_)
    refine M.blk (is := [(.iload_n 3, 3, 0, 0)]) (pc1 := 15) (lo1 := [(2, .int (nI x)), (3, .int (nI y)), (4, .int (nI t))]) (st1 := [.int (nI y)]) (w1 := w0) (by decide +kernel) rfl ?_
    refine M.if_le (off := 19) (tgt := 34) (nx := 18) (by decide +kernel) (fun z15 => by exfalso; exact nI_nle hy hy2 z15) (fun z15 => ?_)
    refine M.blk (is := [(.iload_n 2, 2, 0, 0), (.iload_n 3, 3, 0, 0)]) (pc1 := 20) (lo1 := [(2, .int (nI x)), (3, .int (nI y)), (4, .int (nI t))]) (st1 := [.int (nI y), .int (nI x)]) (w1 := w0) (by decide +kernel) rfl ?_
    refine M.irm (nx := 21) (by decide +kernel) (nI_ne0 hy hy2) ?_
    refine M.blk (is := [(.istore 5, 5, 0, 0), (.iload_n 3, 3, 0, 0), (.istore_n 2, 2, 0, 0), (.iload 5, 5, 0, 0), (.istore_n 3, 3, 0, 0), (.iinc 4 1, 4, 0, 1), (.goto (-24), 7, 0, 0)]) (pc1 := 7) (lo1 := [(4, .int ((nI t) + 1)), (3, .int (jrem (nI x) (nI y))), (2, .int (nI y)), (5, .int (jrem (nI x) (nI y)))]) (st1 := []) (w1 := w0) (by decide +kernel) rfl ?_
    refine M.lsub [2, 1, 0] (lo1 := [(2, .int (nI y)), (3, .int (jrem (nI x) (nI y))), (4, .int ((nI t) + 1))]) rfl ?_
    rw [hf_rem hx hy (by omega), nI_1]
    exact kk
  have lp : ∀ m x y t : Nat, x < 2147483648 → y < 2147483648 → y < 2 ^ m → t + 2 * m ≤ 64 → Nat.gcd a b = Nat.gcd x y → g 0 0 7 [(2, .int (nI x)), (3, .int (nI y)), (4, .int (nI t))] [] w0 := by
    intro m
    induction m with
    | zero =>
      intro x y t hx hy hm ht he
      rw [show y = 0 by simp at hm; exact hm] at he ⊢
      exact out x t hx (by omega) (by rw [he, Nat.gcd_zero_right])
    | succ m ih =>
      intro x y t hx hy hm ht he
      rcases Nat.eq_zero_or_pos y with h0 | h0
      · subst h0
        exact out x t hx (by omega) (by rw [he, Nat.gcd_zero_right])
      · have hl := Nat.mod_lt x h0
        refine one x y t hx h0 hy (by omega) ?_
        have e1 : Nat.gcd x y = Nat.gcd y (x % y) := by rw [Nat.gcd_comm, Nat.gcd_rec, Nat.gcd_comm]
        rcases Nat.eq_zero_or_pos (x % y) with h1 | h1
        · rw [h1]
          exact out y (t + 1) hy (by omega) (by rw [he, e1, h1, Nat.gcd_zero_right])
        · have hl2 := Nat.mod_lt y h1
          refine one y (x % y) (t + 1) hy h1 (by omega) (by omega) ?_
          exact ih (x % y) (y % (x % y)) (t + 1 + 1) (by omega) (by omega) (gcd_half h1 h0 hm) (by omega) (by rw [he, e1, Nat.gcd_comm y, Nat.gcd_rec (x % y), Nat.gcd_comm])
  show g 0 0 0 [(0, .int (nI a)), (1, .int (nI b))] [] w0
  refine M.blk (is := [(.iload_n 0, 0, 0, 0), (.istore_n 2, 2, 0, 0), (.iload_n 1, 1, 0, 0), (.istore_n 3, 3, 0, 0), (.iconst 0, 0, 0, 0), (.istore 4, 4, 0, 0)]) (pc1 := 7) (lo1 := [(4, .int 0), (3, .int (nI b)), (2, .int (nI a)), (0, .int (nI a)), (1, .int (nI b))]) (st1 := []) (w1 := w0) (by decide +kernel) rfl ?_
  refine M.lsub [2, 1, 0] (lo1 := [(2, .int (nI a)), (3, .int (nI b)), (4, .int 0)]) rfl ?_
  exact lp 31 a b 0 ha hb hb (by decide) rfl
theorem s_layCell {r c i j : Nat} (h7 : PS 7 = nI r) (h8 : PS 8 = nI c) (h9 : PS 9 = nI (r * c)) (h25 : r * c ≤ 25) (hi : i < r) (hj : j < c) (hv : LayInv r c (i * c + j) PA) : CC 2 mX1_layCell 0 0 [.ref 105, .int (nI i), .int (nI j)] (WP c0 c1 c2 c3 c4 PA PS rest u) (fun r0 w1 => r0 = none ∧ ∃ PB, w1 = WP c0 c1 c2 c3 c4 PB PS rest u ∧ LayInv r c (i * c + j + 1) PB ∧ PB 5 = PA 5 ∧ PB 6 = PA 6) := by
  have hm : i * c + j < r * c := by
    have h1 : i * c + c ≤ r * c := by rw [← Nat.succ_mul]; exact Nat.mul_le_mul_right c hi
    omega
  have hc25 : c ≤ 25 ∧ r ≤ 25 := by
    have h1 : 1 * c ≤ r * c := Nat.mul_le_mul_right c (by omega)
    have h2 : r * 1 ≤ r * c := Nat.mul_le_mul_left r (by omega)
    omega
  refine CC.of okX1_layCell.1 (Nat.le_of_ble_eq_true rfl) (fun g M => ?_)
  show g 0 0 0 [(0, .ref 105), (1, .int (nI i)), (2, .int (nI j))] [] (WP c0 c1 c2 c3 c4 PA PS rest u)
  have hcell : nI i * PS 8 + nI j = nI (i * c + j) := by rw [h8, pk_mul, nI_add]
  have htyp : jrem (nI i + 2 * nI j) 5 = nI (tyN c (i * c + j)) := by
    rw [show (2 : Int32) = nI 2 from rfl, show (5 : Int32) = nI 5 from rfl, pk_mul, nI_add, hf_rem (by omega) (by decide) (by decide)]
    obtain ⟨h1, h2⟩ := div_row (i := i) hj
    unfold tyN
    rw [h1, h2]
  have hty5 : tyN c (i * c + j) < 5 := Nat.mod_lt _ (by decide)
  refine M.blk (is := [(.iload_n 1, 1, 0, 0), (.aload_n 0, 0, 0, 0), (.getfield 45, 1, 8, 0), (.imul, 0, 0, 0), (.iload_n 2, 2, 0, 0), (.iadd, 0, 0, 0), (.istore_n 3, 3, 0, 0), (.aload_n 0, 0, 0, 0), (.iload_n 3, 3, 0, 0)]) (pc1 := 11) (lo1 := [(3, .int (((nI i) * (PS 8)) + (nI j))), (0, .ref 105), (1, .int (nI i)), (2, .int (nI j))]) (st1 := [.int (((nI i) * (PS 8)) + (nI j)), .ref 105]) (w1 := (WP c0 c1 c2 c3 c4 PA PS rest u)) (by decide +kernel) rfl ?_
  refine M.callVi (as := [.int (((nI i) * (PS 8)) + (nI j))]) (st := []) (nx := 14) okX1_has lkX1_59 (s_has (((nI i) * (PS 8)) + (nI j))) (by decide +kernel) (by decide) rfl (Nat.le_of_ble_eq_true rfl) rfl (by decide) ?_
  refine M.if_ne (off := 4) (tgt := 18) (nx := 17) (by decide +kernel) (fun z14 => ?_) (fun z14 => by exfalso; rw [hcell, hasF_nI h9 h25 hm] at z14; exact absurd z14 (by decide))
  refine M.blk (is := [(.iload_n 1, 1, 0, 0), (.iconst 2, 0, 0, 2), (.iload_n 2, 2, 0, 0), (.imul, 0, 0, 0), (.iadd, 0, 0, 0), (.iconst 5, 0, 0, 5)]) (pc1 := 24) (lo1 := [(3, .int (((nI i) * (PS 8)) + (nI j))), (0, .ref 105), (1, .int (nI i)), (2, .int (nI j))]) (st1 := [.int 5, .int ((nI i) + (2 * (nI j)))]) (w1 := (WP c0 c1 c2 c3 c4 PA PS rest u)) (by decide +kernel) rfl ?_
  refine M.irm (nx := 25) (by decide +kernel) (by decide) ?_
  refine M.blk (is := [(.istore 4, 4, 0, 0), (.aload_n 0, 0, 0, 0), (.getfield 9, 1, 0, 0), (.iload_n 3, 3, 0, 0), (.iload 4, 4, 0, 0)]) (pc1 := 34) (lo1 := [(4, .int (jrem ((nI i) + (2 * (nI j))) 5)), (3, .int (((nI i) * (PS 8)) + (nI j))), (0, .ref 105), (1, .int (nI i)), (2, .int (nI j))]) (st1 := [.int (jrem ((nI i) + (2 * (nI j))) 5), .int (((nI i) * (PS 8)) + (nI j)), .ref 106]) (w1 := (WP c0 c1 c2 c3 c4 PA PS rest u)) (by decide +kernel) rfl ?_
  refine M.ast (n := 25) (f := PA 0) (j := i * c + j) (nx := 35) (by decide +kernel) rfl hcell (by omega) (by decide) ?_
  show g 0 0 35 [(4, .int (jrem ((nI i) + (2 * (nI j))) 5)), (3, .int (((nI i) * (PS 8)) + (nI j))), (0, .ref 105), (1, .int (nI i)), (2, .int (nI j))] [] (WP c0 c1 c2 c3 c4 (va_up PA 0 (upd (PA 0) (i * c + j) (jrem ((nI i) + (2 * (nI j))) 5))) PS rest u)
  refine M.blk (is := [(.aload_n 0, 0, 0, 0), (.getfield 15, 1, 1, 0), (.iload 4, 4, 0, 0), (.dup2, 0, 0, 0)]) (pc1 := 42) (lo1 := [(4, .int (jrem ((nI i) + (2 * (nI j))) 5)), (3, .int (((nI i) * (PS 8)) + (nI j))), (0, .ref 105), (1, .int (nI i)), (2, .int (nI j))]) (st1 := [.int (jrem ((nI i) + (2 * (nI j))) 5), .ref 107, .int (jrem ((nI i) + (2 * (nI j))) 5), .ref 107]) (w1 := (WP c0 c1 c2 c3 c4 (va_up PA 0 (upd (PA 0) (i * c + j) (jrem ((nI i) + (2 * (nI j))) 5))) PS rest u)) (by decide +kernel) rfl ?_
  refine M.ald (n := 5) (f := PA 1) (j := tyN c (i * c + j)) (nx := 43) (by decide +kernel) rfl htyp hty5 (by decide) ?_
  refine M.blk (is := [(.iconst 1, 0, 0, 1), (.iload_n 3, 3, 0, 0), (.ishl, 0, 0, 0), (.ior, 0, 0, 0)]) (pc1 := 47) (lo1 := [(4, .int (jrem ((nI i) + (2 * (nI j))) 5)), (3, .int (((nI i) * (PS 8)) + (nI j))), (0, .ref 105), (1, .int (nI i)), (2, .int (nI j))]) (st1 := [.int (((PA 1) (tyN c (i * c + j))) ||| ((1 : Int32) <<< ((((nI i) * (PS 8)) + (nI j)) &&& 31))), .int (jrem ((nI i) + (2 * (nI j))) 5), .ref 107]) (w1 := (WP c0 c1 c2 c3 c4 (va_up PA 0 (upd (PA 0) (i * c + j) (jrem ((nI i) + (2 * (nI j))) 5))) PS rest u)) (by decide +kernel) rfl ?_
  refine M.ast (n := 5) (f := PA 1) (j := tyN c (i * c + j)) (nx := 48) (by decide +kernel) rfl htyp hty5 (by decide) ?_
  show g 0 0 48 [(4, .int (jrem ((nI i) + (2 * (nI j))) 5)), (3, .int (((nI i) * (PS 8)) + (nI j))), (0, .ref 105), (1, .int (nI i)), (2, .int (nI j))] [] (WP c0 c1 c2 c3 c4 (va_up (va_up PA 0 (upd (PA 0) (i * c + j) (jrem ((nI i) + (2 * (nI j))) 5))) 1 (upd (PA 1) (tyN c (i * c + j)) (((PA 1) (tyN c (i * c + j))) ||| ((1 : Int32) <<< ((((nI i) * (PS 8)) + (nI j)) &&& 31))))) PS rest u)
  refine M.blk (is := [(.aload_n 0, 0, 0, 0), (.getfield 18, 1, 2, 0), (.iload_n 3, 3, 0, 0), (.iload_n 1, 1, 0, 0)]) (pc1 := 54) (lo1 := [(4, .int (jrem ((nI i) + (2 * (nI j))) 5)), (3, .int (((nI i) * (PS 8)) + (nI j))), (0, .ref 105), (1, .int (nI i)), (2, .int (nI j))]) (st1 := [.int (nI i), .int (((nI i) * (PS 8)) + (nI j)), .ref 108]) (w1 := (WP c0 c1 c2 c3 c4 (va_up (va_up PA 0 (upd (PA 0) (i * c + j) (jrem ((nI i) + (2 * (nI j))) 5))) 1 (upd (PA 1) (tyN c (i * c + j)) (((PA 1) (tyN c (i * c + j))) ||| ((1 : Int32) <<< ((((nI i) * (PS 8)) + (nI j)) &&& 31))))) PS rest u)) (by decide +kernel) rfl ?_
  refine M.ast (n := 25) (f := PA 2) (j := i * c + j) (nx := 55) (by decide +kernel) rfl hcell (by omega) (by decide) ?_
  show g 0 0 55 [(4, .int (jrem ((nI i) + (2 * (nI j))) 5)), (3, .int (((nI i) * (PS 8)) + (nI j))), (0, .ref 105), (1, .int (nI i)), (2, .int (nI j))] [] (WP c0 c1 c2 c3 c4 (va_up (va_up (va_up PA 0 (upd (PA 0) (i * c + j) (jrem ((nI i) + (2 * (nI j))) 5))) 1 (upd (PA 1) (tyN c (i * c + j)) (((PA 1) (tyN c (i * c + j))) ||| ((1 : Int32) <<< ((((nI i) * (PS 8)) + (nI j)) &&& 31))))) 2 (upd (PA 2) (i * c + j) (nI i))) PS rest u)
  refine M.blk (is := [(.aload_n 0, 0, 0, 0), (.getfield 24, 1, 4, 0), (.iload_n 3, 3, 0, 0), (.iconst 0, 0, 0, 0)]) (pc1 := 61) (lo1 := [(4, .int (jrem ((nI i) + (2 * (nI j))) 5)), (3, .int (((nI i) * (PS 8)) + (nI j))), (0, .ref 105), (1, .int (nI i)), (2, .int (nI j))]) (st1 := [.int 0, .int (((nI i) * (PS 8)) + (nI j)), .ref 110]) (w1 := (WP c0 c1 c2 c3 c4 (va_up (va_up (va_up PA 0 (upd (PA 0) (i * c + j) (jrem ((nI i) + (2 * (nI j))) 5))) 1 (upd (PA 1) (tyN c (i * c + j)) (((PA 1) (tyN c (i * c + j))) ||| ((1 : Int32) <<< ((((nI i) * (PS 8)) + (nI j)) &&& 31))))) 2 (upd (PA 2) (i * c + j) (nI i))) PS rest u)) (by decide +kernel) rfl ?_
  refine M.ast (n := 25) (f := PA 4) (j := i * c + j) (nx := 62) (by decide +kernel) rfl hcell (by omega) (by decide) ?_
  show g 0 0 62 [(4, .int (jrem ((nI i) + (2 * (nI j))) 5)), (3, .int (((nI i) * (PS 8)) + (nI j))), (0, .ref 105), (1, .int (nI i)), (2, .int (nI j))] [] (WP c0 c1 c2 c3 c4 (va_up (va_up (va_up (va_up PA 0 (upd (PA 0) (i * c + j) (jrem ((nI i) + (2 * (nI j))) 5))) 1 (upd (PA 1) (tyN c (i * c + j)) (((PA 1) (tyN c (i * c + j))) ||| ((1 : Int32) <<< ((((nI i) * (PS 8)) + (nI j)) &&& 31))))) 2 (upd (PA 2) (i * c + j) (nI i))) 4 (upd (PA 4) (i * c + j) 0)) PS rest u)
  refine M.blk (is := [(.aload_n 0, 0, 0, 0), (.iload_n 3, 3, 0, 0), (.iconst 0, 0, 0, 0), (.iload_n 1, 1, 0, 0)]) (pc1 := 66) (lo1 := [(4, .int (jrem ((nI i) + (2 * (nI j))) 5)), (3, .int (((nI i) * (PS 8)) + (nI j))), (0, .ref 105), (1, .int (nI i)), (2, .int (nI j))]) (st1 := [.int (nI i), .int 0, .int (((nI i) * (PS 8)) + (nI j)), .ref 105]) (w1 := (WP c0 c1 c2 c3 c4 (va_up (va_up (va_up (va_up PA 0 (upd (PA 0) (i * c + j) (jrem ((nI i) + (2 * (nI j))) 5))) 1 (upd (PA 1) (tyN c (i * c + j)) (((PA 1) (tyN c (i * c + j))) ||| ((1 : Int32) <<< ((((nI i) * (PS 8)) + (nI j)) &&& 31))))) 2 (upd (PA 2) (i * c + j) (nI i))) 4 (upd (PA 4) (i * c + j) 0)) PS rest u)) (by decide +kernel) rfl ?_
  have j66 : ∀ b66 : Int32, b66 = (if nI i ≤ 0 then (0 : Int32) else 1) → g 0 0 74 [(4, .int (jrem ((nI i) + (2 * (nI j))) 5)), (3, .int (((nI i) * (PS 8)) + (nI j))), (0, .ref 105), (1, .int (nI i)), (2, .int (nI j))] [.int b66, .int 0, .int (((nI i) * (PS 8)) + (nI j)), .ref 105] (WP c0 c1 c2 c3 c4 (va_up (va_up (va_up (va_up PA 0 (upd (PA 0) (i * c + j) (jrem ((nI i) + (2 * (nI j))) 5))) 1 (upd (PA 1) (tyN c (i * c + j)) (((PA 1) (tyN c (i * c + j))) ||| ((1 : Int32) <<< ((((nI i) * (PS 8)) + (nI j)) &&& 31))))) 2 (upd (PA 2) (i * c + j) (nI i))) 4 (upd (PA 4) (i * c + j) 0)) PS rest u) := by
    intro b66 hb66
    refine M.blk (is := [(.iload_n 3, 3, 0, 0), (.aload_n 0, 0, 0, 0), (.getfield 45, 1, 8, 0), (.isub, 0, 0, 0)]) (pc1 := 80) (lo1 := [(4, .int (jrem ((nI i) + (2 * (nI j))) 5)), (3, .int (((nI i) * (PS 8)) + (nI j))), (0, .ref 105), (1, .int (nI i)), (2, .int (nI j))]) (st1 := [.int ((((nI i) * (PS 8)) + (nI j)) - (PS 8)), .int b66, .int 0, .int (((nI i) * (PS 8)) + (nI j)), .ref 105]) (w1 := (WP c0 c1 c2 c3 c4 (va_up (va_up (va_up (va_up PA 0 (upd (PA 0) (i * c + j) (jrem ((nI i) + (2 * (nI j))) 5))) 1 (upd (PA 1) (tyN c (i * c + j)) (((PA 1) (tyN c (i * c + j))) ||| ((1 : Int32) <<< ((((nI i) * (PS 8)) + (nI j)) &&& 31))))) 2 (upd (PA 2) (i * c + j) (nI i))) 4 (upd (PA 4) (i * c + j) 0)) PS rest u)) (by decide +kernel) rfl ?_
    refine M.callVv (as := [.int (((nI i) * (PS 8)) + (nI j)), .int 0, .int b66, .int ((((nI i) * (PS 8)) + (nI j)) - (PS 8))]) (st := []) (nx := 83) okX1_layBeside lkX1_62 (s_layBeside (m := i * c + j) (dd := 0) (n := r * c) h9 h25 hcell rfl hm (by decide) b66 ((((nI i) * (PS 8)) + (nI j)) - (PS 8))) (by decide +kernel) (by decide) rfl (Nat.le_of_ble_eq_true rfl) rfl (by decide) ?_
    show g 0 0 83 [(4, .int (jrem ((nI i) + (2 * (nI j))) 5)), (3, .int (((nI i) * (PS 8)) + (nI j))), (0, .ref 105), (1, .int (nI i)), (2, .int (nI j))] [] (WP c0 c1 c2 c3 c4 (va_up (va_up (va_up (va_up (va_up PA 0 (upd (PA 0) (i * c + j) (jrem ((nI i) + (2 * (nI j))) 5))) 1 (upd (PA 1) (tyN c (i * c + j)) (((PA 1) (tyN c (i * c + j))) ||| ((1 : Int32) <<< ((((nI i) * (PS 8)) + (nI j)) &&& 31))))) 2 (upd (PA 2) (i * c + j) (nI i))) 3 (upd (PA 3) (4 * (i * c + j) + 0) (if b66 = 0 then -1 else (((nI i) * (PS 8)) + (nI j)) - (PS 8)))) 4 (upd (upd (PA 4) (i * c + j) 0) (i * c + j) ((upd (PA 4) (i * c + j) 0) (i * c + j) ||| if b66 = 0 then 0 else nI (2 ^ 0)))) PS rest u)
    refine M.blk (is := [(.aload_n 0, 0, 0, 0), (.iload_n 3, 3, 0, 0), (.iconst 1, 0, 0, 1), (.iload_n 2, 2, 0, 0), (.aload_n 0, 0, 0, 0), (.getfield 45, 1, 8, 0), (.iconst 1, 0, 0, 1), (.isub, 0, 0, 0)]) (pc1 := 93) (lo1 := [(4, .int (jrem ((nI i) + (2 * (nI j))) 5)), (3, .int (((nI i) * (PS 8)) + (nI j))), (0, .ref 105), (1, .int (nI i)), (2, .int (nI j))]) (st1 := [.int ((PS 8) - 1), .int (nI j), .int 1, .int (((nI i) * (PS 8)) + (nI j)), .ref 105]) (w1 := (WP c0 c1 c2 c3 c4 (va_up (va_up (va_up (va_up (va_up PA 0 (upd (PA 0) (i * c + j) (jrem ((nI i) + (2 * (nI j))) 5))) 1 (upd (PA 1) (tyN c (i * c + j)) (((PA 1) (tyN c (i * c + j))) ||| ((1 : Int32) <<< ((((nI i) * (PS 8)) + (nI j)) &&& 31))))) 2 (upd (PA 2) (i * c + j) (nI i))) 3 (upd (PA 3) (4 * (i * c + j) + 0) (if b66 = 0 then -1 else (((nI i) * (PS 8)) + (nI j)) - (PS 8)))) 4 (upd (upd (PA 4) (i * c + j) 0) (i * c + j) ((upd (PA 4) (i * c + j) 0) (i * c + j) ||| if b66 = 0 then 0 else nI (2 ^ 0)))) PS rest u)) (by decide +kernel) rfl ?_
    have j93 : ∀ b93 : Int32, b93 = (if (PS 8) - 1 ≤ nI j then (0 : Int32) else 1) → g 0 0 101 [(4, .int (jrem ((nI i) + (2 * (nI j))) 5)), (3, .int (((nI i) * (PS 8)) + (nI j))), (0, .ref 105), (1, .int (nI i)), (2, .int (nI j))] [.int b93, .int 1, .int (((nI i) * (PS 8)) + (nI j)), .ref 105] (WP c0 c1 c2 c3 c4 (va_up (va_up (va_up (va_up (va_up PA 0 (upd (PA 0) (i * c + j) (jrem ((nI i) + (2 * (nI j))) 5))) 1 (upd (PA 1) (tyN c (i * c + j)) (((PA 1) (tyN c (i * c + j))) ||| ((1 : Int32) <<< ((((nI i) * (PS 8)) + (nI j)) &&& 31))))) 2 (upd (PA 2) (i * c + j) (nI i))) 3 (upd (PA 3) (4 * (i * c + j) + 0) (if b66 = 0 then -1 else (((nI i) * (PS 8)) + (nI j)) - (PS 8)))) 4 (upd (upd (PA 4) (i * c + j) 0) (i * c + j) ((upd (PA 4) (i * c + j) 0) (i * c + j) ||| if b66 = 0 then 0 else nI (2 ^ 0)))) PS rest u) := by
      intro b93 hb93
      refine M.blk (is := [(.iload_n 3, 3, 0, 0), (.iconst 1, 0, 0, 1), (.iadd, 0, 0, 0)]) (pc1 := 104) (lo1 := [(4, .int (jrem ((nI i) + (2 * (nI j))) 5)), (3, .int (((nI i) * (PS 8)) + (nI j))), (0, .ref 105), (1, .int (nI i)), (2, .int (nI j))]) (st1 := [.int ((((nI i) * (PS 8)) + (nI j)) + 1), .int b93, .int 1, .int (((nI i) * (PS 8)) + (nI j)), .ref 105]) (w1 := (WP c0 c1 c2 c3 c4 (va_up (va_up (va_up (va_up (va_up PA 0 (upd (PA 0) (i * c + j) (jrem ((nI i) + (2 * (nI j))) 5))) 1 (upd (PA 1) (tyN c (i * c + j)) (((PA 1) (tyN c (i * c + j))) ||| ((1 : Int32) <<< ((((nI i) * (PS 8)) + (nI j)) &&& 31))))) 2 (upd (PA 2) (i * c + j) (nI i))) 3 (upd (PA 3) (4 * (i * c + j) + 0) (if b66 = 0 then -1 else (((nI i) * (PS 8)) + (nI j)) - (PS 8)))) 4 (upd (upd (PA 4) (i * c + j) 0) (i * c + j) ((upd (PA 4) (i * c + j) 0) (i * c + j) ||| if b66 = 0 then 0 else nI (2 ^ 0)))) PS rest u)) (by decide +kernel) rfl ?_
      refine M.callVv (as := [.int (((nI i) * (PS 8)) + (nI j)), .int 1, .int b93, .int ((((nI i) * (PS 8)) + (nI j)) + 1)]) (st := []) (nx := 107) okX1_layBeside lkX1_62 (s_layBeside (m := i * c + j) (dd := 1) (n := r * c) h9 h25 hcell rfl hm (by decide) b93 ((((nI i) * (PS 8)) + (nI j)) + 1)) (by decide +kernel) (by decide) rfl (Nat.le_of_ble_eq_true rfl) rfl (by decide) ?_
      show g 0 0 107 [(4, .int (jrem ((nI i) + (2 * (nI j))) 5)), (3, .int (((nI i) * (PS 8)) + (nI j))), (0, .ref 105), (1, .int (nI i)), (2, .int (nI j))] [] (WP c0 c1 c2 c3 c4 (va_up (va_up (va_up (va_up (va_up PA 0 (upd (PA 0) (i * c + j) (jrem ((nI i) + (2 * (nI j))) 5))) 1 (upd (PA 1) (tyN c (i * c + j)) (((PA 1) (tyN c (i * c + j))) ||| ((1 : Int32) <<< ((((nI i) * (PS 8)) + (nI j)) &&& 31))))) 2 (upd (PA 2) (i * c + j) (nI i))) 3 (upd (upd (PA 3) (4 * (i * c + j) + 0) (if b66 = 0 then -1 else (((nI i) * (PS 8)) + (nI j)) - (PS 8))) (4 * (i * c + j) + 1) (if b93 = 0 then -1 else (((nI i) * (PS 8)) + (nI j)) + 1))) 4 (upd (upd (upd (PA 4) (i * c + j) 0) (i * c + j) ((upd (PA 4) (i * c + j) 0) (i * c + j) ||| if b66 = 0 then 0 else nI (2 ^ 0))) (i * c + j) ((upd (upd (PA 4) (i * c + j) 0) (i * c + j) ((upd (PA 4) (i * c + j) 0) (i * c + j) ||| if b66 = 0 then 0 else nI (2 ^ 0))) (i * c + j) ||| if b93 = 0 then 0 else nI (2 ^ 1)))) PS rest u)
      refine M.blk (is := [(.aload_n 0, 0, 0, 0), (.iload_n 3, 3, 0, 0), (.iconst 2, 0, 0, 2), (.iload_n 1, 1, 0, 0), (.aload_n 0, 0, 0, 0), (.getfield 41, 1, 7, 0), (.iconst 1, 0, 0, 1), (.isub, 0, 0, 0)]) (pc1 := 117) (lo1 := [(4, .int (jrem ((nI i) + (2 * (nI j))) 5)), (3, .int (((nI i) * (PS 8)) + (nI j))), (0, .ref 105), (1, .int (nI i)), (2, .int (nI j))]) (st1 := [.int ((PS 7) - 1), .int (nI i), .int 2, .int (((nI i) * (PS 8)) + (nI j)), .ref 105]) (w1 := (WP c0 c1 c2 c3 c4 (va_up (va_up (va_up (va_up (va_up PA 0 (upd (PA 0) (i * c + j) (jrem ((nI i) + (2 * (nI j))) 5))) 1 (upd (PA 1) (tyN c (i * c + j)) (((PA 1) (tyN c (i * c + j))) ||| ((1 : Int32) <<< ((((nI i) * (PS 8)) + (nI j)) &&& 31))))) 2 (upd (PA 2) (i * c + j) (nI i))) 3 (upd (upd (PA 3) (4 * (i * c + j) + 0) (if b66 = 0 then -1 else (((nI i) * (PS 8)) + (nI j)) - (PS 8))) (4 * (i * c + j) + 1) (if b93 = 0 then -1 else (((nI i) * (PS 8)) + (nI j)) + 1))) 4 (upd (upd (upd (PA 4) (i * c + j) 0) (i * c + j) ((upd (PA 4) (i * c + j) 0) (i * c + j) ||| if b66 = 0 then 0 else nI (2 ^ 0))) (i * c + j) ((upd (upd (PA 4) (i * c + j) 0) (i * c + j) ((upd (PA 4) (i * c + j) 0) (i * c + j) ||| if b66 = 0 then 0 else nI (2 ^ 0))) (i * c + j) ||| if b93 = 0 then 0 else nI (2 ^ 1)))) PS rest u)) (by decide +kernel) rfl ?_
      have j117 : ∀ b117 : Int32, b117 = (if (PS 7) - 1 ≤ nI i then (0 : Int32) else 1) → g 0 0 125 [(4, .int (jrem ((nI i) + (2 * (nI j))) 5)), (3, .int (((nI i) * (PS 8)) + (nI j))), (0, .ref 105), (1, .int (nI i)), (2, .int (nI j))] [.int b117, .int 2, .int (((nI i) * (PS 8)) + (nI j)), .ref 105] (WP c0 c1 c2 c3 c4 (va_up (va_up (va_up (va_up (va_up PA 0 (upd (PA 0) (i * c + j) (jrem ((nI i) + (2 * (nI j))) 5))) 1 (upd (PA 1) (tyN c (i * c + j)) (((PA 1) (tyN c (i * c + j))) ||| ((1 : Int32) <<< ((((nI i) * (PS 8)) + (nI j)) &&& 31))))) 2 (upd (PA 2) (i * c + j) (nI i))) 3 (upd (upd (PA 3) (4 * (i * c + j) + 0) (if b66 = 0 then -1 else (((nI i) * (PS 8)) + (nI j)) - (PS 8))) (4 * (i * c + j) + 1) (if b93 = 0 then -1 else (((nI i) * (PS 8)) + (nI j)) + 1))) 4 (upd (upd (upd (PA 4) (i * c + j) 0) (i * c + j) ((upd (PA 4) (i * c + j) 0) (i * c + j) ||| if b66 = 0 then 0 else nI (2 ^ 0))) (i * c + j) ((upd (upd (PA 4) (i * c + j) 0) (i * c + j) ((upd (PA 4) (i * c + j) 0) (i * c + j) ||| if b66 = 0 then 0 else nI (2 ^ 0))) (i * c + j) ||| if b93 = 0 then 0 else nI (2 ^ 1)))) PS rest u) := by
        intro b117 hb117
        refine M.blk (is := [(.iload_n 3, 3, 0, 0), (.aload_n 0, 0, 0, 0), (.getfield 45, 1, 8, 0), (.iadd, 0, 0, 0)]) (pc1 := 131) (lo1 := [(4, .int (jrem ((nI i) + (2 * (nI j))) 5)), (3, .int (((nI i) * (PS 8)) + (nI j))), (0, .ref 105), (1, .int (nI i)), (2, .int (nI j))]) (st1 := [.int ((((nI i) * (PS 8)) + (nI j)) + (PS 8)), .int b117, .int 2, .int (((nI i) * (PS 8)) + (nI j)), .ref 105]) (w1 := (WP c0 c1 c2 c3 c4 (va_up (va_up (va_up (va_up (va_up PA 0 (upd (PA 0) (i * c + j) (jrem ((nI i) + (2 * (nI j))) 5))) 1 (upd (PA 1) (tyN c (i * c + j)) (((PA 1) (tyN c (i * c + j))) ||| ((1 : Int32) <<< ((((nI i) * (PS 8)) + (nI j)) &&& 31))))) 2 (upd (PA 2) (i * c + j) (nI i))) 3 (upd (upd (PA 3) (4 * (i * c + j) + 0) (if b66 = 0 then -1 else (((nI i) * (PS 8)) + (nI j)) - (PS 8))) (4 * (i * c + j) + 1) (if b93 = 0 then -1 else (((nI i) * (PS 8)) + (nI j)) + 1))) 4 (upd (upd (upd (PA 4) (i * c + j) 0) (i * c + j) ((upd (PA 4) (i * c + j) 0) (i * c + j) ||| if b66 = 0 then 0 else nI (2 ^ 0))) (i * c + j) ((upd (upd (PA 4) (i * c + j) 0) (i * c + j) ((upd (PA 4) (i * c + j) 0) (i * c + j) ||| if b66 = 0 then 0 else nI (2 ^ 0))) (i * c + j) ||| if b93 = 0 then 0 else nI (2 ^ 1)))) PS rest u)) (by decide +kernel) rfl ?_
        refine M.callVv (as := [.int (((nI i) * (PS 8)) + (nI j)), .int 2, .int b117, .int ((((nI i) * (PS 8)) + (nI j)) + (PS 8))]) (st := []) (nx := 134) okX1_layBeside lkX1_62 (s_layBeside (m := i * c + j) (dd := 2) (n := r * c) h9 h25 hcell rfl hm (by decide) b117 ((((nI i) * (PS 8)) + (nI j)) + (PS 8))) (by decide +kernel) (by decide) rfl (Nat.le_of_ble_eq_true rfl) rfl (by decide) ?_
        show g 0 0 134 [(4, .int (jrem ((nI i) + (2 * (nI j))) 5)), (3, .int (((nI i) * (PS 8)) + (nI j))), (0, .ref 105), (1, .int (nI i)), (2, .int (nI j))] [] (WP c0 c1 c2 c3 c4 (va_up (va_up (va_up (va_up (va_up PA 0 (upd (PA 0) (i * c + j) (jrem ((nI i) + (2 * (nI j))) 5))) 1 (upd (PA 1) (tyN c (i * c + j)) (((PA 1) (tyN c (i * c + j))) ||| ((1 : Int32) <<< ((((nI i) * (PS 8)) + (nI j)) &&& 31))))) 2 (upd (PA 2) (i * c + j) (nI i))) 3 (upd (upd (upd (PA 3) (4 * (i * c + j) + 0) (if b66 = 0 then -1 else (((nI i) * (PS 8)) + (nI j)) - (PS 8))) (4 * (i * c + j) + 1) (if b93 = 0 then -1 else (((nI i) * (PS 8)) + (nI j)) + 1)) (4 * (i * c + j) + 2) (if b117 = 0 then -1 else (((nI i) * (PS 8)) + (nI j)) + (PS 8)))) 4 (upd (upd (upd (upd (PA 4) (i * c + j) 0) (i * c + j) ((upd (PA 4) (i * c + j) 0) (i * c + j) ||| if b66 = 0 then 0 else nI (2 ^ 0))) (i * c + j) ((upd (upd (PA 4) (i * c + j) 0) (i * c + j) ((upd (PA 4) (i * c + j) 0) (i * c + j) ||| if b66 = 0 then 0 else nI (2 ^ 0))) (i * c + j) ||| if b93 = 0 then 0 else nI (2 ^ 1))) (i * c + j) ((upd (upd (upd (PA 4) (i * c + j) 0) (i * c + j) ((upd (PA 4) (i * c + j) 0) (i * c + j) ||| if b66 = 0 then 0 else nI (2 ^ 0))) (i * c + j) ((upd (upd (PA 4) (i * c + j) 0) (i * c + j) ((upd (PA 4) (i * c + j) 0) (i * c + j) ||| if b66 = 0 then 0 else nI (2 ^ 0))) (i * c + j) ||| if b93 = 0 then 0 else nI (2 ^ 1))) (i * c + j) ||| if b117 = 0 then 0 else nI (2 ^ 2)))) PS rest u)
        refine M.blk (is := [(.aload_n 0, 0, 0, 0), (.iload_n 3, 3, 0, 0), (.iconst 3, 0, 0, 3), (.iload_n 2, 2, 0, 0)]) (pc1 := 138) (lo1 := [(4, .int (jrem ((nI i) + (2 * (nI j))) 5)), (3, .int (((nI i) * (PS 8)) + (nI j))), (0, .ref 105), (1, .int (nI i)), (2, .int (nI j))]) (st1 := [.int (nI j), .int 3, .int (((nI i) * (PS 8)) + (nI j)), .ref 105]) (w1 := (WP c0 c1 c2 c3 c4 (va_up (va_up (va_up (va_up (va_up PA 0 (upd (PA 0) (i * c + j) (jrem ((nI i) + (2 * (nI j))) 5))) 1 (upd (PA 1) (tyN c (i * c + j)) (((PA 1) (tyN c (i * c + j))) ||| ((1 : Int32) <<< ((((nI i) * (PS 8)) + (nI j)) &&& 31))))) 2 (upd (PA 2) (i * c + j) (nI i))) 3 (upd (upd (upd (PA 3) (4 * (i * c + j) + 0) (if b66 = 0 then -1 else (((nI i) * (PS 8)) + (nI j)) - (PS 8))) (4 * (i * c + j) + 1) (if b93 = 0 then -1 else (((nI i) * (PS 8)) + (nI j)) + 1)) (4 * (i * c + j) + 2) (if b117 = 0 then -1 else (((nI i) * (PS 8)) + (nI j)) + (PS 8)))) 4 (upd (upd (upd (upd (PA 4) (i * c + j) 0) (i * c + j) ((upd (PA 4) (i * c + j) 0) (i * c + j) ||| if b66 = 0 then 0 else nI (2 ^ 0))) (i * c + j) ((upd (upd (PA 4) (i * c + j) 0) (i * c + j) ((upd (PA 4) (i * c + j) 0) (i * c + j) ||| if b66 = 0 then 0 else nI (2 ^ 0))) (i * c + j) ||| if b93 = 0 then 0 else nI (2 ^ 1))) (i * c + j) ((upd (upd (upd (PA 4) (i * c + j) 0) (i * c + j) ((upd (PA 4) (i * c + j) 0) (i * c + j) ||| if b66 = 0 then 0 else nI (2 ^ 0))) (i * c + j) ((upd (upd (PA 4) (i * c + j) 0) (i * c + j) ((upd (PA 4) (i * c + j) 0) (i * c + j) ||| if b66 = 0 then 0 else nI (2 ^ 0))) (i * c + j) ||| if b93 = 0 then 0 else nI (2 ^ 1))) (i * c + j) ||| if b117 = 0 then 0 else nI (2 ^ 2)))) PS rest u)) (by decide +kernel) rfl ?_
        have j138 : ∀ b138 : Int32, b138 = (if nI j ≤ 0 then (0 : Int32) else 1) → g 0 0 146 [(4, .int (jrem ((nI i) + (2 * (nI j))) 5)), (3, .int (((nI i) * (PS 8)) + (nI j))), (0, .ref 105), (1, .int (nI i)), (2, .int (nI j))] [.int b138, .int 3, .int (((nI i) * (PS 8)) + (nI j)), .ref 105] (WP c0 c1 c2 c3 c4 (va_up (va_up (va_up (va_up (va_up PA 0 (upd (PA 0) (i * c + j) (jrem ((nI i) + (2 * (nI j))) 5))) 1 (upd (PA 1) (tyN c (i * c + j)) (((PA 1) (tyN c (i * c + j))) ||| ((1 : Int32) <<< ((((nI i) * (PS 8)) + (nI j)) &&& 31))))) 2 (upd (PA 2) (i * c + j) (nI i))) 3 (upd (upd (upd (PA 3) (4 * (i * c + j) + 0) (if b66 = 0 then -1 else (((nI i) * (PS 8)) + (nI j)) - (PS 8))) (4 * (i * c + j) + 1) (if b93 = 0 then -1 else (((nI i) * (PS 8)) + (nI j)) + 1)) (4 * (i * c + j) + 2) (if b117 = 0 then -1 else (((nI i) * (PS 8)) + (nI j)) + (PS 8)))) 4 (upd (upd (upd (upd (PA 4) (i * c + j) 0) (i * c + j) ((upd (PA 4) (i * c + j) 0) (i * c + j) ||| if b66 = 0 then 0 else nI (2 ^ 0))) (i * c + j) ((upd (upd (PA 4) (i * c + j) 0) (i * c + j) ((upd (PA 4) (i * c + j) 0) (i * c + j) ||| if b66 = 0 then 0 else nI (2 ^ 0))) (i * c + j) ||| if b93 = 0 then 0 else nI (2 ^ 1))) (i * c + j) ((upd (upd (upd (PA 4) (i * c + j) 0) (i * c + j) ((upd (PA 4) (i * c + j) 0) (i * c + j) ||| if b66 = 0 then 0 else nI (2 ^ 0))) (i * c + j) ((upd (upd (PA 4) (i * c + j) 0) (i * c + j) ((upd (PA 4) (i * c + j) 0) (i * c + j) ||| if b66 = 0 then 0 else nI (2 ^ 0))) (i * c + j) ||| if b93 = 0 then 0 else nI (2 ^ 1))) (i * c + j) ||| if b117 = 0 then 0 else nI (2 ^ 2)))) PS rest u) := by
          intro b138 hb138
          refine M.blk (is := [(.iload_n 3, 3, 0, 0), (.iconst 1, 0, 0, 1), (.isub, 0, 0, 0)]) (pc1 := 149) (lo1 := [(4, .int (jrem ((nI i) + (2 * (nI j))) 5)), (3, .int (((nI i) * (PS 8)) + (nI j))), (0, .ref 105), (1, .int (nI i)), (2, .int (nI j))]) (st1 := [.int ((((nI i) * (PS 8)) + (nI j)) - 1), .int b138, .int 3, .int (((nI i) * (PS 8)) + (nI j)), .ref 105]) (w1 := (WP c0 c1 c2 c3 c4 (va_up (va_up (va_up (va_up (va_up PA 0 (upd (PA 0) (i * c + j) (jrem ((nI i) + (2 * (nI j))) 5))) 1 (upd (PA 1) (tyN c (i * c + j)) (((PA 1) (tyN c (i * c + j))) ||| ((1 : Int32) <<< ((((nI i) * (PS 8)) + (nI j)) &&& 31))))) 2 (upd (PA 2) (i * c + j) (nI i))) 3 (upd (upd (upd (PA 3) (4 * (i * c + j) + 0) (if b66 = 0 then -1 else (((nI i) * (PS 8)) + (nI j)) - (PS 8))) (4 * (i * c + j) + 1) (if b93 = 0 then -1 else (((nI i) * (PS 8)) + (nI j)) + 1)) (4 * (i * c + j) + 2) (if b117 = 0 then -1 else (((nI i) * (PS 8)) + (nI j)) + (PS 8)))) 4 (upd (upd (upd (upd (PA 4) (i * c + j) 0) (i * c + j) ((upd (PA 4) (i * c + j) 0) (i * c + j) ||| if b66 = 0 then 0 else nI (2 ^ 0))) (i * c + j) ((upd (upd (PA 4) (i * c + j) 0) (i * c + j) ((upd (PA 4) (i * c + j) 0) (i * c + j) ||| if b66 = 0 then 0 else nI (2 ^ 0))) (i * c + j) ||| if b93 = 0 then 0 else nI (2 ^ 1))) (i * c + j) ((upd (upd (upd (PA 4) (i * c + j) 0) (i * c + j) ((upd (PA 4) (i * c + j) 0) (i * c + j) ||| if b66 = 0 then 0 else nI (2 ^ 0))) (i * c + j) ((upd (upd (PA 4) (i * c + j) 0) (i * c + j) ((upd (PA 4) (i * c + j) 0) (i * c + j) ||| if b66 = 0 then 0 else nI (2 ^ 0))) (i * c + j) ||| if b93 = 0 then 0 else nI (2 ^ 1))) (i * c + j) ||| if b117 = 0 then 0 else nI (2 ^ 2)))) PS rest u)) (by decide +kernel) rfl ?_
          refine M.callVv (as := [.int (((nI i) * (PS 8)) + (nI j)), .int 3, .int b138, .int ((((nI i) * (PS 8)) + (nI j)) - 1)]) (st := []) (nx := 152) okX1_layBeside lkX1_62 (s_layBeside (m := i * c + j) (dd := 3) (n := r * c) h9 h25 hcell rfl hm (by decide) b138 ((((nI i) * (PS 8)) + (nI j)) - 1)) (by decide +kernel) (by decide) rfl (Nat.le_of_ble_eq_true rfl) rfl (by decide) ?_
          show g 0 0 152 [(4, .int (jrem ((nI i) + (2 * (nI j))) 5)), (3, .int (((nI i) * (PS 8)) + (nI j))), (0, .ref 105), (1, .int (nI i)), (2, .int (nI j))] [] (WP c0 c1 c2 c3 c4 (va_up (va_up (va_up (va_up (va_up PA 0 (upd (PA 0) (i * c + j) (jrem ((nI i) + (2 * (nI j))) 5))) 1 (upd (PA 1) (tyN c (i * c + j)) (((PA 1) (tyN c (i * c + j))) ||| ((1 : Int32) <<< ((((nI i) * (PS 8)) + (nI j)) &&& 31))))) 2 (upd (PA 2) (i * c + j) (nI i))) 3 (upd (upd (upd (upd (PA 3) (4 * (i * c + j) + 0) (if b66 = 0 then -1 else (((nI i) * (PS 8)) + (nI j)) - (PS 8))) (4 * (i * c + j) + 1) (if b93 = 0 then -1 else (((nI i) * (PS 8)) + (nI j)) + 1)) (4 * (i * c + j) + 2) (if b117 = 0 then -1 else (((nI i) * (PS 8)) + (nI j)) + (PS 8))) (4 * (i * c + j) + 3) (if b138 = 0 then -1 else (((nI i) * (PS 8)) + (nI j)) - 1))) 4 (upd (upd (upd (upd (upd (PA 4) (i * c + j) 0) (i * c + j) ((upd (PA 4) (i * c + j) 0) (i * c + j) ||| if b66 = 0 then 0 else nI (2 ^ 0))) (i * c + j) ((upd (upd (PA 4) (i * c + j) 0) (i * c + j) ((upd (PA 4) (i * c + j) 0) (i * c + j) ||| if b66 = 0 then 0 else nI (2 ^ 0))) (i * c + j) ||| if b93 = 0 then 0 else nI (2 ^ 1))) (i * c + j) ((upd (upd (upd (PA 4) (i * c + j) 0) (i * c + j) ((upd (PA 4) (i * c + j) 0) (i * c + j) ||| if b66 = 0 then 0 else nI (2 ^ 0))) (i * c + j) ((upd (upd (PA 4) (i * c + j) 0) (i * c + j) ((upd (PA 4) (i * c + j) 0) (i * c + j) ||| if b66 = 0 then 0 else nI (2 ^ 0))) (i * c + j) ||| if b93 = 0 then 0 else nI (2 ^ 1))) (i * c + j) ||| if b117 = 0 then 0 else nI (2 ^ 2))) (i * c + j) ((upd (upd (upd (upd (PA 4) (i * c + j) 0) (i * c + j) ((upd (PA 4) (i * c + j) 0) (i * c + j) ||| if b66 = 0 then 0 else nI (2 ^ 0))) (i * c + j) ((upd (upd (PA 4) (i * c + j) 0) (i * c + j) ((upd (PA 4) (i * c + j) 0) (i * c + j) ||| if b66 = 0 then 0 else nI (2 ^ 0))) (i * c + j) ||| if b93 = 0 then 0 else nI (2 ^ 1))) (i * c + j) ((upd (upd (upd (PA 4) (i * c + j) 0) (i * c + j) ((upd (PA 4) (i * c + j) 0) (i * c + j) ||| if b66 = 0 then 0 else nI (2 ^ 0))) (i * c + j) ((upd (upd (PA 4) (i * c + j) 0) (i * c + j) ((upd (PA 4) (i * c + j) 0) (i * c + j) ||| if b66 = 0 then 0 else nI (2 ^ 0))) (i * c + j) ||| if b93 = 0 then 0 else nI (2 ^ 1))) (i * c + j) ||| if b117 = 0 then 0 else nI (2 ^ 2))) (i * c + j) ||| if b138 = 0 then 0 else nI (2 ^ 3)))) PS rest u)
          have N0 := lc_n0 (r := r) (c := c) (i := i) (j := j) hj (by omega) hb66
          have N1 := lc_n1 (r := r) (c := c) (i := i) (j := j) hj hc25.1 h8 hb93
          have N2 := lc_n2 (r := r) (c := c) (i := i) (j := j) hj hi hc25.2 h7 hb117
          have N3 := lc_n3 (r := r) (c := c) (i := i) (j := j) hj hc25.1 hb138
          exact M.retv (nx := 153) (by decide +kernel) ⟨rfl, _, rfl, lay_step (v0 := if b66 = 0 then -1 else nI i * PS 8 + nI j - PS 8) (v1 := if b93 = 0 then -1 else nI i * PS 8 + nI j + 1) (v2 := if b117 = 0 then -1 else nI i * PS 8 + nI j + PS 8) (v3 := if b138 = 0 then -1 else nI i * PS 8 + nI j - 1) (V := ((((0 : Int32) ||| (if b66 = 0 then 0 else nI (2 ^ 0))) ||| (if b93 = 0 then 0 else nI (2 ^ 1))) ||| (if b117 = 0 then 0 else nI (2 ^ 2))) ||| (if b138 = 0 then 0 else nI (2 ^ 3))) hj hi h25 hv (congrArg (upd (PA 0) (i * c + j)) htyp) (by rw [← shl1 (show i * c + j < 31 by omega), ← hcell]; rfl) rfl rfl (by simp [va_up, upd]) (fun k hk => by simp [va_up, upd, hk]) (lc_or N0.1 N0.2 (fun h => by have h1 := nb_up (N0.2 h) (by omega); rw [hcell, h8, pk_sub h1])) (lc_or N1.1 N1.2 (fun h => by rw [hcell, nI_1])) (lc_or N2.1 N2.2 (fun h => by rw [hcell, h8, nI_add])) (lc_or N3.1 N3.2 (fun h => by have h1 := nb_lf (N3.2 h); rw [hcell, show (1 : Int32) = nI 1 from rfl, pk_sub h1])) (by rw [lc_s N0.1, lc_s N1.1, lc_s N2.1, lc_s N3.1]; exact lay_V _ _ _ _), rfl, rfl⟩
        refine M.if_le (off := 7) (tgt := 145) (nx := 141) (by decide +kernel) (fun z138 => ?_) (fun z138 => ?_)
        · refine M.blk (is := [(.iconst 0, 0, 0, 0)]) (pc1 := 146) (lo1 := [(4, .int (jrem ((nI i) + (2 * (nI j))) 5)), (3, .int (((nI i) * (PS 8)) + (nI j))), (0, .ref 105), (1, .int (nI i)), (2, .int (nI j))]) (st1 := [.int 0, .int 3, .int (((nI i) * (PS 8)) + (nI j)), .ref 105]) (w1 := (WP c0 c1 c2 c3 c4 (va_up (va_up (va_up (va_up (va_up PA 0 (upd (PA 0) (i * c + j) (jrem ((nI i) + (2 * (nI j))) 5))) 1 (upd (PA 1) (tyN c (i * c + j)) (((PA 1) (tyN c (i * c + j))) ||| ((1 : Int32) <<< ((((nI i) * (PS 8)) + (nI j)) &&& 31))))) 2 (upd (PA 2) (i * c + j) (nI i))) 3 (upd (upd (upd (PA 3) (4 * (i * c + j) + 0) (if b66 = 0 then -1 else (((nI i) * (PS 8)) + (nI j)) - (PS 8))) (4 * (i * c + j) + 1) (if b93 = 0 then -1 else (((nI i) * (PS 8)) + (nI j)) + 1)) (4 * (i * c + j) + 2) (if b117 = 0 then -1 else (((nI i) * (PS 8)) + (nI j)) + (PS 8)))) 4 (upd (upd (upd (upd (PA 4) (i * c + j) 0) (i * c + j) ((upd (PA 4) (i * c + j) 0) (i * c + j) ||| if b66 = 0 then 0 else nI (2 ^ 0))) (i * c + j) ((upd (upd (PA 4) (i * c + j) 0) (i * c + j) ((upd (PA 4) (i * c + j) 0) (i * c + j) ||| if b66 = 0 then 0 else nI (2 ^ 0))) (i * c + j) ||| if b93 = 0 then 0 else nI (2 ^ 1))) (i * c + j) ((upd (upd (upd (PA 4) (i * c + j) 0) (i * c + j) ((upd (PA 4) (i * c + j) 0) (i * c + j) ||| if b66 = 0 then 0 else nI (2 ^ 0))) (i * c + j) ((upd (upd (PA 4) (i * c + j) 0) (i * c + j) ((upd (PA 4) (i * c + j) 0) (i * c + j) ||| if b66 = 0 then 0 else nI (2 ^ 0))) (i * c + j) ||| if b93 = 0 then 0 else nI (2 ^ 1))) (i * c + j) ||| if b117 = 0 then 0 else nI (2 ^ 2)))) PS rest u)) (by decide +kernel) rfl ?_
          exact j138 _ (if_pos z138).symm
        · refine M.blk (is := [(.iconst 1, 0, 0, 1), (.goto 4, 146, 0, 0)]) (pc1 := 146) (lo1 := [(4, .int (jrem ((nI i) + (2 * (nI j))) 5)), (3, .int (((nI i) * (PS 8)) + (nI j))), (0, .ref 105), (1, .int (nI i)), (2, .int (nI j))]) (st1 := [.int 1, .int 3, .int (((nI i) * (PS 8)) + (nI j)), .ref 105]) (w1 := (WP c0 c1 c2 c3 c4 (va_up (va_up (va_up (va_up (va_up PA 0 (upd (PA 0) (i * c + j) (jrem ((nI i) + (2 * (nI j))) 5))) 1 (upd (PA 1) (tyN c (i * c + j)) (((PA 1) (tyN c (i * c + j))) ||| ((1 : Int32) <<< ((((nI i) * (PS 8)) + (nI j)) &&& 31))))) 2 (upd (PA 2) (i * c + j) (nI i))) 3 (upd (upd (upd (PA 3) (4 * (i * c + j) + 0) (if b66 = 0 then -1 else (((nI i) * (PS 8)) + (nI j)) - (PS 8))) (4 * (i * c + j) + 1) (if b93 = 0 then -1 else (((nI i) * (PS 8)) + (nI j)) + 1)) (4 * (i * c + j) + 2) (if b117 = 0 then -1 else (((nI i) * (PS 8)) + (nI j)) + (PS 8)))) 4 (upd (upd (upd (upd (PA 4) (i * c + j) 0) (i * c + j) ((upd (PA 4) (i * c + j) 0) (i * c + j) ||| if b66 = 0 then 0 else nI (2 ^ 0))) (i * c + j) ((upd (upd (PA 4) (i * c + j) 0) (i * c + j) ((upd (PA 4) (i * c + j) 0) (i * c + j) ||| if b66 = 0 then 0 else nI (2 ^ 0))) (i * c + j) ||| if b93 = 0 then 0 else nI (2 ^ 1))) (i * c + j) ((upd (upd (upd (PA 4) (i * c + j) 0) (i * c + j) ((upd (PA 4) (i * c + j) 0) (i * c + j) ||| if b66 = 0 then 0 else nI (2 ^ 0))) (i * c + j) ((upd (upd (PA 4) (i * c + j) 0) (i * c + j) ((upd (PA 4) (i * c + j) 0) (i * c + j) ||| if b66 = 0 then 0 else nI (2 ^ 0))) (i * c + j) ||| if b93 = 0 then 0 else nI (2 ^ 1))) (i * c + j) ||| if b117 = 0 then 0 else nI (2 ^ 2)))) PS rest u)) (by decide +kernel) rfl ?_
          exact j138 _ (if_neg z138).symm
      refine M.icmp_ge (off := 7) (tgt := 124) (nx := 120) (by decide +kernel) (fun z117 => ?_) (fun z117 => ?_)
      · refine M.blk (is := [(.iconst 0, 0, 0, 0)]) (pc1 := 125) (lo1 := [(4, .int (jrem ((nI i) + (2 * (nI j))) 5)), (3, .int (((nI i) * (PS 8)) + (nI j))), (0, .ref 105), (1, .int (nI i)), (2, .int (nI j))]) (st1 := [.int 0, .int 2, .int (((nI i) * (PS 8)) + (nI j)), .ref 105]) (w1 := (WP c0 c1 c2 c3 c4 (va_up (va_up (va_up (va_up (va_up PA 0 (upd (PA 0) (i * c + j) (jrem ((nI i) + (2 * (nI j))) 5))) 1 (upd (PA 1) (tyN c (i * c + j)) (((PA 1) (tyN c (i * c + j))) ||| ((1 : Int32) <<< ((((nI i) * (PS 8)) + (nI j)) &&& 31))))) 2 (upd (PA 2) (i * c + j) (nI i))) 3 (upd (upd (PA 3) (4 * (i * c + j) + 0) (if b66 = 0 then -1 else (((nI i) * (PS 8)) + (nI j)) - (PS 8))) (4 * (i * c + j) + 1) (if b93 = 0 then -1 else (((nI i) * (PS 8)) + (nI j)) + 1))) 4 (upd (upd (upd (PA 4) (i * c + j) 0) (i * c + j) ((upd (PA 4) (i * c + j) 0) (i * c + j) ||| if b66 = 0 then 0 else nI (2 ^ 0))) (i * c + j) ((upd (upd (PA 4) (i * c + j) 0) (i * c + j) ((upd (PA 4) (i * c + j) 0) (i * c + j) ||| if b66 = 0 then 0 else nI (2 ^ 0))) (i * c + j) ||| if b93 = 0 then 0 else nI (2 ^ 1)))) PS rest u)) (by decide +kernel) rfl ?_
        exact j117 _ (if_pos z117).symm
      · refine M.blk (is := [(.iconst 1, 0, 0, 1), (.goto 4, 125, 0, 0)]) (pc1 := 125) (lo1 := [(4, .int (jrem ((nI i) + (2 * (nI j))) 5)), (3, .int (((nI i) * (PS 8)) + (nI j))), (0, .ref 105), (1, .int (nI i)), (2, .int (nI j))]) (st1 := [.int 1, .int 2, .int (((nI i) * (PS 8)) + (nI j)), .ref 105]) (w1 := (WP c0 c1 c2 c3 c4 (va_up (va_up (va_up (va_up (va_up PA 0 (upd (PA 0) (i * c + j) (jrem ((nI i) + (2 * (nI j))) 5))) 1 (upd (PA 1) (tyN c (i * c + j)) (((PA 1) (tyN c (i * c + j))) ||| ((1 : Int32) <<< ((((nI i) * (PS 8)) + (nI j)) &&& 31))))) 2 (upd (PA 2) (i * c + j) (nI i))) 3 (upd (upd (PA 3) (4 * (i * c + j) + 0) (if b66 = 0 then -1 else (((nI i) * (PS 8)) + (nI j)) - (PS 8))) (4 * (i * c + j) + 1) (if b93 = 0 then -1 else (((nI i) * (PS 8)) + (nI j)) + 1))) 4 (upd (upd (upd (PA 4) (i * c + j) 0) (i * c + j) ((upd (PA 4) (i * c + j) 0) (i * c + j) ||| if b66 = 0 then 0 else nI (2 ^ 0))) (i * c + j) ((upd (upd (PA 4) (i * c + j) 0) (i * c + j) ((upd (PA 4) (i * c + j) 0) (i * c + j) ||| if b66 = 0 then 0 else nI (2 ^ 0))) (i * c + j) ||| if b93 = 0 then 0 else nI (2 ^ 1)))) PS rest u)) (by decide +kernel) rfl ?_
        exact j117 _ (if_neg z117).symm
    refine M.icmp_ge (off := 7) (tgt := 100) (nx := 96) (by decide +kernel) (fun z93 => ?_) (fun z93 => ?_)
    · refine M.blk (is := [(.iconst 0, 0, 0, 0)]) (pc1 := 101) (lo1 := [(4, .int (jrem ((nI i) + (2 * (nI j))) 5)), (3, .int (((nI i) * (PS 8)) + (nI j))), (0, .ref 105), (1, .int (nI i)), (2, .int (nI j))]) (st1 := [.int 0, .int 1, .int (((nI i) * (PS 8)) + (nI j)), .ref 105]) (w1 := (WP c0 c1 c2 c3 c4 (va_up (va_up (va_up (va_up (va_up PA 0 (upd (PA 0) (i * c + j) (jrem ((nI i) + (2 * (nI j))) 5))) 1 (upd (PA 1) (tyN c (i * c + j)) (((PA 1) (tyN c (i * c + j))) ||| ((1 : Int32) <<< ((((nI i) * (PS 8)) + (nI j)) &&& 31))))) 2 (upd (PA 2) (i * c + j) (nI i))) 3 (upd (PA 3) (4 * (i * c + j) + 0) (if b66 = 0 then -1 else (((nI i) * (PS 8)) + (nI j)) - (PS 8)))) 4 (upd (upd (PA 4) (i * c + j) 0) (i * c + j) ((upd (PA 4) (i * c + j) 0) (i * c + j) ||| if b66 = 0 then 0 else nI (2 ^ 0)))) PS rest u)) (by decide +kernel) rfl ?_
      exact j93 _ (if_pos z93).symm
    · refine M.blk (is := [(.iconst 1, 0, 0, 1), (.goto 4, 101, 0, 0)]) (pc1 := 101) (lo1 := [(4, .int (jrem ((nI i) + (2 * (nI j))) 5)), (3, .int (((nI i) * (PS 8)) + (nI j))), (0, .ref 105), (1, .int (nI i)), (2, .int (nI j))]) (st1 := [.int 1, .int 1, .int (((nI i) * (PS 8)) + (nI j)), .ref 105]) (w1 := (WP c0 c1 c2 c3 c4 (va_up (va_up (va_up (va_up (va_up PA 0 (upd (PA 0) (i * c + j) (jrem ((nI i) + (2 * (nI j))) 5))) 1 (upd (PA 1) (tyN c (i * c + j)) (((PA 1) (tyN c (i * c + j))) ||| ((1 : Int32) <<< ((((nI i) * (PS 8)) + (nI j)) &&& 31))))) 2 (upd (PA 2) (i * c + j) (nI i))) 3 (upd (PA 3) (4 * (i * c + j) + 0) (if b66 = 0 then -1 else (((nI i) * (PS 8)) + (nI j)) - (PS 8)))) 4 (upd (upd (PA 4) (i * c + j) 0) (i * c + j) ((upd (PA 4) (i * c + j) 0) (i * c + j) ||| if b66 = 0 then 0 else nI (2 ^ 0)))) PS rest u)) (by decide +kernel) rfl ?_
      exact j93 _ (if_neg z93).symm
  refine M.if_le (off := 7) (tgt := 73) (nx := 69) (by decide +kernel) (fun z66 => ?_) (fun z66 => ?_)
  · refine M.blk (is := [(.iconst 0, 0, 0, 0)]) (pc1 := 74) (lo1 := [(4, .int (jrem ((nI i) + (2 * (nI j))) 5)), (3, .int (((nI i) * (PS 8)) + (nI j))), (0, .ref 105), (1, .int (nI i)), (2, .int (nI j))]) (st1 := [.int 0, .int 0, .int (((nI i) * (PS 8)) + (nI j)), .ref 105]) (w1 := (WP c0 c1 c2 c3 c4 (va_up (va_up (va_up (va_up PA 0 (upd (PA 0) (i * c + j) (jrem ((nI i) + (2 * (nI j))) 5))) 1 (upd (PA 1) (tyN c (i * c + j)) (((PA 1) (tyN c (i * c + j))) ||| ((1 : Int32) <<< ((((nI i) * (PS 8)) + (nI j)) &&& 31))))) 2 (upd (PA 2) (i * c + j) (nI i))) 4 (upd (PA 4) (i * c + j) 0)) PS rest u)) (by decide +kernel) rfl ?_
    exact j66 _ (if_pos z66).symm
  · refine M.blk (is := [(.iconst 1, 0, 0, 1), (.goto 4, 74, 0, 0)]) (pc1 := 74) (lo1 := [(4, .int (jrem ((nI i) + (2 * (nI j))) 5)), (3, .int (((nI i) * (PS 8)) + (nI j))), (0, .ref 105), (1, .int (nI i)), (2, .int (nI j))]) (st1 := [.int 1, .int 0, .int (((nI i) * (PS 8)) + (nI j)), .ref 105]) (w1 := (WP c0 c1 c2 c3 c4 (va_up (va_up (va_up (va_up PA 0 (upd (PA 0) (i * c + j) (jrem ((nI i) + (2 * (nI j))) 5))) 1 (upd (PA 1) (tyN c (i * c + j)) (((PA 1) (tyN c (i * c + j))) ||| ((1 : Int32) <<< ((((nI i) * (PS 8)) + (nI j)) &&& 31))))) 2 (upd (PA 2) (i * c + j) (nI i))) 4 (upd (PA 4) (i * c + j) 0)) PS rest u)) (by decide +kernel) rfl ?_
    exact j66 _ (if_neg z66).symm
end LAY
end
section
section MIX
variable {c0 c1 c2 c3 c4 : Cl} {PA : Nat → Nat → Int32} {PS : Nat → Int32} {rest u : List Cl}
theorem mix_next {f h n a : Nat} {b x : Int32} (hx : x = nI n) (hf : f < n) (hn : n ≤ 25) (hb : b = if nI ((f * a + h) % n) + nI f < x then nI ((f * a + h) % n) + nI f else nI ((f * a + h) % n) + nI f - x) : b = nI ((f * (a + 1) + h) % n) := by
  have h1 : f * (a + 1) + h = (f * a + h) + f := by rw [Nat.mul_add]; omega
  have h2 : (f * a + h) % n < n := Nat.mod_lt _ (by omega)
  rw [h1, Nat.add_mod, Nat.mod_eq_of_lt hf]
  generalize (f * a + h) % n = k at *
  rw [hx, nI_add] at hb
  by_cases hc : k + f < n
  · rw [if_pos (nI_lt hc (by omega))] at hb
    rw [hb, Nat.mod_eq_of_lt hc]
  · rw [if_neg (nI_nlt (by omega) (by omega)), pk_sub (by omega)] at hb
    rw [hb, Nat.mod_eq_sub_mod (by omega), Nat.mod_eq_of_lt (by omega)]
theorem mix_step {f h n a : Nat} {PB PC : Nat → Nat → Int32} (hg : Nat.gcd n f = 1) (ha : a < n) (hv : MixInv n f h a PB) (e5 : PC 5 = upd (PB 5) a (nI ((f * a + h) % n))) (e6 : PC 6 = upd (PB 6) ((f * a + h) % n) (nI a)) : MixInv n f h (a + 1) PC := by
  intro k hk
  by_cases hka : k = a
  · subst hka
    exact ⟨by rw [e5, pk_us], by rw [e6, pk_us]⟩
  · obtain ⟨h1, h2⟩ := hv k (by omega)
    refine ⟨by rw [e5, pk_un hka, h1], ?_⟩
    rw [e6, pk_un, h2]
    intro e
    exact hka (mod_inj hg (by omega) ha e)
theorem fa_lt1 {x : Int32} (h : x < 0) : x < 3 := by
  rw [Int32.lt_iff_toInt_lt] at h ⊢
  have h1 : (3 : Int32).toInt = 3 := by decide
  have h2 : (0 : Int32).toInt = 0 := by decide
  omega
theorem fa_gt1 {x : Int32} (h : nI 6 ≤ x) : 5 < x := by
  rw [Int32.le_iff_toInt_le] at h
  rw [Int32.lt_iff_toInt_lt]
  have h1 : (5 : Int32).toInt = 5 := by decide
  have h2 : (nI 6).toInt = 6 := by decide
  omega
theorem fa_lt0 {x : Int32} (h : x < 0) : x < 1 := by
  rw [Int32.lt_iff_toInt_lt] at h ⊢
  have h1 : (1 : Int32).toInt = 1 := by decide
  have h2 : (0 : Int32).toInt = 0 := by decide
  omega
theorem i32_nlt {x y : Int32} (h : x < y) (h2 : y ≤ x) : False := by
  rw [Int32.lt_iff_toInt_lt] at h
  rw [Int32.le_iff_toInt_le] at h2
  omega
theorem sideF_ok {x : Int32} (h : ¬ sideF x = 0) : ∃ r : Nat, (3 ≤ r ∧ r ≤ 5) ∧ x = nI r := by
  unfold sideF at h
  split at h
  · exact absurd rfl h
  · rename_i h1
    split at h
    · exact absurd rfl h
    · rename_i h2
      rcases pk_ix x (n := 6) (by decide) with h3 | h3 | ⟨j, hj, rfl⟩
      · exact absurd (fa_lt1 h3) h1
      · exact absurd (fa_gt1 h3) h2
      · have h4 : ¬ j < 3 := fun h => h1 (nI_lt (b := 3) h (by decide))
        exact ⟨j, by omega, rfl⟩
theorem sideF_no {x : Int32} (h : sideF x = 0) : ∀ r : Nat, x = nI r → ¬ (3 ≤ r ∧ r ≤ 5) := by
  rintro r rfl ⟨h3, h5⟩
  rcases (show r = 3 ∨ r = 4 ∨ r = 5 by omega) with rfl | rfl | rfl <;> exact absurd h (by decide)
theorem mix_f1 {f : Nat} (h : 1 = nI f) (h1 : f < 100) : f = 1 := nI_inj (by omega) (by decide) h.symm
theorem mix_f0 {f : Nat} (h : 0 = nI f) (h1 : f < 100) : f = 0 := nI_inj (by omega) (by decide) h.symm
theorem shl_row {r : Nat} (hr : r ≤ 5) {x z : Int32} (hx : x = nI r) : (z < 1 <<< (x &&& 31)) ↔ z < nI (2 ^ r) := by
  rw [hx, shl1 (by omega)]
theorem s_mix {r n : Nat} (h7 : PS 7 = nI r) (h9 : PS 9 = nI n) (hr : r ≤ 5) (hn : 1 ≤ n ∧ n ≤ 25) (x y z : Int32) : CC 2 mX1_mix 0 0 [.ref 105, .int x, .int y, .int z] (WP c0 c1 c2 c3 c4 PA PS rest u) (fun r0 w1 => (r0 = some (.int 0) ∧ w1 = (WP c0 c1 c2 c3 c4 PA PS rest u) ∧ ¬ mixP r n x y z) ∨ (r0 = some (.int 1) ∧ ∃ f h t : Nat, (x = nI f ∧ y = nI h ∧ z = nI t ∧ 1 ≤ f ∧ f < n ∧ Nat.gcd n f = 1 ∧ h < n ∧ t < 2 ^ r) ∧ ∃ PB, w1 = WP c0 c1 c2 c3 c4 PB (upd (upd (upd PS 10 x) 11 y) 12 z) rest u ∧ (∀ k, k < 5 → PB k = PA k) ∧ MixInv n f h n PB)) := by
  refine CC.of okX1_mix.1 (Nat.le_of_ble_eq_true rfl) (fun g M => ?_)
  have h2r : 2 ^ r ≤ 32 := Nat.pow_le_pow_right (n := 2) (by decide) hr
  show g 0 0 0 [(0, .ref 105), (1, .int x), (2, .int y), (3, .int z)] [] (WP c0 c1 c2 c3 c4 PA PS rest u)
  refine M.blk (is := [(.iload_n 1, 1, 0, 0), (.iconst 1, 0, 0, 1)]) (pc1 := 2) (lo1 := [(0, .ref 105), (1, .int x), (2, .int y), (3, .int z)]) (st1 := [.int 1, .int x]) (w1 := (WP c0 c1 c2 c3 c4 PA PS rest u)) (by decide +kernel) rfl ?_
  refine M.icmp_lt (off := 23) (tgt := 25) (nx := 5) (by decide +kernel) (fun z2 => ?_) (fun z2 => ?_)
  · refine M.blk (is := [(.iconst 0, 0, 0, 0)]) (pc1 := 26) (lo1 := [(0, .ref 105), (1, .int x), (2, .int y), (3, .int z)]) (st1 := [.int 0]) (w1 := (WP c0 c1 c2 c3 c4 PA PS rest u)) (by decide +kernel) rfl ?_
    exact M.retz (nx := 27) (by decide +kernel) (by decide) (Or.inl ⟨rfl, rfl, (fun ⟨f, h, t, e1, e2, e3, a1, a2, a3, a4, a5⟩ => by rw [e1] at z2; exact nI_nlt (b := 1) a1 (by omega) z2)⟩)
  · refine M.blk (is := [(.iload_n 1, 1, 0, 0), (.aload_n 0, 0, 0, 0), (.getfield 48, 1, 9, 0)]) (pc1 := 10) (lo1 := [(0, .ref 105), (1, .int x), (2, .int y), (3, .int z)]) (st1 := [.int (PS 9), .int x]) (w1 := (WP c0 c1 c2 c3 c4 PA PS rest u)) (by decide +kernel) rfl ?_
    refine M.icmp_ge (off := 15) (tgt := 25) (nx := 13) (by decide +kernel) (fun z10 => ?_) (fun z10 => ?_)
    · refine M.blk (is := [(.iconst 0, 0, 0, 0)]) (pc1 := 26) (lo1 := [(0, .ref 105), (1, .int x), (2, .int y), (3, .int z)]) (st1 := [.int 0]) (w1 := (WP c0 c1 c2 c3 c4 PA PS rest u)) (by decide +kernel) rfl ?_
      exact M.retz (nx := 27) (by decide +kernel) (by decide) (Or.inl ⟨rfl, rfl, (fun ⟨f, h, t, e1, e2, e3, a1, a2, a3, a4, a5⟩ => by rw [e1, h9] at z10; exact nI_ge a2 (by omega) z10)⟩)
    · obtain ⟨f, hf, rfl⟩ : ∃ f : Nat, f < n ∧ x = nI f := ⟨_, (idx_of (n := n) (fun h => z2 (fa_lt0 h)) (by rw [← h9]; exact z10) (by omega)).2, (idx_of (n := n) (fun h => z2 (fa_lt0 h)) (by rw [← h9]; exact z10) (by omega)).1⟩
      have hf1 : 1 ≤ f := by
        rcases Nat.eq_zero_or_pos f with h0 | h0
        · subst h0; exact absurd (show nI 0 < 1 by decide) z2
        · exact h0
      refine M.blk (is := [(.aload_n 0, 0, 0, 0), (.getfield 48, 1, 9, 0), (.iload_n 1, 1, 0, 0)]) (pc1 := 18) (lo1 := [(0, .ref 105), (1, .int (nI f)), (2, .int y), (3, .int z)]) (st1 := [.int (nI f), .int (PS 9)]) (w1 := (WP c0 c1 c2 c3 c4 PA PS rest u)) (by decide +kernel) rfl ?_
      refine M.callSi (as := [.int (PS 9), .int (nI f)]) (st := []) (nx := 21) okX3_commonDivisor lkX1_66 (h9 ▸ s_commonDivisor (WP c0 c1 c2 c3 c4 PA PS rest u) (a := n) (b := f) (by omega) (by omega)) (by decide +kernel) (by decide) rfl (Nat.le_of_ble_eq_true rfl) ?_
      refine M.blk (is := [(.iconst 1, 0, 0, 1)]) (pc1 := 22) (lo1 := [(0, .ref 105), (1, .int (nI f)), (2, .int y), (3, .int z)]) (st1 := [.int 1, .int (nI (Nat.gcd n f))]) (w1 := (WP c0 c1 c2 c3 c4 PA PS rest u)) (by decide +kernel) rfl ?_
      refine M.icmp_eq (off := 5) (tgt := 27) (nx := 25) (by decide +kernel) (fun z22 => ?_) (fun z22 => ?_)
      · refine M.blk (is := [(.iload_n 2, 2, 0, 0)]) (pc1 := 28) (lo1 := [(0, .ref 105), (1, .int (nI f)), (2, .int y), (3, .int z)]) (st1 := [.int y]) (w1 := (WP c0 c1 c2 c3 c4 PA PS rest u)) (by decide +kernel) rfl ?_
        refine M.if_lt (off := 25) (tgt := 53) (nx := 31) (by decide +kernel) (fun z28 => ?_) (fun z28 => ?_)
        · refine M.blk (is := [(.iconst 0, 0, 0, 0)]) (pc1 := 54) (lo1 := [(0, .ref 105), (1, .int (nI f)), (2, .int y), (3, .int z)]) (st1 := [.int 0]) (w1 := (WP c0 c1 c2 c3 c4 PA PS rest u)) (by decide +kernel) rfl ?_
          exact M.retz (nx := 55) (by decide +kernel) (by decide) (Or.inl ⟨rfl, rfl, (fun ⟨f1, h, t, e1, e2, e3, a1, a2, a3, a4, a5⟩ => by rw [e2] at z28; exact nI_pos (by omega) z28)⟩)
        · refine M.blk (is := [(.iload_n 2, 2, 0, 0), (.aload_n 0, 0, 0, 0), (.getfield 48, 1, 9, 0)]) (pc1 := 36) (lo1 := [(0, .ref 105), (1, .int (nI f)), (2, .int y), (3, .int z)]) (st1 := [.int (PS 9), .int y]) (w1 := (WP c0 c1 c2 c3 c4 PA PS rest u)) (by decide +kernel) rfl ?_
          refine M.icmp_ge (off := 17) (tgt := 53) (nx := 39) (by decide +kernel) (fun z36 => ?_) (fun z36 => ?_)
          · refine M.blk (is := [(.iconst 0, 0, 0, 0)]) (pc1 := 54) (lo1 := [(0, .ref 105), (1, .int (nI f)), (2, .int y), (3, .int z)]) (st1 := [.int 0]) (w1 := (WP c0 c1 c2 c3 c4 PA PS rest u)) (by decide +kernel) rfl ?_
            exact M.retz (nx := 55) (by decide +kernel) (by decide) (Or.inl ⟨rfl, rfl, (fun ⟨f1, h, t, e1, e2, e3, a1, a2, a3, a4, a5⟩ => by rw [e2, h9] at z36; exact nI_ge a4 (by omega) z36)⟩)
          · refine M.blk (is := [(.iload_n 3, 3, 0, 0)]) (pc1 := 40) (lo1 := [(0, .ref 105), (1, .int (nI f)), (2, .int y), (3, .int z)]) (st1 := [.int z]) (w1 := (WP c0 c1 c2 c3 c4 PA PS rest u)) (by decide +kernel) rfl ?_
            refine M.if_lt (off := 13) (tgt := 53) (nx := 43) (by decide +kernel) (fun z40 => ?_) (fun z40 => ?_)
            · refine M.blk (is := [(.iconst 0, 0, 0, 0)]) (pc1 := 54) (lo1 := [(0, .ref 105), (1, .int (nI f)), (2, .int y), (3, .int z)]) (st1 := [.int 0]) (w1 := (WP c0 c1 c2 c3 c4 PA PS rest u)) (by decide +kernel) rfl ?_
              exact M.retz (nx := 55) (by decide +kernel) (by decide) (Or.inl ⟨rfl, rfl, (fun ⟨f1, h, t, e1, e2, e3, a1, a2, a3, a4, a5⟩ => by rw [e3] at z40; exact nI_pos (by omega) z40)⟩)
            · refine M.blk (is := [(.iload_n 3, 3, 0, 0), (.iconst 1, 0, 0, 1), (.aload_n 0, 0, 0, 0), (.getfield 41, 1, 7, 0), (.ishl, 0, 0, 0)]) (pc1 := 50) (lo1 := [(0, .ref 105), (1, .int (nI f)), (2, .int y), (3, .int z)]) (st1 := [.int ((1 : Int32) <<< ((PS 7) &&& 31)), .int z]) (w1 := (WP c0 c1 c2 c3 c4 PA PS rest u)) (by decide +kernel) rfl ?_
              refine M.icmp_lt (off := 5) (tgt := 55) (nx := 53) (by decide +kernel) (fun z50 => ?_) (fun z50 => ?_)
              · obtain ⟨h, hh, rfl⟩ : ∃ h : Nat, h < n ∧ y = nI h := ⟨_, (idx_of (n := n) z28 (by rw [← h9]; exact z36) (by omega)).2, (idx_of (n := n) z28 (by rw [← h9]; exact z36) (by omega)).1⟩
                obtain ⟨t, ht, rfl⟩ : ∃ t : Nat, t < 2 ^ r ∧ z = nI t := by
                  rw [shl_row hr h7] at z50
                  have z51 : ¬ nI (2 ^ r) ≤ z := fun h => i32_nlt z50 h
                  exact ⟨_, (idx_of (n := 2 ^ r) z40 z51 (by omega)).2, (idx_of (n := 2 ^ r) z40 z51 (by omega)).1⟩
                have hg : Nat.gcd n f = 1 := nI_inj (Nat.lt_of_le_of_lt (Nat.gcd_le_left f hn.1) (by omega)) (by decide) z22
                have lp : ∀ m a PB, a + m = n → MixInv n f h a PB → (∀ k, k < 5 → PB k = PA k) → g 0 0 76 [(0, .ref 105), (1, .int (nI f)), (4, .int (nI ((f * a + h) % n))), (5, .int (nI a))] [] (WP c0 c1 c2 c3 c4 PB (upd (upd (upd PS 10 (nI f)) 11 (nI h)) 12 (nI t)) rest u) := by
                  intro m
                  induction m with
                  | zero =>
                    intro a PB ham hv hk
                    have ea : n = a := by omega
                    subst ea
                    refine M.blk (is := [(.iload 5, 5, 0, 0), (.aload_n 0, 0, 0, 0), (.getfield 48, 1, 9, 0)]) (pc1 := 82) (lo1 := [(0, .ref 105), (1, .int (nI f)), (4, .int (nI ((f * n + h) % n))), (5, .int (nI n))]) (st1 := [.int (PS 9), .int (nI n)]) (w1 := (WP c0 c1 c2 c3 c4 PB (upd (upd (upd PS 10 (nI f)) 11 (nI h)) 12 (nI t)) rest u)) (by decide +kernel) rfl ?_
                    refine M.icmp_ge (off := 46) (tgt := 128) (nx := 85) (by decide +kernel) (fun z82 => ?_) (fun z82 => by exfalso; exact z82 (by rw [h9]; exact nI_le (Nat.le_refl _) (by omega)))
                    refine M.blk (is := [(.iconst 1, 0, 0, 1)]) (pc1 := 129) (lo1 := [(0, .ref 105), (1, .int (nI f)), (4, .int (nI ((f * n + h) % n))), (5, .int (nI n))]) (st1 := [.int 1]) (w1 := (WP c0 c1 c2 c3 c4 PB (upd (upd (upd PS 10 (nI f)) 11 (nI h)) 12 (nI t)) rest u)) (by decide +kernel) rfl ?_
                    exact M.retz (nx := 130) (by decide +kernel) (by decide) (Or.inr ⟨rfl, f, h, t, ⟨rfl, rfl, rfl, hf1, hf, hg, hh, ht⟩, PB, rfl, hk, hv⟩)
                  | succ m ih =>
                    intro a PB ham hv hk
                    refine M.blk (is := [(.iload 5, 5, 0, 0), (.aload_n 0, 0, 0, 0), (.getfield 48, 1, 9, 0)]) (pc1 := 82) (lo1 := [(0, .ref 105), (1, .int (nI f)), (4, .int (nI ((f * a + h) % n))), (5, .int (nI a))]) (st1 := [.int (PS 9), .int (nI a)]) (w1 := (WP c0 c1 c2 c3 c4 PB (upd (upd (upd PS 10 (nI f)) 11 (nI h)) 12 (nI t)) rest u)) (by decide +kernel) rfl ?_
                    refine M.icmp_ge (off := 46) (tgt := 128) (nx := 85) (by decide +kernel) (fun z82 => by exfalso; rw [h9] at z82; exact nI_ge (show a < n by omega) (by omega) z82) (fun z82 => ?_)
                    refine M.blk (is := [(.aload_n 0, 0, 0, 0), (.iload 5, 5, 0, 0), (.iload 4, 4, 0, 0)]) (pc1 := 90) (lo1 := [(0, .ref 105), (1, .int (nI f)), (4, .int (nI ((f * a + h) % n))), (5, .int (nI a))]) (st1 := [.int (nI ((f * a + h) % n)), .int (nI a), .ref 105]) (w1 := (WP c0 c1 c2 c3 c4 PB (upd (upd (upd PS 10 (nI f)) 11 (nI h)) 12 (nI t)) rest u)) (by decide +kernel) rfl ?_
                    refine M.callVv (as := [.int (nI a), .int (nI ((f * a + h) % n))]) (st := []) (nx := 93) okX1_setAddress lkX1_79 (s_setAddress (n := n) h9 hn.2 (by omega) (Nat.mod_lt _ (by omega))) (by decide +kernel) (by decide) rfl (Nat.le_of_ble_eq_true rfl) rfl (by decide) ?_
                    show g 0 0 93 [(0, .ref 105), (1, .int (nI f)), (4, .int (nI ((f * a + h) % n))), (5, .int (nI a))] [] (WP c0 c1 c2 c3 c4 (va_up (va_up PB 5 (upd (PB 5) a (nI ((f * a + h) % n)))) 6 (upd (PB 6) ((f * a + h) % n) (nI a))) (upd (upd (upd PS 10 (nI f)) 11 (nI h)) 12 (nI t)) rest u)
                    refine M.blk (is := [(.iload 4, 4, 0, 0), (.iload_n 1, 1, 0, 0), (.iadd, 0, 0, 0), (.istore 4, 4, 0, 0), (.iload 4, 4, 0, 0), (.aload_n 0, 0, 0, 0), (.getfield 48, 1, 9, 0)]) (pc1 := 105) (lo1 := [(4, .int ((nI ((f * a + h) % n)) + (nI f))), (0, .ref 105), (1, .int (nI f)), (5, .int (nI a))]) (st1 := [.int (PS 9), .int ((nI ((f * a + h) % n)) + (nI f))]) (w1 := (WP c0 c1 c2 c3 c4 (va_up (va_up PB 5 (upd (PB 5) a (nI ((f * a + h) % n)))) 6 (upd (PB 6) ((f * a + h) % n) (nI a))) (upd (upd (upd PS 10 (nI f)) 11 (nI h)) 12 (nI t)) rest u)) (by decide +kernel) rfl ?_
                    have j105 : ∀ b105 : Int32, b105 = (if (nI ((f * a + h) % n)) + (nI f) < PS 9 then ((nI ((f * a + h) % n)) + (nI f) : Int32) else ((nI ((f * a + h) % n)) + (nI f)) - (PS 9)) → g 0 0 120 [(4, .int ((nI ((f * a + h) % n)) + (nI f))), (0, .ref 105), (1, .int (nI f)), (5, .int (nI a))] [.int b105] (WP c0 c1 c2 c3 c4 (va_up (va_up PB 5 (upd (PB 5) a (nI ((f * a + h) % n)))) 6 (upd (PB 6) ((f * a + h) % n) (nI a))) (upd (upd (upd PS 10 (nI f)) 11 (nI h)) 12 (nI t)) rest u) := by
                      intro b105 hb105
                      refine M.blk (is := [(.istore 4, 4, 0, 0), (.iinc 5 1, 5, 0, 1), (.goto (-49), 76, 0, 0)]) (pc1 := 76) (lo1 := [(5, .int ((nI a) + 1)), (4, .int b105), (0, .ref 105), (1, .int (nI f))]) (st1 := []) (w1 := (WP c0 c1 c2 c3 c4 (va_up (va_up PB 5 (upd (PB 5) a (nI ((f * a + h) % n)))) 6 (upd (PB 6) ((f * a + h) % n) (nI a))) (upd (upd (upd PS 10 (nI f)) 11 (nI h)) 12 (nI t)) rest u)) (by decide +kernel) rfl ?_
                      refine M.lsub [2, 3, 1, 0] (lo1 := [(0, .ref 105), (1, .int (nI f)), (4, .int b105), (5, .int ((nI a) + 1))]) rfl ?_
                      rw [mix_next h9 hf hn.2 hb105, nI_1]
                      exact ih (a + 1) _ (by omega) (mix_step hg (by omega) hv rfl rfl) (fun k hk1 => (va_upN _ _ (by omega)).trans ((va_upN _ _ (by omega)).trans (hk k hk1)))
                    refine M.icmp_lt (off := 13) (tgt := 118) (nx := 108) (by decide +kernel) (fun z105 => ?_) (fun z105 => ?_)
                    · refine M.blk (is := [(.iload 4, 4, 0, 0)]) (pc1 := 120) (lo1 := [(4, .int ((nI ((f * a + h) % n)) + (nI f))), (0, .ref 105), (1, .int (nI f)), (5, .int (nI a))]) (st1 := [.int ((nI ((f * a + h) % n)) + (nI f))]) (w1 := (WP c0 c1 c2 c3 c4 (va_up (va_up PB 5 (upd (PB 5) a (nI ((f * a + h) % n)))) 6 (upd (PB 6) ((f * a + h) % n) (nI a))) (upd (upd (upd PS 10 (nI f)) 11 (nI h)) 12 (nI t)) rest u)) (by decide +kernel) rfl ?_
                      exact j105 _ (if_pos z105).symm
                    · refine M.blk (is := [(.iload 4, 4, 0, 0), (.aload_n 0, 0, 0, 0), (.getfield 48, 1, 9, 0), (.isub, 0, 0, 0), (.goto 5, 120, 0, 0)]) (pc1 := 120) (lo1 := [(4, .int ((nI ((f * a + h) % n)) + (nI f))), (0, .ref 105), (1, .int (nI f)), (5, .int (nI a))]) (st1 := [.int (((nI ((f * a + h) % n)) + (nI f)) - (PS 9))]) (w1 := (WP c0 c1 c2 c3 c4 (va_up (va_up PB 5 (upd (PB 5) a (nI ((f * a + h) % n)))) 6 (upd (PB 6) ((f * a + h) % n) (nI a))) (upd (upd (upd PS 10 (nI f)) 11 (nI h)) 12 (nI t)) rest u)) (by decide +kernel) rfl ?_
                      exact j105 _ (if_neg z105).symm
                refine M.blk (is := [(.aload_n 0, 0, 0, 0), (.iload_n 1, 1, 0, 0), (.putfield 70, 1, 10, 0), (.aload_n 0, 0, 0, 0), (.iload_n 2, 2, 0, 0), (.putfield 73, 1, 11, 0), (.aload_n 0, 0, 0, 0), (.iload_n 3, 3, 0, 0), (.putfield 76, 1, 12, 0), (.iload_n 2, 2, 0, 0), (.istore 4, 4, 0, 0), (.iconst 0, 0, 0, 0), (.istore 5, 5, 0, 0)]) (pc1 := 76) (lo1 := [(5, .int 0), (4, .int (nI h)), (0, .ref 105), (1, .int (nI f)), (2, .int (nI h)), (3, .int (nI t))]) (st1 := []) (w1 := (WP c0 c1 c2 c3 c4 PA (upd (upd (upd PS 10 (nI f)) 11 (nI h)) 12 (nI t)) rest u)) (by decide +kernel) rfl ?_
                refine M.lsub [2, 3, 1, 0] (lo1 := [(0, .ref 105), (1, .int (nI f)), (4, .int (nI h)), (5, .int 0)]) rfl ?_
                have e0 : nI h = nI ((f * 0 + h) % n) := by rw [Nat.mul_zero, Nat.zero_add, Nat.mod_eq_of_lt hh]
                rw [show g 0 0 76 [(0, .ref 105), (1, .int (nI f)), (4, .int (nI h)), (5, .int 0)] = g 0 0 76 [(0, .ref 105), (1, .int (nI f)), (4, .int (nI ((f * 0 + h) % n))), (5, .int (nI 0))] by rw [← e0]; rfl]
                exact lp n 0 PA (by omega) (fun k hk => absurd hk (Nat.not_lt_zero _)) (fun _ _ => rfl)
              · refine M.blk (is := [(.iconst 0, 0, 0, 0)]) (pc1 := 54) (lo1 := [(0, .ref 105), (1, .int (nI f)), (2, .int y), (3, .int z)]) (st1 := [.int 0]) (w1 := (WP c0 c1 c2 c3 c4 PA PS rest u)) (by decide +kernel) rfl ?_
                exact M.retz (nx := 55) (by decide +kernel) (by decide) (Or.inl ⟨rfl, rfl, (fun ⟨f1, h, t, e1, e2, e3, a1, a2, a3, a4, a5⟩ => by rw [e3, shl_row hr h7] at z50; exact z50 (nI_lt a5 (by omega)))⟩)
      · refine M.blk (is := [(.iconst 0, 0, 0, 0)]) (pc1 := 26) (lo1 := [(0, .ref 105), (1, .int (nI f)), (2, .int y), (3, .int z)]) (st1 := [.int 0]) (w1 := (WP c0 c1 c2 c3 c4 PA PS rest u)) (by decide +kernel) rfl ?_
        exact M.retz (nx := 27) (by decide +kernel) (by decide) (Or.inl ⟨rfl, rfl, (fun ⟨f1, h, t, e1, e2, e3, a1, a2, a3, a4, a5⟩ => z22 (by rw [nI_inj (by omega) (by omega) e1, a3]; rfl))⟩)
theorem s_lay (x y : Int32) : CC 3 mX1_lay 0 0 [.ref 105, .int x, .int y] (WP c0 c1 c2 c3 c4 PA PS rest u) (fun r0 w1 => (r0 = some (.int 0) ∧ w1 = (WP c0 c1 c2 c3 c4 PA PS rest u) ∧ ¬ layP x y) ∨ (r0 = some (.int 1) ∧ ∃ r c : Nat, x = nI r ∧ y = nI c ∧ (3 ≤ r ∧ r ≤ 5) ∧ (3 ≤ c ∧ c ≤ 5) ∧ ∃ PB PT, w1 = WP c0 c1 c2 c3 c4 PB PT rest u ∧ PlOk r c 1 0 0 PB PT)) := by
  refine CC.of okX1_lay.1 (Nat.le_of_ble_eq_true rfl) (fun g M => ?_)
  show g 0 0 0 [(0, .ref 105), (1, .int x), (2, .int y)] [] (WP c0 c1 c2 c3 c4 PA PS rest u)
  refine M.blk (is := [(.iload_n 1, 1, 0, 0)]) (pc1 := 1) (lo1 := [(0, .ref 105), (1, .int x), (2, .int y)]) (st1 := [.int x]) (w1 := (WP c0 c1 c2 c3 c4 PA PS rest u)) (by decide +kernel) rfl ?_
  refine M.callSi (as := [.int x]) (st := []) (nx := 4) okX1_isSide lkX1_37 (s_isSide (WP c0 c1 c2 c3 c4 PA PS rest u) x) (by decide +kernel) (by decide) rfl (Nat.le_of_ble_eq_true rfl) ?_
  refine M.if_eq (off := 10) (tgt := 14) (nx := 7) (by decide +kernel) (fun z4 => ?_) (fun z4 => ?_)
  · refine M.blk (is := [(.iconst 0, 0, 0, 0)]) (pc1 := 15) (lo1 := [(0, .ref 105), (1, .int x), (2, .int y)]) (st1 := [.int 0]) (w1 := (WP c0 c1 c2 c3 c4 PA PS rest u)) (by decide +kernel) rfl ?_
    exact M.retz (nx := 16) (by decide +kernel) (by decide) (Or.inl ⟨rfl, rfl, (fun ⟨r, c, e1, e2, a1, a2⟩ => sideF_no z4 r e1 a1)⟩)
  · refine M.blk (is := [(.iload_n 2, 2, 0, 0)]) (pc1 := 8) (lo1 := [(0, .ref 105), (1, .int x), (2, .int y)]) (st1 := [.int y]) (w1 := (WP c0 c1 c2 c3 c4 PA PS rest u)) (by decide +kernel) rfl ?_
    refine M.callSi (as := [.int y]) (st := []) (nx := 11) okX1_isSide lkX1_37 (s_isSide (WP c0 c1 c2 c3 c4 PA PS rest u) y) (by decide +kernel) (by decide) rfl (Nat.le_of_ble_eq_true rfl) ?_
    refine M.if_ne (off := 5) (tgt := 16) (nx := 14) (by decide +kernel) (fun z11 => ?_) (fun z11 => ?_)
    · obtain ⟨r, hr, rfl⟩ := sideF_ok z4
      obtain ⟨c, hc, rfl⟩ := sideF_ok z11
      have h25 : r * c ≤ 25 := Nat.mul_le_mul hr.2 hc.2
      have h9a : 9 ≤ r * c := Nat.mul_le_mul hr.1 hc.1
      refine M.blk (is := [(.aload_n 0, 0, 0, 0), (.iload_n 1, 1, 0, 0), (.putfield 41, 1, 7, 0), (.aload_n 0, 0, 0, 0), (.iload_n 2, 2, 0, 0), (.putfield 45, 1, 8, 0), (.aload_n 0, 0, 0, 0), (.iload_n 1, 1, 0, 0), (.iload_n 2, 2, 0, 0), (.imul, 0, 0, 0), (.putfield 48, 1, 9, 0)]) (pc1 := 33) (lo1 := [(0, .ref 105), (1, .int (nI r)), (2, .int (nI c))]) (st1 := []) (w1 := (WP c0 c1 c2 c3 c4 PA (upd (upd (upd PS 7 (nI r)) 8 (nI c)) 9 ((nI r) * (nI c))) rest u)) (by decide +kernel) rfl ?_
      rw [pk_mul]
      have lo2 : ∀ m i PB, i + m = r → LayInv r c (i * c) PB → g 0 0 55 [(0, .ref 105), (1, .int (nI r)), (2, .int (nI c)), (3, .int (nI i))] [] (WP c0 c1 c2 c3 c4 PB (upd (upd (upd PS 7 (nI r)) 8 (nI c)) 9 (nI (r * c))) rest u) := by
        intro m
        induction m with
        | zero =>
          intro i PB him hv
          have ei : r = i := by omega
          subst ei
          refine M.blk (is := [(.iload_n 3, 3, 0, 0), (.iload_n 1, 1, 0, 0)]) (pc1 := 57) (lo1 := [(0, .ref 105), (1, .int (nI r)), (2, .int (nI c)), (3, .int (nI r))]) (st1 := [.int (nI r), .int (nI r)]) (w1 := (WP c0 c1 c2 c3 c4 PB (upd (upd (upd PS 7 (nI r)) 8 (nI c)) 9 (nI (r * c))) rest u)) (by decide +kernel) rfl ?_
          refine M.icmp_ge (off := 31) (tgt := 88) (nx := 60) (by decide +kernel) (fun z57 => ?_) (fun z57 => by exfalso; exact z57 (nI_le (Nat.le_refl _) (by omega)))
          refine M.blk (is := [(.aload_n 0, 0, 0, 0), (.iconst 1, 0, 0, 1), (.iconst 0, 0, 0, 0), (.iconst 0, 0, 0, 0)]) (pc1 := 92) (lo1 := [(0, .ref 105), (1, .int (nI r)), (2, .int (nI c)), (3, .int (nI r))]) (st1 := [.int 0, .int 0, .int 1, .ref 105]) (w1 := (WP c0 c1 c2 c3 c4 PB (upd (upd (upd PS 7 (nI r)) 8 (nI c)) 9 (nI (r * c))) rest u)) (by decide +kernel) rfl ?_
          refine M.callV (as := [.int 1, .int 0, .int 0]) (st := []) (nx := 95) okX1_mix lkX1_55 (s_mix (r := r) (n := r * c) rfl rfl hr.2 ⟨by omega, h25⟩ 1 0 0) (by decide +kernel) (by decide) rfl (Nat.le_of_ble_eq_true rfl) rfl (by decide) ⟨by decide, by decide⟩ ?_
          intro r0 w1 hq
          rcases hq with ⟨_, _, hno⟩ | ⟨rfl, f, h, t, ⟨e1, e2, _, _, hf, _, hh, _⟩, PC, rfl, hk, hmix⟩
          · exact absurd ⟨1, 0, 0, rfl, rfl, rfl, Nat.le_refl _, by omega, Nat.gcd_one_right _, by omega, Nat.pow_pos (by decide)⟩ hno
          have ef : f = 1 := mix_f1 e1 (by omega)
          have eh : h = 0 := mix_f0 e2 (by omega)
          show g 0 0 95 [(0, .ref 105), (1, .int (nI r)), (2, .int (nI c)), (3, .int (nI r))] [.int 1] (WP c0 c1 c2 c3 c4 PC (upd (upd (upd (upd (upd (upd PS 7 (nI r)) 8 (nI c)) 9 (nI (r * c))) 10 1) 11 0) 12 0) rest u)
          exact M.retz (nx := 96) (by decide +kernel) (by decide) (Or.inr ⟨rfl, r, c, rfl, rfl, hr, hc, PC, _, rfl, ⟨rfl, rfl, rfl, rfl, rfl, rfl⟩, ⟨fun k hk1 => by rw [hk 0 (by decide), hk 2 (by decide), hk 3 (by decide), hk 4 (by decide)]; exact hv.1 k hk1, fun t ht => by rw [hk 1 (by decide)]; exact hv.2 t ht⟩, by rw [ef, eh] at hmix; exact hmix⟩)
        | succ m ih =>
          intro i PB him hv
          have inn : ∀ m2 j PB, j + m2 = c → LayInv r c (i * c + j) PB → g 0 0 63 [(0, .ref 105), (1, .int (nI r)), (2, .int (nI c)), (3, .int (nI i)), (4, .int (nI j))] [] (WP c0 c1 c2 c3 c4 PB (upd (upd (upd PS 7 (nI r)) 8 (nI c)) 9 (nI (r * c))) rest u) := by
            intro m2
            induction m2 with
            | zero =>
              intro j PB hjm hv
              have ej : c = j := by omega
              subst ej
              refine M.blk (is := [(.iload 4, 4, 0, 0), (.iload_n 2, 2, 0, 0)]) (pc1 := 66) (lo1 := [(0, .ref 105), (1, .int (nI r)), (2, .int (nI c)), (3, .int (nI i)), (4, .int (nI c))]) (st1 := [.int (nI c), .int (nI c)]) (w1 := (WP c0 c1 c2 c3 c4 PB (upd (upd (upd PS 7 (nI r)) 8 (nI c)) 9 (nI (r * c))) rest u)) (by decide +kernel) rfl ?_
              refine M.icmp_ge (off := 16) (tgt := 82) (nx := 69) (by decide +kernel) (fun z66 => ?_) (fun z66 => by exfalso; exact z66 (nI_le (Nat.le_refl _) (by omega)))
              refine M.blk (is := [(.iinc 3 1, 3, 0, 1), (.goto (-30), 55, 0, 0)]) (pc1 := 55) (lo1 := [(3, .int ((nI i) + 1)), (0, .ref 105), (1, .int (nI r)), (2, .int (nI c)), (4, .int (nI c))]) (st1 := []) (w1 := (WP c0 c1 c2 c3 c4 PB (upd (upd (upd PS 7 (nI r)) 8 (nI c)) 9 (nI (r * c))) rest u)) (by decide +kernel) rfl ?_
              refine M.lsub [1, 2, 3, 0] (lo1 := [(0, .ref 105), (1, .int (nI r)), (2, .int (nI c)), (3, .int ((nI i) + 1))]) rfl ?_
              rw [nI_1]
              exact ih (i + 1) PB (by omega) (by rw [Nat.succ_mul]; exact hv)
            | succ m2 ih2 =>
              intro j PB hjm hv
              refine M.blk (is := [(.iload 4, 4, 0, 0), (.iload_n 2, 2, 0, 0)]) (pc1 := 66) (lo1 := [(0, .ref 105), (1, .int (nI r)), (2, .int (nI c)), (3, .int (nI i)), (4, .int (nI j))]) (st1 := [.int (nI c), .int (nI j)]) (w1 := (WP c0 c1 c2 c3 c4 PB (upd (upd (upd PS 7 (nI r)) 8 (nI c)) 9 (nI (r * c))) rest u)) (by decide +kernel) rfl ?_
              refine M.icmp_ge (off := 16) (tgt := 82) (nx := 69) (by decide +kernel) (fun z66 => by exfalso; exact nI_ge (show j < c by omega) (by omega) z66) (fun z66 => ?_)
              refine M.blk (is := [(.aload_n 0, 0, 0, 0), (.iload_n 3, 3, 0, 0), (.iload 4, 4, 0, 0)]) (pc1 := 73) (lo1 := [(0, .ref 105), (1, .int (nI r)), (2, .int (nI c)), (3, .int (nI i)), (4, .int (nI j))]) (st1 := [.int (nI j), .int (nI i), .ref 105]) (w1 := (WP c0 c1 c2 c3 c4 PB (upd (upd (upd PS 7 (nI r)) 8 (nI c)) 9 (nI (r * c))) rest u)) (by decide +kernel) rfl ?_
              refine M.callV (as := [.int (nI i), .int (nI j)]) (st := []) (nx := 76) okX1_layCell lkX1_51 (s_layCell (r := r) (c := c) (i := i) (j := j) rfl rfl rfl h25 (by omega) (by omega) hv) (by decide +kernel) (by decide) rfl (Nat.le_of_ble_eq_true rfl) rfl (by decide) ⟨by decide, by decide⟩ ?_
              intro r0 w1 hq
              obtain ⟨rfl, PC, rfl, hv2, _, _⟩ := hq
              show g 0 0 76 [(0, .ref 105), (1, .int (nI r)), (2, .int (nI c)), (3, .int (nI i)), (4, .int (nI j))] [] (WP c0 c1 c2 c3 c4 PC (upd (upd (upd PS 7 (nI r)) 8 (nI c)) 9 (nI (r * c))) rest u)
              refine M.blk (is := [(.iinc 4 1, 4, 0, 1), (.goto (-16), 63, 0, 0)]) (pc1 := 63) (lo1 := [(4, .int ((nI j) + 1)), (0, .ref 105), (1, .int (nI r)), (2, .int (nI c)), (3, .int (nI i))]) (st1 := []) (w1 := (WP c0 c1 c2 c3 c4 PC (upd (upd (upd PS 7 (nI r)) 8 (nI c)) 9 (nI (r * c))) rest u)) (by decide +kernel) rfl ?_
              refine M.lsub [1, 2, 3, 4, 0] (lo1 := [(0, .ref 105), (1, .int (nI r)), (2, .int (nI c)), (3, .int (nI i)), (4, .int ((nI j) + 1))]) rfl ?_
              rw [nI_1]
              exact ih2 (j + 1) PC (by omega) hv2
          refine M.blk (is := [(.iload_n 3, 3, 0, 0), (.iload_n 1, 1, 0, 0)]) (pc1 := 57) (lo1 := [(0, .ref 105), (1, .int (nI r)), (2, .int (nI c)), (3, .int (nI i))]) (st1 := [.int (nI r), .int (nI i)]) (w1 := (WP c0 c1 c2 c3 c4 PB (upd (upd (upd PS 7 (nI r)) 8 (nI c)) 9 (nI (r * c))) rest u)) (by decide +kernel) rfl ?_
          refine M.icmp_ge (off := 31) (tgt := 88) (nx := 60) (by decide +kernel) (fun z57 => by exfalso; exact nI_ge (show i < r by omega) (by omega) z57) (fun z57 => ?_)
          refine M.blk (is := [(.iconst 0, 0, 0, 0), (.istore 4, 4, 0, 0)]) (pc1 := 63) (lo1 := [(4, .int 0), (0, .ref 105), (1, .int (nI r)), (2, .int (nI c)), (3, .int (nI i))]) (st1 := []) (w1 := (WP c0 c1 c2 c3 c4 PB (upd (upd (upd PS 7 (nI r)) 8 (nI c)) 9 (nI (r * c))) rest u)) (by decide +kernel) rfl ?_
          refine M.lsub [1, 2, 3, 4, 0] (lo1 := [(0, .ref 105), (1, .int (nI r)), (2, .int (nI c)), (3, .int (nI i)), (4, .int 0)]) rfl ?_
          exact inn c 0 PB (by omega) hv
      have lo1 : ∀ m k PB, k + m = 5 → (∀ t, t < k → PB 1 t = 0) → g 0 0 35 [(0, .ref 105), (1, .int (nI r)), (2, .int (nI c)), (3, .int (nI k))] [] (WP c0 c1 c2 c3 c4 PB (upd (upd (upd PS 7 (nI r)) 8 (nI c)) 9 (nI (r * c))) rest u) := by
        intro m
        induction m with
        | zero =>
          intro k PB hkm hv
          have ek : k = 5 := by omega
          subst ek
          refine M.blk (is := [(.iload_n 3, 3, 0, 0), (.iconst 5, 0, 0, 5)]) (pc1 := 37) (lo1 := [(0, .ref 105), (1, .int (nI r)), (2, .int (nI c)), (3, .int (nI 5))]) (st1 := [.int 5, .int (nI 5)]) (w1 := (WP c0 c1 c2 c3 c4 PB (upd (upd (upd PS 7 (nI r)) 8 (nI c)) 9 (nI (r * c))) rest u)) (by decide +kernel) rfl ?_
          refine M.icmp_ge (off := 16) (tgt := 53) (nx := 40) (by decide +kernel) (fun z37 => ?_) (fun z37 => by exfalso; exact z37 (by decide))
          refine M.blk (is := [(.iconst 0, 0, 0, 0), (.istore_n 3, 3, 0, 0)]) (pc1 := 55) (lo1 := [(3, .int 0), (0, .ref 105), (1, .int (nI r)), (2, .int (nI c))]) (st1 := []) (w1 := (WP c0 c1 c2 c3 c4 PB (upd (upd (upd PS 7 (nI r)) 8 (nI c)) 9 (nI (r * c))) rest u)) (by decide +kernel) rfl ?_
          refine M.lsub [1, 2, 3, 0] (lo1 := [(0, .ref 105), (1, .int (nI r)), (2, .int (nI c)), (3, .int 0)]) rfl ?_
          exact lo2 r 0 PB (by omega) (by rw [Nat.zero_mul]; exact ⟨fun k hk => absurd hk (Nat.not_lt_zero _), fun t ht => by rw [hv t ht]; rfl⟩)
        | succ m ih =>
          intro k PB hkm hv
          refine M.blk (is := [(.iload_n 3, 3, 0, 0), (.iconst 5, 0, 0, 5)]) (pc1 := 37) (lo1 := [(0, .ref 105), (1, .int (nI r)), (2, .int (nI c)), (3, .int (nI k))]) (st1 := [.int 5, .int (nI k)]) (w1 := (WP c0 c1 c2 c3 c4 PB (upd (upd (upd PS 7 (nI r)) 8 (nI c)) 9 (nI (r * c))) rest u)) (by decide +kernel) rfl ?_
          refine M.icmp_ge (off := 16) (tgt := 53) (nx := 40) (by decide +kernel) (fun z37 => by exfalso; exact nI_ge (a := k) (b := 5) (by omega) (by decide) z37) (fun z37 => ?_)
          refine M.blk (is := [(.aload_n 0, 0, 0, 0), (.getfield 15, 1, 1, 0), (.iload_n 3, 3, 0, 0), (.iconst 0, 0, 0, 0)]) (pc1 := 46) (lo1 := [(0, .ref 105), (1, .int (nI r)), (2, .int (nI c)), (3, .int (nI k))]) (st1 := [.int 0, .int (nI k), .ref 107]) (w1 := (WP c0 c1 c2 c3 c4 PB (upd (upd (upd PS 7 (nI r)) 8 (nI c)) 9 (nI (r * c))) rest u)) (by decide +kernel) rfl ?_
          refine M.ast (n := 5) (f := PB 1) (j := k) (nx := 47) (by decide +kernel) rfl rfl (by omega) (by decide) ?_
          show g 0 0 47 [(0, .ref 105), (1, .int (nI r)), (2, .int (nI c)), (3, .int (nI k))] [] (WP c0 c1 c2 c3 c4 (va_up PB 1 (upd (PB 1) k 0)) (upd (upd (upd PS 7 (nI r)) 8 (nI c)) 9 (nI (r * c))) rest u)
          refine M.blk (is := [(.iinc 3 1, 3, 0, 1), (.goto (-15), 35, 0, 0)]) (pc1 := 35) (lo1 := [(3, .int ((nI k) + 1)), (0, .ref 105), (1, .int (nI r)), (2, .int (nI c))]) (st1 := []) (w1 := (WP c0 c1 c2 c3 c4 (va_up PB 1 (upd (PB 1) k 0)) (upd (upd (upd PS 7 (nI r)) 8 (nI c)) 9 (nI (r * c))) rest u)) (by decide +kernel) rfl ?_
          refine M.lsub [1, 2, 3, 0] (lo1 := [(0, .ref 105), (1, .int (nI r)), (2, .int (nI c)), (3, .int ((nI k) + 1))]) rfl ?_
          rw [nI_1]
          refine ih (k + 1) _ (by omega) (fun t ht => ?_)
          show upd (PB 1) k 0 t = 0
          by_cases h0 : t = k
          · rw [h0, pk_us]
          · rw [pk_un h0]; exact hv t (by omega)
      refine M.blk (is := [(.iconst 0, 0, 0, 0), (.istore_n 3, 3, 0, 0)]) (pc1 := 35) (lo1 := [(3, .int 0), (0, .ref 105), (1, .int (nI r)), (2, .int (nI c))]) (st1 := []) (w1 := (WP c0 c1 c2 c3 c4 PA (upd (upd (upd PS 7 (nI r)) 8 (nI c)) 9 (nI (r * c))) rest u)) (by decide +kernel) rfl ?_
      refine M.lsub [1, 2, 3, 0] (lo1 := [(0, .ref 105), (1, .int (nI r)), (2, .int (nI c)), (3, .int 0)]) rfl ?_
      exact lo1 5 0 PA (by omega) (fun t ht => absurd ht (Nat.not_lt_zero _))
    · refine M.blk (is := [(.iconst 0, 0, 0, 0)]) (pc1 := 15) (lo1 := [(0, .ref 105), (1, .int x), (2, .int y)]) (st1 := [.int 0]) (w1 := (WP c0 c1 c2 c3 c4 PA PS rest u)) (by decide +kernel) rfl ?_
      exact M.retz (nx := 16) (by decide +kernel) (by decide) (Or.inl ⟨rfl, rfl, (fun ⟨r, c, e1, e2, a1, a2⟩ => sideF_no z11 c e2 a2)⟩)
end MIX
end
section
section TEXT
variable {pgC : Nat → Int32} {pgL : Int32} {stC : Nat → Int32} {stL : Int32} {PA : Nat → Nat → Int32} {PS : Nat → Int32} {BA : Nat → Nat → Int32} {BS : Nat → Int32} {u : List Cl}
theorem x_get1 (x : Int32) : CC 0 mX2_get 0 0 [.ref 101, .int x] (WX pgC pgL stC stL PA PS BA BS u) (Rt (sGet pgC pgL x) (WX pgC pgL stC stL PA PS BA BS u)) := s_get1 x
theorem x_get3 (x : Int32) : CC 0 mX2_get 0 0 [.ref 103, .int x] (WX pgC pgL stC stL PA PS BA BS u) (Rt (sGet stC stL x) (WX pgC pgL stC stL PA PS BA BS u)) := s_get3 x
theorem x_clear1 : CC 0 mX2_clear 0 0 [.ref 101] (WX pgC pgL stC stL PA PS BA BS u) (Rv (WX pgC 0 stC stL PA PS BA BS u)) := s_clear1
theorem x_clear3 : CC 0 mX2_clear 0 0 [.ref 103] (WX pgC pgL stC stL PA PS BA BS u) (Rv (WX pgC pgL stC 0 PA PS BA BS u)) := s_clear3
theorem x_add1 {n : Nat} (hn : n < 64) (x : Int32) : CC 0 mX2_add 0 0 [.ref 101, .int x] (WX pgC (nI n) stC stL PA PS BA BS u) (Rv (WX (upd pgC n x) (nI (n + 1)) stC stL PA PS BA BS u)) := s_add1 hn x
theorem x_add3 {n : Nat} (hn : n < 64) (x : Int32) : CC 0 mX2_add 0 0 [.ref 103, .int x] (WX pgC pgL stC (nI n) PA PS BA BS u) (Rv (WX pgC pgL (upd stC n x) (nI (n + 1)) PA PS BA BS u)) := s_add3 hn x
theorem sGet_nI {C : Nat → Int32} {n k : Nat} (hn : n ≤ 64) (hk : k < n) : sGet C (nI n) (nI k) = C k := by
  unfold sGet
  rw [if_neg (nI_pos (by omega)), if_neg (nI_ge hk (by omega)), if_neg (show ¬ (64 : Int32) ≤ nI k from nI_ge (b := 64) (by omega) (by decide)), nI_clamp (by omega)]
def sgnB (x : Int32) : Bool := decide (x = 122) || (decide (x = 111) || (decide (x = 114) || (decide (48 ≤ x) && decide (x ≤ 52))))
def figF (x : Int32) : Int32 := if x < 48 then 0 else if 53 ≤ x then 0 else 1
def flt (C : Nat → Int32) (m k : Nat) : Nat := match m with
  | 0 => k
  | m + 1 => if sgnB (C k) = true then flt C m (k + 1) else k
theorem flt_succ (C : Nat → Int32) (m k : Nat) : flt C (m + 1) k = if sgnB (C k) = true then flt C m (k + 1) else k := rfl
theorem flt_congr {C D : Nat → Int32} : ∀ (m k n : Nat), k + m = n → (∀ j, j < n → C j = D j) → flt C m k = flt D m k
  | 0, _, _, _, _ => rfl
  | m + 1, k, n, h, hc => by
    unfold flt
    rw [hc k (by omega), flt_congr m (k + 1) n (by omega) hc]
theorem flt_ge (C : Nat → Int32) : ∀ m k, k ≤ flt C m k ∧ flt C m k ≤ k + m
  | 0, k => ⟨Nat.le_refl _, Nat.le_refl _⟩
  | m + 1, k => by
    unfold flt
    have h := flt_ge C m (k + 1)
    split <;> omega
theorem flt_all {C : Nat → Int32} : ∀ (m k : Nat), flt C m k = k + m → ∀ j, k ≤ j → j < k + m → sgnB (C j) = true
  | 0, k, _, j, h1, h2 => absurd h2 (by omega)
  | m + 1, k, h, j, h1, h2 => by
    unfold flt at h
    split at h
    · rename_i hs
      by_cases hj : j = k
      · rw [hj]; exact hs
      · exact flt_all m (k + 1) (by omega) j (by omega) (by omega)
    · omega
theorem i32_52 (x : Int32) : x ≤ 52 ↔ ¬ 53 ≤ x := by
  rw [Int32.le_iff_toInt_le, Int32.le_iff_toInt_le]
  have h1 : (52 : Int32).toInt = 52 := by decide
  have h2 : (53 : Int32).toInt = 53 := by decide
  omega
theorem i32_48 (x : Int32) : 48 ≤ x ↔ ¬ x < 48 := by
  rw [Int32.le_iff_toInt_le, Int32.lt_iff_toInt_lt]
  omega
theorem sgnB_fig {x : Int32} (h1 : ¬ x = 122) (h2 : ¬ x = 111) (h3 : ¬ x = 114) : b2i (sgnB x) = figF x := by
  unfold sgnB figF
  rw [decide_eq_false h1, decide_eq_false h2, decide_eq_false h3]
  by_cases h4 : x < 48
  · rw [if_pos h4, decide_eq_false (fun h => (i32_48 x).mp h h4)]; rfl
  · rw [if_neg h4, decide_eq_true ((i32_48 x).mpr h4)]
    by_cases h5 : 53 ≤ x
    · rw [if_pos h5, decide_eq_false (fun h => (i32_52 x).mp h h5)]; rfl
    · rw [if_neg h5, decide_eq_true ((i32_52 x).mpr h5)]; rfl
theorem figF_1 {x : Int32} (h : ¬ figF x = 0) : figF x = 1 := by
  unfold figF at h ⊢
  split
  · rename_i h1; rw [if_pos h1] at h; exact absurd rfl h
  · rename_i h1
    rw [if_neg h1] at h
    split
    · rename_i h2; rw [if_pos h2] at h; exact absurd rfl h
    · rfl
theorem s_isFigure (w0 : Wd) (x : Int32) : CC 0 mX3_isFigure 0 0 [.int x] w0 (Rt (figF x) w0) := by
  refine CC.of okX3_isFigure.1 (Nat.le_of_ble_eq_true rfl) (fun g M => ?_)
  show g 0 0 0 [(0, .int x)] [] w0
  refine M.blk (is := [(.iload_n 0, 0, 0, 0), (.bipush 48, 0, 0, 48)]) (pc1 := 3) (lo1 := [(0, .int x)]) (st1 := [.int 48, .int x]) (w1 := w0) (by decide +kernel) rfl ?_
  refine M.icmp_lt (off := 13) (tgt := 16) (nx := 6) (by decide +kernel) (fun z3 => ?_) (fun z3 => ?_)
  · refine M.blk (is := [(.iconst 0, 0, 0, 0)]) (pc1 := 17) (lo1 := [(0, .int x)]) (st1 := [.int 0]) (w1 := w0) (by decide +kernel) rfl ?_
    exact M.retz (nx := 18) (by decide +kernel) (by decide) ⟨by simp [figF, *], rfl⟩
  · refine M.blk (is := [(.iload_n 0, 0, 0, 0), (.bipush 53, 0, 0, 53)]) (pc1 := 9) (lo1 := [(0, .int x)]) (st1 := [.int 53, .int x]) (w1 := w0) (by decide +kernel) rfl ?_
    refine M.icmp_ge (off := 7) (tgt := 16) (nx := 12) (by decide +kernel) (fun z9 => ?_) (fun z9 => ?_)
    · refine M.blk (is := [(.iconst 0, 0, 0, 0)]) (pc1 := 17) (lo1 := [(0, .int x)]) (st1 := [.int 0]) (w1 := w0) (by decide +kernel) rfl ?_
      exact M.retz (nx := 18) (by decide +kernel) (by decide) ⟨by simp [figF, *], rfl⟩
    · refine M.blk (is := [(.iconst 1, 0, 0, 1), (.goto 4, 17, 0, 0)]) (pc1 := 17) (lo1 := [(0, .int x)]) (st1 := [.int 1]) (w1 := w0) (by decide +kernel) rfl ?_
      exact M.retz (nx := 18) (by decide +kernel) (by decide) ⟨by simp [figF, *], rfl⟩
theorem s_isSign (w0 : Wd) (x : Int32) : CC 1 mX3_isSign 0 0 [.int x] w0 (Rt (b2i (sgnB x)) w0) := by
  refine CC.of okX3_isSign.1 (Nat.le_of_ble_eq_true rfl) (fun g M => ?_)
  show g 0 0 0 [(0, .int x)] [] w0
  refine M.blk (is := [(.iload_n 0, 0, 0, 0), (.bipush 122, 0, 0, 122)]) (pc1 := 3) (lo1 := [(0, .int x)]) (st1 := [.int 122, .int x]) (w1 := w0) (by decide +kernel) rfl ?_
  refine M.icmp_eq (off := 22) (tgt := 25) (nx := 6) (by decide +kernel) (fun z3 => ?_) (fun z3 => ?_)
  · refine M.blk (is := [(.iconst 1, 0, 0, 1), (.goto 4, 30, 0, 0)]) (pc1 := 30) (lo1 := [(0, .int x)]) (st1 := [.int 1]) (w1 := w0) (by decide +kernel) rfl ?_
    exact M.retz (nx := 31) (by decide +kernel) (by decide) ⟨by simp [sgnB, b2i, *], rfl⟩
  · refine M.blk (is := [(.iload_n 0, 0, 0, 0), (.bipush 111, 0, 0, 111)]) (pc1 := 9) (lo1 := [(0, .int x)]) (st1 := [.int 111, .int x]) (w1 := w0) (by decide +kernel) rfl ?_
    refine M.icmp_eq (off := 16) (tgt := 25) (nx := 12) (by decide +kernel) (fun z9 => ?_) (fun z9 => ?_)
    · refine M.blk (is := [(.iconst 1, 0, 0, 1), (.goto 4, 30, 0, 0)]) (pc1 := 30) (lo1 := [(0, .int x)]) (st1 := [.int 1]) (w1 := w0) (by decide +kernel) rfl ?_
      exact M.retz (nx := 31) (by decide +kernel) (by decide) ⟨by simp [sgnB, b2i, *], rfl⟩
    · refine M.blk (is := [(.iload_n 0, 0, 0, 0), (.bipush 114, 0, 0, 114)]) (pc1 := 15) (lo1 := [(0, .int x)]) (st1 := [.int 114, .int x]) (w1 := w0) (by decide +kernel) rfl ?_
      refine M.icmp_eq (off := 10) (tgt := 25) (nx := 18) (by decide +kernel) (fun z15 => ?_) (fun z15 => ?_)
      · refine M.blk (is := [(.iconst 1, 0, 0, 1), (.goto 4, 30, 0, 0)]) (pc1 := 30) (lo1 := [(0, .int x)]) (st1 := [.int 1]) (w1 := w0) (by decide +kernel) rfl ?_
        exact M.retz (nx := 31) (by decide +kernel) (by decide) ⟨by simp [sgnB, b2i, *], rfl⟩
      · refine M.blk (is := [(.iload_n 0, 0, 0, 0)]) (pc1 := 19) (lo1 := [(0, .int x)]) (st1 := [.int x]) (w1 := w0) (by decide +kernel) rfl ?_
        refine M.callSi (as := [.int x]) (st := []) (nx := 22) okX3_isFigure lkX3_185 (s_isFigure w0 x) (by decide +kernel) (by decide) rfl (Nat.le_of_ble_eq_true rfl) ?_
        refine M.if_eq (off := 7) (tgt := 29) (nx := 25) (by decide +kernel) (fun z22 => ?_) (fun z22 => ?_)
        · refine M.blk (is := [(.iconst 0, 0, 0, 0)]) (pc1 := 30) (lo1 := [(0, .int x)]) (st1 := [.int 0]) (w1 := w0) (by decide +kernel) rfl ?_
          exact M.retz (nx := 31) (by decide +kernel) (by decide) ⟨by rw [sgnB_fig z3 z9 z15, z22], rfl⟩
        · refine M.blk (is := [(.iconst 1, 0, 0, 1), (.goto 4, 30, 0, 0)]) (pc1 := 30) (lo1 := [(0, .int x)]) (st1 := [.int 1]) (w1 := w0) (by decide +kernel) rfl ?_
          exact M.retz (nx := 31) (by decide +kernel) (by decide) ⟨by rw [sgnB_fig z3 z9 z15, figF_1 z22], rfl⟩
theorem x_forget : CC 0 mX0_forget 0 0 [.ref 113] (WX pgC pgL stC stL PA PS BA BS u) (Rv (WX pgC pgL stC stL PA PS BA (upd BS 5 0) u)) := by
  refine CC.of okX0_forget.1 (Nat.le_of_ble_eq_true rfl) (fun g M => ?_)
  show g 0 0 0 [(0, .ref 113)] [] (WX pgC pgL stC stL PA PS BA BS u)
  refine M.blk (is := [(.aload_n 0, 0, 0, 0), (.iconst 0, 0, 0, 0)]) (pc1 := 2) (lo1 := [(0, .ref 113)]) (st1 := [.int 0, .ref 113]) (w1 := (WX pgC pgL stC stL PA PS BA BS u)) (by decide +kernel) rfl ?_
  refine M.putz (idx := 27) (a := 0) (b := 5) (nx := 5) (by decide +kernel) rfl (Nat.le_of_ble_eq_true rfl) (by decide) ?_
  show g 0 0 5 [(0, .ref 113)] [] (WX pgC pgL stC stL PA PS BA (upd BS 5 0) u)
  exact M.retv (nx := 6) (by decide +kernel) ⟨rfl, rfl⟩
theorem i32_nle {x y : Int32} (h : ¬ x ≤ y) : y < x := by
  rw [Int32.le_iff_toInt_le] at h
  rw [Int32.lt_iff_toInt_lt]
  omega
theorem i32_out {x : Int32} (h : ¬ x < 32) (h2 : x ≤ 126) : ¬ (x < 32 ∨ 126 < x) := fun e => e.elim h (fun e => i32_nlt e h2)
theorem l60 {pl : Nat} (hp : pl ≤ 60) (h : ¬ nI pl < 60) : pl = 60 := by
  have h1 : ¬ pl < 60 := fun e => h (nI_lt (b := 60) e (by decide))
  omega
theorem l60b {pl : Nat} (hp : pl ≤ 60) (h : nI pl < 60) : pl < 60 := (nI_ltI (b := 60) (by omega) (by decide)).mp h
theorem x_letter {pl : Nat} (hp : pl ≤ 60) (x : Int32) : CC 1 mX3_letter 0 0 [.ref 100, .int x] (WX pgC (nI pl) stC stL PA PS BA BS u) (fun r w1 => ((x < 32 ∨ 126 < x) ∧ r = some (.int (-1002)) ∧ w1 = (WX pgC (nI pl) stC stL PA PS BA BS u)) ∨ (¬ (x < 32 ∨ 126 < x) ∧ pl = 60 ∧ r = some (.int (-1004)) ∧ w1 = (WX pgC (nI pl) stC stL PA PS BA BS u)) ∨ (¬ (x < 32 ∨ 126 < x) ∧ pl < 60 ∧ r = some (.int (nI (pl + 1))) ∧ w1 = (WX (upd pgC pl x) (nI (pl + 1)) stC stL PA PS BA BS u))) := by
  refine CC.of okX3_letter.1 (Nat.le_of_ble_eq_true rfl) (fun g M => ?_)
  show g 0 0 0 [(0, .ref 100), (1, .int x)] [] (WX pgC (nI pl) stC stL PA PS BA BS u)
  refine M.blk (is := [(.iload_n 1, 1, 0, 0), (.bipush 32, 0, 0, 32)]) (pc1 := 3) (lo1 := [(0, .ref 100), (1, .int x)]) (st1 := [.int 32, .int x]) (w1 := (WX pgC (nI pl) stC stL PA PS BA BS u)) (by decide +kernel) rfl ?_
  refine M.icmp_lt (off := 9) (tgt := 12) (nx := 6) (by decide +kernel) (fun z3 => ?_) (fun z3 => ?_)
  · refine M.blk (is := [(.sipush (-1002), 0, 0, (-1002))]) (pc1 := 15) (lo1 := [(0, .ref 100), (1, .int x)]) (st1 := [.int (-1002)]) (w1 := (WX pgC (nI pl) stC stL PA PS BA BS u)) (by decide +kernel) rfl ?_
    exact M.reti (nx := 16) (by decide +kernel) (Or.inl ⟨Or.inl z3, rfl, rfl⟩)
  · refine M.blk (is := [(.iload_n 1, 1, 0, 0), (.bipush 126, 0, 0, 126)]) (pc1 := 9) (lo1 := [(0, .ref 100), (1, .int x)]) (st1 := [.int 126, .int x]) (w1 := (WX pgC (nI pl) stC stL PA PS BA BS u)) (by decide +kernel) rfl ?_
    refine M.icmp_le (off := 7) (tgt := 16) (nx := 12) (by decide +kernel) (fun z9 => ?_) (fun z9 => ?_)
    · refine M.blk (is := [(.aload_n 0, 0, 0, 0), (.getfield 10, 3, 0, 0), (.getfield 33, 2, 1, 0), (.bipush 60, 0, 0, 60)]) (pc1 := 25) (lo1 := [(0, .ref 100), (1, .int x)]) (st1 := [.int 60, .int (nI pl)]) (w1 := (WX pgC (nI pl) stC stL PA PS BA BS u)) (by decide +kernel) rfl ?_
      refine M.icmp_lt (off := 7) (tgt := 32) (nx := 28) (by decide +kernel) (fun z25 => ?_) (fun z25 => ?_)
      · have hl60 := l60b hp z25
        refine M.blk (is := [(.aload_n 0, 0, 0, 0), (.getfield 10, 3, 0, 0), (.iload_n 1, 1, 0, 0)]) (pc1 := 37) (lo1 := [(0, .ref 100), (1, .int x)]) (st1 := [.int x, .ref 101]) (w1 := (WX pgC (nI pl) stC stL PA PS BA BS u)) (by decide +kernel) rfl ?_
        refine M.callVv (as := [.int x]) (st := []) (nx := 40) okX2_add lkX3_37 (x_add1 (n := pl) (by omega) x) (by decide +kernel) (by decide) rfl (Nat.le_of_ble_eq_true rfl) rfl (by decide) ?_
        show g 0 0 40 [(0, .ref 100), (1, .int x)] [] (WX (upd pgC pl x) (nI (pl + 1)) stC stL PA PS BA BS u)
        refine M.blk (is := [(.aload_n 0, 0, 0, 0), (.getfield 10, 3, 0, 0), (.getfield 33, 2, 1, 0)]) (pc1 := 47) (lo1 := [(0, .ref 100), (1, .int x)]) (st1 := [.int (nI (pl + 1))]) (w1 := (WX (upd pgC pl x) (nI (pl + 1)) stC stL PA PS BA BS u)) (by decide +kernel) rfl ?_
        exact M.reti (nx := 48) (by decide +kernel) (Or.inr (Or.inr ⟨i32_out z3 z9, by omega, rfl, rfl⟩))
      · refine M.blk (is := [(.sipush (-1004), 0, 0, (-1004))]) (pc1 := 31) (lo1 := [(0, .ref 100), (1, .int x)]) (st1 := [.int (-1004)]) (w1 := (WX pgC (nI pl) stC stL PA PS BA BS u)) (by decide +kernel) rfl ?_
        exact M.reti (nx := 32) (by decide +kernel) (Or.inr (Or.inl ⟨i32_out z3 z9, l60 hp z25, rfl, rfl⟩))
    · refine M.blk (is := [(.sipush (-1002), 0, 0, (-1002))]) (pc1 := 15) (lo1 := [(0, .ref 100), (1, .int x)]) (st1 := [.int (-1002)]) (w1 := (WX pgC (nI pl) stC stL PA PS BA BS u)) (by decide +kernel) rfl ?_
      exact M.reti (nx := 16) (by decide +kernel) (Or.inl ⟨Or.inr (i32_nle z9), rfl, rfl⟩)
theorem x_blank : CC 1 mX3_blank 0 0 [.ref 100] (WX pgC pgL stC stL PA PS BA BS u) (Rt pgL (WX pgC 0 stC stL PA PS BA BS u)) := by
  refine CC.of okX3_blank.1 (Nat.le_of_ble_eq_true rfl) (fun g M => ?_)
  show g 0 0 0 [(0, .ref 100)] [] (WX pgC pgL stC stL PA PS BA BS u)
  refine M.blk (is := [(.aload_n 0, 0, 0, 0), (.getfield 10, 3, 0, 0), (.getfield 33, 2, 1, 0), (.istore_n 1, 1, 0, 0), (.aload_n 0, 0, 0, 0), (.getfield 10, 3, 0, 0)]) (pc1 := 12) (lo1 := [(1, .int pgL), (0, .ref 100)]) (st1 := [.ref 101]) (w1 := (WX pgC pgL stC stL PA PS BA BS u)) (by decide +kernel) rfl ?_
  refine M.callVv (as := []) (st := []) (nx := 15) okX2_clear lkX3_41 x_clear1 (by decide +kernel) (by decide) rfl (Nat.le_of_ble_eq_true rfl) rfl (by decide) ?_
  show g 0 0 15 [(1, .int pgL), (0, .ref 100)] [] (WX pgC 0 stC stL PA PS BA BS u)
  refine M.blk (is := [(.iload_n 1, 1, 0, 0)]) (pc1 := 16) (lo1 := [(1, .int pgL), (0, .ref 100)]) (st1 := [.int pgL]) (w1 := (WX pgC 0 stC stL PA PS BA BS u)) (by decide +kernel) rfl ?_
  exact M.reti (nx := 17) (by decide +kernel) ⟨rfl, rfl⟩
theorem b2i_t {b : Bool} (h : ¬ b2i b = 0) : b = true := by cases b with | true => rfl | false => exact absurd rfl h
theorem b2i_f {b : Bool} (h : b2i b = 0) : ¬ b = true := by cases b with | true => exact absurd h (by decide) | false => exact fun h => by cases h
theorem x_fault {pl : Nat} (hp : pl ≤ 60) : CC 2 mX3_fault 0 0 [.ref 100] (WX pgC (nI pl) stC stL PA PS BA BS u) (Rt (nI (flt pgC pl 0)) (WX pgC (nI pl) stC stL PA PS BA BS u)) := by
  refine CC.of okX3_fault.1 (Nat.le_of_ble_eq_true rfl) (fun g M => ?_)
  have lp : ∀ m k, k + m = pl → flt pgC pl 0 = flt pgC m k → g 0 0 2 [(0, .ref 100), (1, .int (nI k))] [] (WX pgC (nI pl) stC stL PA PS BA BS u) := by
    intro m
    induction m with
    | zero =>
      intro k hk he
      have ek : pl = k := by omega
      subst ek
      refine M.blk (is := [(.iload_n 1, 1, 0, 0), (.aload_n 0, 0, 0, 0), (.getfield 10, 3, 0, 0), (.getfield 33, 2, 1, 0)]) (pc1 := 10) (lo1 := [(0, .ref 100), (1, .int (nI pl))]) (st1 := [.int (nI pl), .int (nI pl)]) (w1 := (WX pgC (nI pl) stC stL PA PS BA BS u)) (by decide +kernel) rfl ?_
      refine M.icmp_ge (off := 25) (tgt := 35) (nx := 13) (by decide +kernel) (fun z10 => ?_) (fun z10 => by exfalso; exact z10 (nI_le (Nat.le_refl _) (by omega)))
      refine M.blk (is := [(.aload_n 0, 0, 0, 0), (.getfield 10, 3, 0, 0), (.getfield 33, 2, 1, 0)]) (pc1 := 42) (lo1 := [(0, .ref 100), (1, .int (nI pl))]) (st1 := [.int (nI pl)]) (w1 := (WX pgC (nI pl) stC stL PA PS BA BS u)) (by decide +kernel) rfl ?_
      exact M.reti (nx := 43) (by decide +kernel) ⟨by rw [he]; rfl, rfl⟩

    | succ m ih =>
      intro k hk he
      rw [flt_succ] at he
      refine M.blk (is := [(.iload_n 1, 1, 0, 0), (.aload_n 0, 0, 0, 0), (.getfield 10, 3, 0, 0), (.getfield 33, 2, 1, 0)]) (pc1 := 10) (lo1 := [(0, .ref 100), (1, .int (nI k))]) (st1 := [.int (nI pl), .int (nI k)]) (w1 := (WX pgC (nI pl) stC stL PA PS BA BS u)) (by decide +kernel) rfl ?_
      refine M.icmp_ge (off := 25) (tgt := 35) (nx := 13) (by decide +kernel) (fun z10 => by exfalso; exact nI_ge (show k < pl by omega) (by omega) z10) (fun z10 => ?_)
      refine M.blk (is := [(.aload_n 0, 0, 0, 0), (.getfield 10, 3, 0, 0), (.iload_n 1, 1, 0, 0)]) (pc1 := 18) (lo1 := [(0, .ref 100), (1, .int (nI k))]) (st1 := [.int (nI k), .ref 101]) (w1 := (WX pgC (nI pl) stC stL PA PS BA BS u)) (by decide +kernel) rfl ?_
      refine M.callVi (as := [.int (nI k)]) (st := []) (nx := 21) okX2_get lkX3_44 (x_get1 (nI k)) (by decide +kernel) (by decide) rfl (Nat.le_of_ble_eq_true rfl) rfl (by decide) ?_
      rw [sGet_nI (by omega) (show k < pl by omega)]
      refine M.callSi (as := [.int (pgC k)]) (st := []) (nx := 24) okX3_isSign lkX3_48 (s_isSign (WX pgC (nI pl) stC stL PA PS BA BS u) (pgC k)) (by decide +kernel) (by decide) rfl (Nat.le_of_ble_eq_true rfl) ?_
      refine M.if_ne (off := 5) (tgt := 29) (nx := 27) (by decide +kernel) (fun z24 => ?_) (fun z24 => ?_)
      · refine M.blk (is := [(.iinc 1 1, 1, 0, 1), (.goto (-30), 2, 0, 0)]) (pc1 := 2) (lo1 := [(1, .int ((nI k) + 1)), (0, .ref 100)]) (st1 := []) (w1 := (WX pgC (nI pl) stC stL PA PS BA BS u)) (by decide +kernel) rfl ?_
        refine M.lsub [1, 0] (lo1 := [(0, .ref 100), (1, .int ((nI k) + 1))]) rfl ?_
        rw [nI_1]
        exact ih (k + 1) (by omega) (by rw [he, if_pos (b2i_t z24)])
      · refine M.blk (is := [(.iload_n 1, 1, 0, 0)]) (pc1 := 28) (lo1 := [(0, .ref 100), (1, .int (nI k))]) (st1 := [.int (nI k)]) (w1 := (WX pgC (nI pl) stC stL PA PS BA BS u)) (by decide +kernel) rfl ?_
        exact M.reti (nx := 29) (by decide +kernel) ⟨by rw [he, if_neg (b2i_f z24)], rfl⟩
  show g 0 0 0 [(0, .ref 100)] [] (WX pgC (nI pl) stC stL PA PS BA BS u)
  refine M.blk (is := [(.iconst 0, 0, 0, 0), (.istore_n 1, 1, 0, 0)]) (pc1 := 2) (lo1 := [(1, .int 0), (0, .ref 100)]) (st1 := []) (w1 := (WX pgC (nI pl) stC stL PA PS BA BS u)) (by decide +kernel) rfl ?_
  refine M.lsub [1, 0] (lo1 := [(0, .ref 100), (1, .int 0)]) rfl ?_
  exact lp pl 0 (by omega) rfl
theorem x_step {sl : Nat} (hs : sl ≤ 64) (x : Int32) : CC 1 mX3_step 0 0 [.ref 100, .int x] (WX pgC pgL stC (nI sl) PA PS BA BS u) (fun r w1 => w1 = (WX pgC pgL stC (nI sl) PA PS BA BS u) ∧ ((∃ k, k < sl ∧ x = nI k ∧ r = some (.int (stC k))) ∨ ((∀ k, k < sl → ¬ x = nI k) ∧ r = some (.int (-1001))))) := by
  refine CC.of okX3_step.1 (Nat.le_of_ble_eq_true rfl) (fun g M => ?_)
  show g 0 0 0 [(0, .ref 100), (1, .int x)] [] (WX pgC pgL stC (nI sl) PA PS BA BS u)
  refine M.blk (is := [(.iload_n 1, 1, 0, 0)]) (pc1 := 1) (lo1 := [(0, .ref 100), (1, .int x)]) (st1 := [.int x]) (w1 := (WX pgC pgL stC (nI sl) PA PS BA BS u)) (by decide +kernel) rfl ?_
  refine M.if_lt (off := 14) (tgt := 15) (nx := 4) (by decide +kernel) (fun z1 => ?_) (fun z1 => ?_)
  · refine M.blk (is := [(.sipush (-1001), 0, 0, (-1001)), (.goto 11, 29, 0, 0)]) (pc1 := 29) (lo1 := [(0, .ref 100), (1, .int x)]) (st1 := [.int (-1001)]) (w1 := (WX pgC pgL stC (nI sl) PA PS BA BS u)) (by decide +kernel) rfl ?_
    exact M.reti (nx := 30) (by decide +kernel) ⟨rfl, Or.inr ⟨fun k hk e => by rw [e] at z1; exact nI_pos (by omega) z1, rfl⟩⟩
  · refine M.blk (is := [(.iload_n 1, 1, 0, 0), (.aload_n 0, 0, 0, 0), (.getfield 16, 3, 1, 0), (.getfield 33, 2, 1, 0)]) (pc1 := 12) (lo1 := [(0, .ref 100), (1, .int x)]) (st1 := [.int (nI sl), .int x]) (w1 := (WX pgC pgL stC (nI sl) PA PS BA BS u)) (by decide +kernel) rfl ?_
    refine M.icmp_lt (off := 9) (tgt := 21) (nx := 15) (by decide +kernel) (fun z12 => ?_) (fun z12 => ?_)
    · obtain ⟨k, hk, rfl⟩ : ∃ k : Nat, k < sl ∧ x = nI k := ⟨_, (idx_of (n := sl) z1 (fun h => i32_nlt z12 h) (by omega)).2, (idx_of (n := sl) z1 (fun h => i32_nlt z12 h) (by omega)).1⟩
      refine M.blk (is := [(.aload_n 0, 0, 0, 0), (.getfield 16, 3, 1, 0), (.iload_n 1, 1, 0, 0)]) (pc1 := 26) (lo1 := [(0, .ref 100), (1, .int (nI k))]) (st1 := [.int (nI k), .ref 103]) (w1 := (WX pgC pgL stC (nI sl) PA PS BA BS u)) (by decide +kernel) rfl ?_
      refine M.callVi (as := [.int (nI k)]) (st := []) (nx := 29) okX2_get lkX3_44 (x_get3 (nI k)) (by decide +kernel) (by decide) rfl (Nat.le_of_ble_eq_true rfl) rfl (by decide) ?_
      exact M.reti (nx := 30) (by decide +kernel) ⟨rfl, Or.inl ⟨k, hk, rfl, by rw [sGet_nI hs hk]⟩⟩
    · refine M.blk (is := [(.sipush (-1001), 0, 0, (-1001)), (.goto 11, 29, 0, 0)]) (pc1 := 29) (lo1 := [(0, .ref 100), (1, .int x)]) (st1 := [.int (-1001)]) (w1 := (WX pgC pgL stC (nI sl) PA PS BA BS u)) (by decide +kernel) rfl ?_
      exact M.reti (nx := 30) (by decide +kernel) ⟨rfl, Or.inr ⟨fun k hk e => by rw [e] at z12; exact z12 (nI_lt hk (by omega)), rfl⟩⟩
theorem x_test {pl : Nat} (hp : pl ≤ 60) : CC 3 mX3_test 0 0 [.ref 100] (WX pgC (nI pl) stC stL PA PS BA BS u) (fun r w1 => ((pl = 0 ∨ flt pgC pl 0 < pl) ∧ r = some (.int (-1003)) ∧ w1 = (WX pgC (nI pl) stC stL PA PS BA BS u)) ∨ (¬ (pl = 0 ∨ flt pgC pl 0 < pl) ∧ r = some (.int (nI pl)) ∧ ∃ D, w1 = (WX pgC 0 D (nI pl) PA PS BA (upd BS 5 0) u) ∧ ∀ j, j < pl → D j = pgC j)) := by
  refine CC.of okX3_test.1 (Nat.le_of_ble_eq_true rfl) (fun g M => ?_)
  have hfl := (flt_ge pgC pl 0).2
  show g 0 0 0 [(0, .ref 100)] [] (WX pgC (nI pl) stC stL PA PS BA BS u)
  refine M.blk (is := [(.aload_n 0, 0, 0, 0), (.getfield 10, 3, 0, 0), (.getfield 33, 2, 1, 0)]) (pc1 := 7) (lo1 := [(0, .ref 100)]) (st1 := [.int (nI pl)]) (w1 := (WX pgC (nI pl) stC stL PA PS BA BS u)) (by decide +kernel) rfl ?_
  refine M.if_eq (off := 17) (tgt := 24) (nx := 10) (by decide +kernel) (fun z7 => ?_) (fun z7 => ?_)
  · refine M.blk (is := [(.sipush (-1003), 0, 0, (-1003))]) (pc1 := 27) (lo1 := [(0, .ref 100)]) (st1 := [.int (-1003)]) (w1 := (WX pgC (nI pl) stC stL PA PS BA BS u)) (by decide +kernel) rfl ?_
    exact M.reti (nx := 28) (by decide +kernel) (Or.inl ⟨Or.inl (nI_inj (by omega) (by decide) z7), rfl, rfl⟩)
  · refine M.blk (is := [(.aload_n 0, 0, 0, 0)]) (pc1 := 11) (lo1 := [(0, .ref 100)]) (st1 := [.ref 100]) (w1 := (WX pgC (nI pl) stC stL PA PS BA BS u)) (by decide +kernel) rfl ?_
    refine M.callVi (as := []) (st := []) (nx := 14) okX3_fault lkX3_52 (x_fault hp) (by decide +kernel) (by decide) rfl (Nat.le_of_ble_eq_true rfl) rfl (by decide) ?_
    refine M.blk (is := [(.aload_n 0, 0, 0, 0), (.getfield 10, 3, 0, 0), (.getfield 33, 2, 1, 0)]) (pc1 := 21) (lo1 := [(0, .ref 100)]) (st1 := [.int (nI pl), .int (nI (flt pgC pl 0))]) (w1 := (WX pgC (nI pl) stC stL PA PS BA BS u)) (by decide +kernel) rfl ?_
    refine M.icmp_ge (off := 7) (tgt := 28) (nx := 24) (by decide +kernel) (fun z21 => ?_) (fun z21 => ?_)
    · have h0 : ¬ pl = 0 := fun e => z7 (by rw [e]; rfl)
      have hge : ¬ flt pgC pl 0 < pl := fun e => nI_ge e (by omega) z21
      have lp : ∀ m k D, k + m = pl → (∀ j, j < k → D j = pgC j) → g 0 0 37 [(0, .ref 100), (1, .int (nI k))] [] (WX pgC (nI pl) D (nI k) PA PS BA BS u) := by
        intro m
        induction m with
        | zero =>
          intro k D hk hD
          have ek : pl = k := by omega
          subst ek
          refine M.blk (is := [(.iload_n 1, 1, 0, 0), (.aload_n 0, 0, 0, 0), (.getfield 10, 3, 0, 0), (.getfield 33, 2, 1, 0)]) (pc1 := 45) (lo1 := [(0, .ref 100), (1, .int (nI pl))]) (st1 := [.int (nI pl), .int (nI pl)]) (w1 := (WX pgC (nI pl) D (nI pl) PA PS BA BS u)) (by decide +kernel) rfl ?_
          refine M.icmp_ge (off := 24) (tgt := 69) (nx := 48) (by decide +kernel) (fun z45 => ?_) (fun z45 => by exfalso; exact z45 (nI_le (Nat.le_refl _) (by omega)))
          refine M.blk (is := [(.aload_n 0, 0, 0, 0), (.getfield 10, 3, 0, 0)]) (pc1 := 73) (lo1 := [(0, .ref 100), (1, .int (nI pl))]) (st1 := [.ref 101]) (w1 := (WX pgC (nI pl) D (nI pl) PA PS BA BS u)) (by decide +kernel) rfl ?_
          refine M.callVv (as := []) (st := []) (nx := 76) okX2_clear lkX3_41 x_clear1 (by decide +kernel) (by decide) rfl (Nat.le_of_ble_eq_true rfl) rfl (by decide) ?_
          show g 0 0 76 [(0, .ref 100), (1, .int (nI pl))] [] (WX pgC 0 D (nI pl) PA PS BA BS u)
          refine M.blk (is := [(.aload_n 0, 0, 0, 0), (.getfield 29, 3, 3, 0)]) (pc1 := 80) (lo1 := [(0, .ref 100), (1, .int (nI pl))]) (st1 := [.ref 113]) (w1 := (WX pgC 0 D (nI pl) PA PS BA BS u)) (by decide +kernel) rfl ?_
          refine M.callVv (as := []) (st := []) (nx := 83) okX0_forget lkX3_56 x_forget (by decide +kernel) (by decide) rfl (Nat.le_of_ble_eq_true rfl) rfl (by decide) ?_
          show g 0 0 83 [(0, .ref 100), (1, .int (nI pl))] [] (WX pgC 0 D (nI pl) PA PS BA (upd BS 5 0) u)
          refine M.blk (is := [(.aload_n 0, 0, 0, 0), (.getfield 16, 3, 1, 0), (.getfield 33, 2, 1, 0)]) (pc1 := 90) (lo1 := [(0, .ref 100), (1, .int (nI pl))]) (st1 := [.int (nI pl)]) (w1 := (WX pgC 0 D (nI pl) PA PS BA (upd BS 5 0) u)) (by decide +kernel) rfl ?_
          exact M.reti (nx := 91) (by decide +kernel) (Or.inr ⟨fun e => e.elim h0 hge, rfl, D, rfl, hD⟩)
        | succ m ih =>
          intro k D hk hD
          refine M.blk (is := [(.iload_n 1, 1, 0, 0), (.aload_n 0, 0, 0, 0), (.getfield 10, 3, 0, 0), (.getfield 33, 2, 1, 0)]) (pc1 := 45) (lo1 := [(0, .ref 100), (1, .int (nI k))]) (st1 := [.int (nI pl), .int (nI k)]) (w1 := (WX pgC (nI pl) D (nI k) PA PS BA BS u)) (by decide +kernel) rfl ?_
          refine M.icmp_ge (off := 24) (tgt := 69) (nx := 48) (by decide +kernel) (fun z45 => by exfalso; exact nI_ge (show k < pl by omega) (by omega) z45) (fun z45 => ?_)
          refine M.blk (is := [(.aload_n 0, 0, 0, 0), (.getfield 16, 3, 1, 0), (.aload_n 0, 0, 0, 0), (.getfield 10, 3, 0, 0), (.iload_n 1, 1, 0, 0)]) (pc1 := 57) (lo1 := [(0, .ref 100), (1, .int (nI k))]) (st1 := [.int (nI k), .ref 101, .ref 103]) (w1 := (WX pgC (nI pl) D (nI k) PA PS BA BS u)) (by decide +kernel) rfl ?_
          refine M.callVi (as := [.int (nI k)]) (st := [.ref 103]) (nx := 60) okX2_get lkX3_44 (x_get1 (nI k)) (by decide +kernel) (by decide) rfl (Nat.le_of_ble_eq_true rfl) rfl (by decide) ?_
          refine M.callVv (as := [.int (sGet pgC (nI pl) (nI k))]) (st := []) (nx := 63) okX2_add lkX3_37 (x_add3 (n := k) (by omega) (sGet pgC (nI pl) (nI k))) (by decide +kernel) (by decide) rfl (Nat.le_of_ble_eq_true rfl) rfl (by decide) ?_
          show g 0 0 63 [(0, .ref 100), (1, .int (nI k))] [] (WX pgC (nI pl) (upd D k (sGet pgC (nI pl) (nI k))) (nI (k + 1)) PA PS BA BS u)
          refine M.blk (is := [(.iinc 1 1, 1, 0, 1), (.goto (-29), 37, 0, 0)]) (pc1 := 37) (lo1 := [(1, .int ((nI k) + 1)), (0, .ref 100)]) (st1 := []) (w1 := (WX pgC (nI pl) (upd D k (sGet pgC (nI pl) (nI k))) (nI (k + 1)) PA PS BA BS u)) (by decide +kernel) rfl ?_
          refine M.lsub [1, 0] (lo1 := [(0, .ref 100), (1, .int ((nI k) + 1))]) rfl ?_
          rw [nI_1]
          refine ih (k + 1) _ (by omega) (fun j hj => ?_)
          by_cases e : j = k
          · rw [e, pk_us, sGet_nI (by omega) (by omega)]
          · rw [pk_un e]; exact hD j (by omega)
      refine M.blk (is := [(.aload_n 0, 0, 0, 0), (.getfield 16, 3, 1, 0)]) (pc1 := 32) (lo1 := [(0, .ref 100)]) (st1 := [.ref 103]) (w1 := (WX pgC (nI pl) stC stL PA PS BA BS u)) (by decide +kernel) rfl ?_
      refine M.callVv (as := []) (st := []) (nx := 35) okX2_clear lkX3_41 x_clear3 (by decide +kernel) (by decide) rfl (Nat.le_of_ble_eq_true rfl) rfl (by decide) ?_
      show g 0 0 35 [(0, .ref 100)] [] (WX pgC (nI pl) stC 0 PA PS BA BS u)
      refine M.blk (is := [(.iconst 0, 0, 0, 0), (.istore_n 1, 1, 0, 0)]) (pc1 := 37) (lo1 := [(1, .int 0), (0, .ref 100)]) (st1 := []) (w1 := (WX pgC (nI pl) stC 0 PA PS BA BS u)) (by decide +kernel) rfl ?_
      refine M.lsub [1, 0] (lo1 := [(0, .ref 100), (1, .int 0)]) rfl ?_
      exact lp pl 0 stC (by omega) (fun j hj => absurd hj (Nat.not_lt_zero _))
    · refine M.blk (is := [(.sipush (-1003), 0, 0, (-1003))]) (pc1 := 27) (lo1 := [(0, .ref 100)]) (st1 := [.int (-1003)]) (w1 := (WX pgC (nI pl) stC stL PA PS BA BS u)) (by decide +kernel) rfl ?_
      exact M.reti (nx := 28) (by decide +kernel) (Or.inl ⟨Or.inr ((nI_ltI (by omega) (by omega)).mp (i32_nle z21)), rfl, rfl⟩)
def ntz (k : Nat) : Nat := if k % 2 = 1 then 0 else if k % 4 = 2 then 1 else if k % 8 = 4 then 2 else if k % 16 = 8 then 3 else 4
theorem ntz_m : ∀ k : Fin 32, 1 ≤ k.val → (nI k.val ^^^ (-1)) &&& (nI k.val - 1) = nI (2 ^ ntz k.val - 1) := by decide +kernel
theorem ntz_4 (k : Nat) : ntz k ≤ 4 := by unfold ntz; repeat' split
                                          all_goals omega
theorem nz_k : ∀ z : Fin 5, nI (2 ^ z.val - 1) ≤ 16 ∧ (¬ 0 < nI (2 ^ z.val - 1) → nI (2 ^ z.val - 1) &&& 32 = nI z.val) ∧ (nI (2 ^ z.val - 1) ≤ 4 → 0 < nI (2 ^ z.val - 1) → 1 + ((nI (2 ^ z.val - 1)).toUInt32 >>> ((1 : Int32).toUInt32 &&& Int32.toUInt32 31)).toInt32 = nI z.val) ∧ (¬ nI (2 ^ z.val - 1) ≤ 4 → 1 + 2 + ((((nI (2 ^ z.val - 1)).toUInt32 >>> ((2 : Int32).toUInt32 &&& Int32.toUInt32 31)).toInt32).toUInt32 >>> ((1 : Int32).toUInt32 &&& Int32.toUInt32 31)).toInt32 = nI z.val) := by decide +kernel
theorem nz_le {z : Nat} (h4 : z ≤ 4) {y : Int32} (hy : (16 : Int32) ≤ y) : nI (2 ^ z - 1) ≤ y := by
  have h := (nz_k ⟨z, by omega⟩).1
  rw [Int32.le_iff_toInt_le] at *
  dsimp only at h
  omega
theorem nz_a {z : Nat} (h4 : z ≤ 4) (h : ¬ 0 < nI (2 ^ z - 1)) : some (Value.int (nI (2 ^ z - 1) &&& 32)) = some (.int (nI z)) := by rw [(nz_k ⟨z, by omega⟩).2.1 h]
theorem nz_b {z : Nat} (h4 : z ≤ 4) (h : nI (2 ^ z - 1) ≤ 4) (h0 : 0 < nI (2 ^ z - 1)) : some (Value.int (1 + ((nI (2 ^ z - 1)).toUInt32 >>> ((1 : Int32).toUInt32 &&& Int32.toUInt32 31)).toInt32)) = some (.int (nI z)) := by rw [(nz_k ⟨z, by omega⟩).2.2.1 h h0]
theorem nz_c {z : Nat} (h4 : z ≤ 4) (h : ¬ nI (2 ^ z - 1) ≤ 4) : some (Value.int (1 + 2 + ((((nI (2 ^ z - 1)).toUInt32 >>> ((2 : Int32).toUInt32 &&& Int32.toUInt32 31)).toInt32).toUInt32 >>> ((1 : Int32).toUInt32 &&& Int32.toUInt32 31)).toInt32)) = some (.int (nI z)) := by rw [(nz_k ⟨z, by omega⟩).2.2.2 h]
theorem s_ntz (w0 : Wd) {k : Nat} (h1 : 1 ≤ k) (h32 : k < 32) : CC 0 mJ6_numberOfTrailingZeros_0f7a4 0 0 [.int (nI k)] w0 (Rt (nI (ntz k)) w0) := by
  refine CC.of okJ6_numberOfTrailingZeros_0f7a4.1 (Nat.le_of_ble_eq_true rfl) (fun g M => ?_)
  have hm := ntz_m ⟨k, h32⟩ h1
  dsimp only at hm
  show g 0 0 0 [(0, .int (nI k))] [] w0
  refine M.blk (is := [(.iload_n 0, 0, 0, 0), (.iconst (-1), 0, 0, (-1)), (.ixor, 0, 0, 0), (.iload_n 0, 0, 0, 0), (.iconst 1, 0, 0, 1), (.isub, 0, 0, 0), (.iand, 0, 0, 0), (.istore_n 0, 0, 0, 0)]) (pc1 := 8) (lo1 := [(0, .int (((nI k) ^^^ (-1)) &&& ((nI k) - 1)))]) (st1 := []) (w1 := w0) (by decide +kernel) rfl ?_
  rw [hm]
  have h4 := ntz_4 k
  clear hm
  generalize ntz k = z at h4 M ⊢
  refine M.blk (is := [(.iload_n 0, 0, 0, 0)]) (pc1 := 9) (lo1 := [(0, .int (nI (2 ^ z - 1)))]) (st1 := [.int (nI (2 ^ z - 1))]) (w1 := w0) (by decide +kernel) rfl ?_
  refine M.if_gt (off := 8) (tgt := 17) (nx := 12) (by decide +kernel) (fun z9 => ?_) (fun z9 => ?_)
  · refine M.blk (is := [(.iconst 1, 0, 0, 1), (.istore_n 1, 1, 0, 0), (.iload_n 0, 0, 0, 0)]) (pc1 := 20) (lo1 := [(1, .int 1), (0, .int (nI (2 ^ z - 1)))]) (st1 := [.int (nI (2 ^ z - 1))]) (w1 := w0) (by decide +kernel) rfl ?_
    refine M.ldi (v := 65536) (idx := 264) (nx := 23) (by decide +kernel) (lw_in 273 (by decide +kernel) (by decide +kernel)) ?_
    refine M.icmp_le (off := 11) (tgt := 34) (nx := 26) (by decide +kernel) (fun z23 => ?_) (fun z23 => by exfalso; exact z23 (nz_le h4 (by decide)))
    refine M.blk (is := [(.iload_n 0, 0, 0, 0), (.sipush 256, 0, 0, 256)]) (pc1 := 38) (lo1 := [(1, .int 1), (0, .int (nI (2 ^ z - 1)))]) (st1 := [.int 256, .int (nI (2 ^ z - 1))]) (w1 := w0) (by decide +kernel) rfl ?_
    refine M.icmp_le (off := 11) (tgt := 49) (nx := 41) (by decide +kernel) (fun z38 => ?_) (fun z38 => by exfalso; exact z38 (nz_le h4 (by decide)))
    refine M.blk (is := [(.iload_n 0, 0, 0, 0), (.bipush 16, 0, 0, 16)]) (pc1 := 52) (lo1 := [(1, .int 1), (0, .int (nI (2 ^ z - 1)))]) (st1 := [.int 16, .int (nI (2 ^ z - 1))]) (w1 := w0) (by decide +kernel) rfl ?_
    refine M.icmp_le (off := 10) (tgt := 62) (nx := 55) (by decide +kernel) (fun z52 => ?_) (fun z52 => by exfalso; exact z52 (nz_le h4 (by decide)))
    refine M.blk (is := [(.iload_n 0, 0, 0, 0), (.iconst 4, 0, 0, 4)]) (pc1 := 64) (lo1 := [(1, .int 1), (0, .int (nI (2 ^ z - 1)))]) (st1 := [.int 4, .int (nI (2 ^ z - 1))]) (w1 := w0) (by decide +kernel) rfl ?_
    refine M.icmp_le (off := 10) (tgt := 74) (nx := 67) (by decide +kernel) (fun z64 => ?_) (fun z64 => ?_)
    · refine M.blk (is := [(.iload_n 1, 1, 0, 0), (.iload_n 0, 0, 0, 0), (.iconst 1, 0, 0, 1), (.iushr, 0, 0, 0), (.iadd, 0, 0, 0)]) (pc1 := 79) (lo1 := [(1, .int 1), (0, .int (nI (2 ^ z - 1)))]) (st1 := [.int (1 + (((nI (2 ^ z - 1)).toUInt32 >>> ((1 : Int32).toUInt32 &&& Int32.toUInt32 31)).toInt32))]) (w1 := w0) (by decide +kernel) rfl ?_
      exact M.reti (nx := 80) (by decide +kernel) ⟨nz_b h4 z64 z9, rfl⟩
    · refine M.blk (is := [(.iinc 1 2, 1, 0, 2), (.iload_n 0, 0, 0, 0), (.iconst 2, 0, 0, 2), (.iushr, 0, 0, 0), (.istore_n 0, 0, 0, 0), (.iload_n 1, 1, 0, 0), (.iload_n 0, 0, 0, 0), (.iconst 1, 0, 0, 1), (.iushr, 0, 0, 0), (.iadd, 0, 0, 0)]) (pc1 := 79) (lo1 := [(0, .int (((nI (2 ^ z - 1)).toUInt32 >>> ((2 : Int32).toUInt32 &&& Int32.toUInt32 31)).toInt32)), (1, .int 3)]) (st1 := [.int (3 + (((((nI (2 ^ z - 1)).toUInt32 >>> ((2 : Int32).toUInt32 &&& Int32.toUInt32 31)).toInt32).toUInt32 >>> ((1 : Int32).toUInt32 &&& Int32.toUInt32 31)).toInt32))]) (w1 := w0) (by decide +kernel) rfl ?_
      exact M.reti (nx := 80) (by decide +kernel) ⟨nz_c h4 z64, rfl⟩
  · refine M.blk (is := [(.iload_n 0, 0, 0, 0), (.bipush 32, 0, 0, 32), (.iand, 0, 0, 0)]) (pc1 := 16) (lo1 := [(0, .int (nI (2 ^ z - 1)))]) (st1 := [.int ((nI (2 ^ z - 1)) &&& 32)]) (w1 := w0) (by decide +kernel) rfl ?_
    exact M.reti (nx := 17) (by decide +kernel) ⟨nz_a h4 z9, rfl⟩
def gry (j : Nat) : Int32 := if j = 0 then 122 else if j % 2 = 1 then 114 else nI (48 + ntz (j / 2))
theorem x_gray : CC 1 mX3_gray 0 0 [.ref 100] (WX pgC pgL stC stL PA PS BA BS u) (fun r w1 => r = some (.int 64) ∧ ∃ D, w1 = (WX pgC pgL D 64 PA PS BA (upd BS 5 0) u) ∧ ∀ j, j < 64 → D j = gry j) := by
  refine CC.of okX3_gray.1 (Nat.le_of_ble_eq_true rfl) (fun g M => ?_)
  have lp : ∀ m k D, k + m = 32 → 1 ≤ k → (∀ j, j < 2 * k → D j = gry j) → g 0 0 27 [(0, .ref 100), (1, .int (nI k))] [] (WX pgC pgL D (nI (2 * k)) PA PS BA BS u) := by
    intro m
    induction m with
    | zero =>
      intro k D hk h1 hD
      have ek : k = 32 := by omega
      subst ek
      refine M.blk (is := [(.iload_n 1, 1, 0, 0), (.bipush 32, 0, 0, 32)]) (pc1 := 30) (lo1 := [(0, .ref 100), (1, .int (nI 32))]) (st1 := [.int 32, .int (nI 32)]) (w1 := (WX pgC pgL D (nI 64) PA PS BA BS u)) (by decide +kernel) rfl ?_
      refine M.icmp_ge (off := 32) (tgt := 62) (nx := 33) (by decide +kernel) (fun z30 => ?_) (fun z30 => by exfalso; exact z30 (by decide))
      refine M.blk (is := [(.aload_n 0, 0, 0, 0), (.getfield 29, 3, 3, 0)]) (pc1 := 66) (lo1 := [(0, .ref 100), (1, .int (nI 32))]) (st1 := [.ref 113]) (w1 := (WX pgC pgL D (nI 64) PA PS BA BS u)) (by decide +kernel) rfl ?_
      refine M.callVv (as := []) (st := []) (nx := 69) okX0_forget lkX3_56 x_forget (by decide +kernel) (by decide) rfl (Nat.le_of_ble_eq_true rfl) rfl (by decide) ?_
      show g 0 0 69 [(0, .ref 100), (1, .int (nI 32))] [] (WX pgC pgL D (nI 64) PA PS BA (upd BS 5 0) u)
      refine M.blk (is := [(.aload_n 0, 0, 0, 0), (.getfield 16, 3, 1, 0), (.getfield 33, 2, 1, 0)]) (pc1 := 76) (lo1 := [(0, .ref 100), (1, .int (nI 32))]) (st1 := [.int (nI 64)]) (w1 := (WX pgC pgL D (nI 64) PA PS BA (upd BS 5 0) u)) (by decide +kernel) rfl ?_
      exact M.reti (nx := 77) (by decide +kernel) ⟨rfl, D, rfl, hD⟩
    | succ m ih =>
      intro k D hk h1 hD
      refine M.blk (is := [(.iload_n 1, 1, 0, 0), (.bipush 32, 0, 0, 32)]) (pc1 := 30) (lo1 := [(0, .ref 100), (1, .int (nI k))]) (st1 := [.int 32, .int (nI k)]) (w1 := (WX pgC pgL D (nI (2 * k)) PA PS BA BS u)) (by decide +kernel) rfl ?_
      refine M.icmp_ge (off := 32) (tgt := 62) (nx := 33) (by decide +kernel) (fun z30 => by exfalso; exact nI_ge (a := k) (b := 32) (by omega) (by decide) z30) (fun z30 => ?_)
      refine M.blk (is := [(.aload_n 0, 0, 0, 0), (.getfield 16, 3, 1, 0), (.bipush 48, 0, 0, 48), (.iload_n 1, 1, 0, 0)]) (pc1 := 40) (lo1 := [(0, .ref 100), (1, .int (nI k))]) (st1 := [.int (nI k), .int 48, .ref 103]) (w1 := (WX pgC pgL D (nI (2 * k)) PA PS BA BS u)) (by decide +kernel) rfl ?_
      refine M.callSi (as := [.int (nI k)]) (st := [.int 48, .ref 103]) (nx := 43) okJ6_numberOfTrailingZeros_0f7a4 lkX3_59 (s_ntz (WX pgC pgL D (nI (2 * k)) PA PS BA BS u) h1 (by omega)) (by decide +kernel) (by decide) rfl (Nat.le_of_ble_eq_true rfl) ?_
      refine M.blk (is := [(.iadd, 0, 0, 0)]) (pc1 := 44) (lo1 := [(0, .ref 100), (1, .int (nI k))]) (st1 := [.int (48 + (nI (ntz k))), .ref 103]) (w1 := (WX pgC pgL D (nI (2 * k)) PA PS BA BS u)) (by decide +kernel) rfl ?_
      refine M.callVv (as := [.int (48 + (nI (ntz k)))]) (st := []) (nx := 47) okX2_add lkX3_37 (x_add3 (n := 2 * k) (by omega) (48 + (nI (ntz k)))) (by decide +kernel) (by decide) rfl (Nat.le_of_ble_eq_true rfl) rfl (by decide) ?_
      show g 0 0 47 [(0, .ref 100), (1, .int (nI k))] [] (WX pgC pgL (upd D (2 * k) (48 + (nI (ntz k)))) (nI (2 * k + 1)) PA PS BA BS u)
      refine M.blk (is := [(.aload_n 0, 0, 0, 0), (.getfield 16, 3, 1, 0), (.bipush 114, 0, 0, 114)]) (pc1 := 53) (lo1 := [(0, .ref 100), (1, .int (nI k))]) (st1 := [.int 114, .ref 103]) (w1 := (WX pgC pgL (upd D (2 * k) (48 + (nI (ntz k)))) (nI (2 * k + 1)) PA PS BA BS u)) (by decide +kernel) rfl ?_
      refine M.callVv (as := [.int 114]) (st := []) (nx := 56) okX2_add lkX3_37 (x_add3 (n := 2 * k + 1) (by omega) 114) (by decide +kernel) (by decide) rfl (Nat.le_of_ble_eq_true rfl) rfl (by decide) ?_
      show g 0 0 56 [(0, .ref 100), (1, .int (nI k))] [] (WX pgC pgL (upd (upd D (2 * k) (48 + (nI (ntz k)))) (2 * k + 1) 114) (nI (2 * k + 1 + 1)) PA PS BA BS u)
      refine M.blk (is := [(.iinc 1 1, 1, 0, 1), (.goto (-32), 27, 0, 0)]) (pc1 := 27) (lo1 := [(1, .int ((nI k) + 1)), (0, .ref 100)]) (st1 := []) (w1 := (WX pgC pgL (upd (upd D (2 * k) (48 + (nI (ntz k)))) (2 * k + 1) 114) (nI (2 * k + 1 + 1)) PA PS BA BS u)) (by decide +kernel) rfl ?_
      refine M.lsub [1, 0] (lo1 := [(0, .ref 100), (1, .int ((nI k) + 1))]) rfl ?_
      rw [nI_1]
      refine ih (k + 1) _ (by omega) (by omega) (fun j hj => ?_)
      by_cases e1 : j = 2 * k + 1
      · rw [e1, pk_us]; unfold gry; rw [if_neg (by omega), if_pos (by omega)]
      · rw [pk_un e1]
        by_cases e2 : j = 2 * k
        · rw [e2, pk_us]; unfold gry; rw [if_neg (by omega), if_neg (by omega), show 2 * k / 2 = k by omega, ← nI_add]; rfl
        · rw [pk_un e2]; exact hD j (by omega)
  show g 0 0 0 [(0, .ref 100)] [] (WX pgC pgL stC stL PA PS BA BS u)
  refine M.blk (is := [(.aload_n 0, 0, 0, 0), (.getfield 16, 3, 1, 0)]) (pc1 := 4) (lo1 := [(0, .ref 100)]) (st1 := [.ref 103]) (w1 := (WX pgC pgL stC stL PA PS BA BS u)) (by decide +kernel) rfl ?_
  refine M.callVv (as := []) (st := []) (nx := 7) okX2_clear lkX3_41 x_clear3 (by decide +kernel) (by decide) rfl (Nat.le_of_ble_eq_true rfl) rfl (by decide) ?_
  show g 0 0 7 [(0, .ref 100)] [] (WX pgC pgL stC 0 PA PS BA BS u)
  refine M.blk (is := [(.aload_n 0, 0, 0, 0), (.getfield 16, 3, 1, 0), (.bipush 122, 0, 0, 122)]) (pc1 := 13) (lo1 := [(0, .ref 100)]) (st1 := [.int 122, .ref 103]) (w1 := (WX pgC pgL stC 0 PA PS BA BS u)) (by decide +kernel) rfl ?_
  refine M.callVv (as := [.int 122]) (st := []) (nx := 16) okX2_add lkX3_37 (x_add3 (n := 0) (by omega) 122) (by decide +kernel) (by decide) rfl (Nat.le_of_ble_eq_true rfl) rfl (by decide) ?_
  show g 0 0 16 [(0, .ref 100)] [] (WX pgC pgL (upd stC 0 122) (nI (0 + 1)) PA PS BA BS u)
  refine M.blk (is := [(.aload_n 0, 0, 0, 0), (.getfield 16, 3, 1, 0), (.bipush 114, 0, 0, 114)]) (pc1 := 22) (lo1 := [(0, .ref 100)]) (st1 := [.int 114, .ref 103]) (w1 := (WX pgC pgL (upd stC 0 122) (nI (0 + 1)) PA PS BA BS u)) (by decide +kernel) rfl ?_
  refine M.callVv (as := [.int 114]) (st := []) (nx := 25) okX2_add lkX3_37 (x_add3 (n := 0 + 1) (by omega) 114) (by decide +kernel) (by decide) rfl (Nat.le_of_ble_eq_true rfl) rfl (by decide) ?_
  show g 0 0 25 [(0, .ref 100)] [] (WX pgC pgL (upd (upd stC 0 122) (0 + 1) 114) (nI (0 + 1 + 1)) PA PS BA BS u)
  refine M.blk (is := [(.iconst 1, 0, 0, 1), (.istore_n 1, 1, 0, 0)]) (pc1 := 27) (lo1 := [(1, .int 1), (0, .ref 100)]) (st1 := []) (w1 := (WX pgC pgL (upd (upd stC 0 122) (0 + 1) 114) (nI (0 + 1 + 1)) PA PS BA BS u)) (by decide +kernel) rfl ?_
  refine M.lsub [1, 0] (lo1 := [(0, .ref 100), (1, .int 1)]) rfl ?_
  exact lp 31 1 _ (by omega) (by omega) (fun j hj => by rcases (show j = 0 ∨ j = 1 by omega) with rfl | rfl <;> rfl)
end TEXT
end
section
section SHEET
variable {pgC : Nat → Int32} {pgL : Int32} {stC : Nat → Int32} {stL : Int32} {PA : Nat → Nat → Int32} {PS : Nat → Int32} {BA : Nat → Nat → Int32} {BS : Nat → Int32} {u : List Cl}
theorem i32_of {x v : Int32} {z : Int} (h : x.toInt = z) (hv : v.toInt = z) : x = v := Int32.toInt_inj.mp (h.trans hv.symm)
def tyF (PA : Nat → Nat → Int32) (PS : Nat → Int32) (x : Int32) : Int32 := if hasF PS x = 0 then -1 else PA 0 x.toNatClampNeg
def adF (PA : Nat → Nat → Int32) (PS : Nat → Int32) (x : Int32) : Int32 := if hasF PS x = 0 then -1 else PA 6 x.toNatClampNeg
def clF (PA : Nat → Nat → Int32) (PS : Nat → Int32) (x : Int32) : Int32 := if hasF PS x = 0 then -1 else PA 5 x.toNatClampNeg
def thF (PA : Nat → Nat → Int32) (PS : Nat → Int32) (x : Int32) : Int32 := if hasF PS x = 0 then 0 else PA 4 x.toNatClampNeg
def tuF (PA : Nat → Nat → Int32) (PS : Nat → Int32) (x : Int32) : Int32 := if hasF PS x = 0 then 0 else (PS 12 >>> (PA 2 x.toNatClampNeg &&& 31)) &&& 1
def beF (PA : Nat → Nat → Int32) (PS : Nat → Int32) (x k : Int32) : Int32 := if hasF PS x = 0 then -1 else if k < 0 then -1 else if 4 ≤ k then -1 else PA 3 (4 * x.toNatClampNeg + k.toNatClampNeg)
def cellX (PA : Nat → Nat → Int32) (PS : Nat → Int32) (x y : Int32) : Int32 := if hasF PS x = 0 then -1001 else if y = 0 then tyF PA PS x else if y = 1 then adF PA PS x else if y = 2 then tuF PA PS x else if y = 10 ∨ y = 11 ∨ y = 12 ∨ y = 13 then beF PA PS x (y - 10) else -1002
def fixC (n f h m : Nat) : Nat := match m with
  | 0 => 0
  | m + 1 => fixC n f h m + (if (f * m + h) % n = m then 1 else 0)
theorem fixC_le (n f h m : Nat) : fixC n f h m ≤ m := by
  induction m with
  | zero => exact Nat.le_refl _
  | succ m ih => unfold fixC; split <;> omega
def partsI (k : Int32) : Int32 := if k = 0 then 32 else if k = 1 then 32 else if k = 2 then 128 else 0
def dueA (th k : Nat) : Int32 := match k with
  | 0 => 0
  | k + 1 => if (nI k &&& (nI th ^^^ (-1))) = 0 then dueA th k ||| ((1 <<< (nI k &&& 31)) ||| (1 <<< ((16 + nI k) &&& 31))) else dueA th k
theorem x_has (x : Int32) : CC 0 mX1_has 0 0 [.ref 105, .int x] (WX pgC pgL stC stL PA PS BA BS u) (Rt (hasF PS x) (WX pgC pgL stC stL PA PS BA BS u)) := s_has x
theorem x_typeOf (x : Int32) : CC 1 mX1_typeOf 0 0 [.ref 105, .int x] (WX pgC pgL stC stL PA PS BA BS u) (Rt (tyF PA PS x) (WX pgC pgL stC stL PA PS BA BS u)) := s_typeOf x
theorem x_addressOf (x : Int32) : CC 1 mX1_addressOf 0 0 [.ref 105, .int x] (WX pgC pgL stC stL PA PS BA BS u) (Rt (adF PA PS x) (WX pgC pgL stC stL PA PS BA BS u)) := s_addressOf x
theorem x_cellOf (x : Int32) : CC 1 mX1_cellOf 0 0 [.ref 105, .int x] (WX pgC pgL stC stL PA PS BA BS u) (Rt (clF PA PS x) (WX pgC pgL stC stL PA PS BA BS u)) := s_cellOf x
theorem x_there (x : Int32) : CC 1 mX1_there 0 0 [.ref 105, .int x] (WX pgC pgL stC stL PA PS BA BS u) (Rt (thF PA PS x) (WX pgC pgL stC stL PA PS BA BS u)) := s_there x
theorem x_turnedAt (x : Int32) : CC 1 mX1_turnedAt 0 0 [.ref 105, .int x] (WX pgC pgL stC stL PA PS BA BS u) (Rt (tuF PA PS x) (WX pgC pgL stC stL PA PS BA BS u)) := s_turnedAt x
theorem x_beside (x k : Int32) : CC 1 mX1_beside 0 0 [.ref 105, .int x, .int k] (WX pgC pgL stC stL PA PS BA BS u) (Rt (beF PA PS x k) (WX pgC pgL stC stL PA PS BA BS u)) := s_beside x k
def ctF (PA : Nat → Nat → Int32) (t : Int32) : Int32 := if t < 0 then 0 else if 5 ≤ t then 0 else PA 1 t.toNatClampNeg
theorem x_cellsOfType (t : Int32) : CC 0 mX1_cellsOfType 0 0 [.ref 105, .int t] (WX pgC pgL stC stL PA PS BA BS u) (Rt (ctF PA t) (WX pgC pgL stC stL PA PS BA BS u)) := s_cellsOfType t
theorem x_at (x : Int32) : CC 2 mX3_at 0 0 [.ref 100, .int x] (WX pgC pgL stC stL PA PS BA BS u) (Rt (if hasF PS x = 0 then -1001 else clF PA PS x) (WX pgC pgL stC stL PA PS BA BS u)) := by
  refine CC.of okX3_at.1 (Nat.le_of_ble_eq_true rfl) (fun g M => ?_)
  show g 0 0 0 [(0, .ref 100), (1, .int x)] [] (WX pgC pgL stC stL PA PS BA BS u)
  refine M.blk (is := [(.aload_n 0, 0, 0, 0), (.getfield 22, 3, 2, 0), (.iload_n 1, 1, 0, 0)]) (pc1 := 5) (lo1 := [(0, .ref 100), (1, .int x)]) (st1 := [.int x, .ref 105]) (w1 := (WX pgC pgL stC stL PA PS BA BS u)) (by decide +kernel) rfl ?_
  refine M.callVi (as := [.int x]) (st := []) (nx := 8) okX1_has lkX3_78 (x_has x) (by decide +kernel) (by decide) rfl (Nat.le_of_ble_eq_true rfl) rfl (by decide) ?_
  refine M.if_eq (off := 14) (tgt := 22) (nx := 11) (by decide +kernel) (fun z8 => ?_) (fun z8 => ?_)
  · refine M.blk (is := [(.sipush (-1001), 0, 0, (-1001))]) (pc1 := 25) (lo1 := [(0, .ref 100), (1, .int x)]) (st1 := [.int (-1001)]) (w1 := (WX pgC pgL stC stL PA PS BA BS u)) (by decide +kernel) rfl ?_
    exact M.reti (nx := 26) (by decide +kernel) ⟨by simp [*], rfl⟩
  · refine M.blk (is := [(.aload_n 0, 0, 0, 0), (.getfield 22, 3, 2, 0), (.iload_n 1, 1, 0, 0)]) (pc1 := 16) (lo1 := [(0, .ref 100), (1, .int x)]) (st1 := [.int x, .ref 105]) (w1 := (WX pgC pgL stC stL PA PS BA BS u)) (by decide +kernel) rfl ?_
    refine M.callVi (as := [.int x]) (st := []) (nx := 19) okX1_cellOf lkX3_75 (x_cellOf x) (by decide +kernel) (by decide) rfl (Nat.le_of_ble_eq_true rfl) rfl (by decide) ?_
    refine M.blk (is := [(.goto 6, 25, 0, 0)]) (pc1 := 25) (lo1 := [(0, .ref 100), (1, .int x)]) (st1 := [.int (clF PA PS x)]) (w1 := (WX pgC pgL stC stL PA PS BA BS u)) (by decide +kernel) rfl ?_
    exact M.reti (nx := 26) (by decide +kernel) ⟨by simp [*], rfl⟩
theorem cell_out {y : Int32} (h : y.toInt < 0 ∨ 0 + (([88, 97, 106, 128, 128, 128, 128, 128, 128, 128, 115, 115, 115, 115] : List Nat).length : Int) ≤ y.toInt) {A B C D : Int32} : (if y = 0 then A else if y = 1 then B else if y = 2 then C else if y = 10 ∨ y = 11 ∨ y = 12 ∨ y = 13 then D else -1002) = -1002 := by
  have key : ∀ v : Int32, 0 ≤ v.toInt → v.toInt ≤ 13 → ¬ y = v := by
    rintro v h1 h2 rfl
    simp only [List.length_cons, List.length_nil] at h
    omega
  rw [if_neg (key 0 (by decide) (by decide)), if_neg (key 1 (by decide) (by decide)), if_neg (key 2 (by decide) (by decide)), if_neg]
  rintro (h1 | h1 | h1 | h1)
  · exact key 10 (by decide) (by decide) h1
  · exact key 11 (by decide) (by decide) h1
  · exact key 12 (by decide) (by decide) h1
  · exact key 13 (by decide) (by decide) h1
theorem x_cell (x y : Int32) : CC 2 mX3_cell 0 0 [.ref 100, .int x, .int y] (WX pgC pgL stC stL PA PS BA BS u) (Rt (cellX PA PS x y) (WX pgC pgL stC stL PA PS BA BS u)) := by
  refine CC.of okX3_cell.1 (Nat.le_of_ble_eq_true rfl) (fun g M => ?_)
  show g 0 0 0 [(0, .ref 100), (1, .int x), (2, .int y)] [] (WX pgC pgL stC stL PA PS BA BS u)
  -- walk
  refine M.blk (is := [(.aload_n 0, 0, 0, 0), (.getfield 22, 3, 2, 0), (.iload_n 1, 1, 0, 0)]) (pc1 := 5) (lo1 := [(0, .ref 100), (1, .int x), (2, .int y)]) (st1 := [.int x, .ref 105]) (w1 := (WX pgC pgL stC stL PA PS BA BS u)) (by decide +kernel) rfl ?_
  refine M.callVi (as := [.int x]) (st := []) (nx := 8) okX1_has lkX3_78 (x_has x) (by decide +kernel) (by decide) rfl (Nat.le_of_ble_eq_true rfl) rfl (by decide) ?_
  refine M.if_ne (off := 7) (tgt := 15) (nx := 11) (by decide +kernel) (fun z8 => ?_) (fun z8 => ?_)
  · refine M.blk (is := [(.iload_n 2, 2, 0, 0)]) (pc1 := 16) (lo1 := [(0, .ref 100), (1, .int x), (2, .int y)]) (st1 := [.int y]) (w1 := (WX pgC pgL stC stL PA PS BA BS u)) (by decide +kernel) rfl ?_
    refine M.tsw (dflt := 112) (a := 0) (b := 13) (offs := #[72, 81, 90, 112, 112, 112, 112, 112, 112, 112, 99, 99, 99, 99]) (len := 72) (tg := [88, 97, 106, 128, 128, 128, 128, 128, 128, 128, 115, 115, 115, 115]) (dt := 128) (by decide +kernel) (fun j t hj hx16 => ?_) (fun hx16 => ?_)
    · match j, hj, hx16 with
      | 0, hj, hx16 =>
        cases hj
        have hx16 : y = 0 := i32_of hx16 (by decide)
        subst hx16
        refine M.blk (is := [(.aload_n 0, 0, 0, 0), (.getfield 22, 3, 2, 0), (.iload_n 1, 1, 0, 0)]) (pc1 := 93) (lo1 := [(0, .ref 100), (1, .int x), (2, .int 0)]) (st1 := [.int x, .ref 105]) (w1 := (WX pgC pgL stC stL PA PS BA BS u)) (by decide +kernel) rfl ?_
        refine M.callVi (as := [.int x]) (st := []) (nx := 96) okX1_typeOf lkX3_81 (x_typeOf x) (by decide +kernel) (by decide) rfl (Nat.le_of_ble_eq_true rfl) rfl (by decide) ?_
        exact M.reti (nx := 97) (by decide +kernel) ⟨by rw [cellX, if_neg z8]; rfl, rfl⟩
      | 1, hj, hx16 =>
        cases hj
        have hx16 : y = 1 := i32_of hx16 (by decide)
        subst hx16
        refine M.blk (is := [(.aload_n 0, 0, 0, 0), (.getfield 22, 3, 2, 0), (.iload_n 1, 1, 0, 0)]) (pc1 := 102) (lo1 := [(0, .ref 100), (1, .int x), (2, .int 1)]) (st1 := [.int x, .ref 105]) (w1 := (WX pgC pgL stC stL PA PS BA BS u)) (by decide +kernel) rfl ?_
        refine M.callVi (as := [.int x]) (st := []) (nx := 105) okX1_addressOf lkX3_84 (x_addressOf x) (by decide +kernel) (by decide) rfl (Nat.le_of_ble_eq_true rfl) rfl (by decide) ?_
        exact M.reti (nx := 106) (by decide +kernel) ⟨by rw [cellX, if_neg z8]; rfl, rfl⟩
      | 2, hj, hx16 =>
        cases hj
        have hx16 : y = 2 := i32_of hx16 (by decide)
        subst hx16
        refine M.blk (is := [(.aload_n 0, 0, 0, 0), (.getfield 22, 3, 2, 0), (.iload_n 1, 1, 0, 0)]) (pc1 := 111) (lo1 := [(0, .ref 100), (1, .int x), (2, .int 2)]) (st1 := [.int x, .ref 105]) (w1 := (WX pgC pgL stC stL PA PS BA BS u)) (by decide +kernel) rfl ?_
        refine M.callVi (as := [.int x]) (st := []) (nx := 114) okX1_turnedAt lkX3_87 (x_turnedAt x) (by decide +kernel) (by decide) rfl (Nat.le_of_ble_eq_true rfl) rfl (by decide) ?_
        exact M.reti (nx := 115) (by decide +kernel) ⟨by rw [cellX, if_neg z8]; rfl, rfl⟩
      | 3, hj, hx16 =>
        cases hj
        have hx16 : y = 3 := i32_of hx16 (by decide)
        subst hx16
        refine M.blk (is := [(.sipush (-1002), 0, 0, (-1002))]) (pc1 := 131) (lo1 := [(0, .ref 100), (1, .int x), (2, .int 3)]) (st1 := [.int (-1002)]) (w1 := (WX pgC pgL stC stL PA PS BA BS u)) (by decide +kernel) rfl ?_
        exact M.reti (nx := 132) (by decide +kernel) ⟨by rw [cellX, if_neg z8]; rfl, rfl⟩
      | 4, hj, hx16 =>
        cases hj
        have hx16 : y = 4 := i32_of hx16 (by decide)
        subst hx16
        refine M.blk (is := [(.sipush (-1002), 0, 0, (-1002))]) (pc1 := 131) (lo1 := [(0, .ref 100), (1, .int x), (2, .int 4)]) (st1 := [.int (-1002)]) (w1 := (WX pgC pgL stC stL PA PS BA BS u)) (by decide +kernel) rfl ?_
        exact M.reti (nx := 132) (by decide +kernel) ⟨by rw [cellX, if_neg z8]; rfl, rfl⟩
      | 5, hj, hx16 =>
        cases hj
        have hx16 : y = 5 := i32_of hx16 (by decide)
        subst hx16
        refine M.blk (is := [(.sipush (-1002), 0, 0, (-1002))]) (pc1 := 131) (lo1 := [(0, .ref 100), (1, .int x), (2, .int 5)]) (st1 := [.int (-1002)]) (w1 := (WX pgC pgL stC stL PA PS BA BS u)) (by decide +kernel) rfl ?_
        exact M.reti (nx := 132) (by decide +kernel) ⟨by rw [cellX, if_neg z8]; rfl, rfl⟩
      | 6, hj, hx16 =>
        cases hj
        have hx16 : y = 6 := i32_of hx16 (by decide)
        subst hx16
        refine M.blk (is := [(.sipush (-1002), 0, 0, (-1002))]) (pc1 := 131) (lo1 := [(0, .ref 100), (1, .int x), (2, .int 6)]) (st1 := [.int (-1002)]) (w1 := (WX pgC pgL stC stL PA PS BA BS u)) (by decide +kernel) rfl ?_
        exact M.reti (nx := 132) (by decide +kernel) ⟨by rw [cellX, if_neg z8]; rfl, rfl⟩
      | 7, hj, hx16 =>
        cases hj
        have hx16 : y = 7 := i32_of hx16 (by decide)
        subst hx16
        refine M.blk (is := [(.sipush (-1002), 0, 0, (-1002))]) (pc1 := 131) (lo1 := [(0, .ref 100), (1, .int x), (2, .int 7)]) (st1 := [.int (-1002)]) (w1 := (WX pgC pgL stC stL PA PS BA BS u)) (by decide +kernel) rfl ?_
        exact M.reti (nx := 132) (by decide +kernel) ⟨by rw [cellX, if_neg z8]; rfl, rfl⟩
      | 8, hj, hx16 =>
        cases hj
        have hx16 : y = 8 := i32_of hx16 (by decide)
        subst hx16
        refine M.blk (is := [(.sipush (-1002), 0, 0, (-1002))]) (pc1 := 131) (lo1 := [(0, .ref 100), (1, .int x), (2, .int 8)]) (st1 := [.int (-1002)]) (w1 := (WX pgC pgL stC stL PA PS BA BS u)) (by decide +kernel) rfl ?_
        exact M.reti (nx := 132) (by decide +kernel) ⟨by rw [cellX, if_neg z8]; rfl, rfl⟩
      | 9, hj, hx16 =>
        cases hj
        have hx16 : y = 9 := i32_of hx16 (by decide)
        subst hx16
        refine M.blk (is := [(.sipush (-1002), 0, 0, (-1002))]) (pc1 := 131) (lo1 := [(0, .ref 100), (1, .int x), (2, .int 9)]) (st1 := [.int (-1002)]) (w1 := (WX pgC pgL stC stL PA PS BA BS u)) (by decide +kernel) rfl ?_
        exact M.reti (nx := 132) (by decide +kernel) ⟨by rw [cellX, if_neg z8]; rfl, rfl⟩
      | 10, hj, hx16 =>
        cases hj
        have hx16 : y = 10 := i32_of hx16 (by decide)
        subst hx16
        refine M.blk (is := [(.aload_n 0, 0, 0, 0), (.getfield 22, 3, 2, 0), (.iload_n 1, 1, 0, 0), (.iload_n 2, 2, 0, 0), (.bipush 10, 0, 0, 10), (.isub, 0, 0, 0)]) (pc1 := 124) (lo1 := [(0, .ref 100), (1, .int x), (2, .int 10)]) (st1 := [.int 0, .int x, .ref 105]) (w1 := (WX pgC pgL stC stL PA PS BA BS u)) (by decide +kernel) rfl ?_
        refine M.callVi (as := [.int x, .int 0]) (st := []) (nx := 127) okX1_beside lkX3_90 (x_beside x 0) (by decide +kernel) (by decide) rfl (Nat.le_of_ble_eq_true rfl) rfl (by decide) ?_
        exact M.reti (nx := 128) (by decide +kernel) ⟨by rw [cellX, if_neg z8]; rfl, rfl⟩
      | 11, hj, hx16 =>
        cases hj
        have hx16 : y = 11 := i32_of hx16 (by decide)
        subst hx16
        refine M.blk (is := [(.aload_n 0, 0, 0, 0), (.getfield 22, 3, 2, 0), (.iload_n 1, 1, 0, 0), (.iload_n 2, 2, 0, 0), (.bipush 10, 0, 0, 10), (.isub, 0, 0, 0)]) (pc1 := 124) (lo1 := [(0, .ref 100), (1, .int x), (2, .int 11)]) (st1 := [.int 1, .int x, .ref 105]) (w1 := (WX pgC pgL stC stL PA PS BA BS u)) (by decide +kernel) rfl ?_
        refine M.callVi (as := [.int x, .int 1]) (st := []) (nx := 127) okX1_beside lkX3_90 (x_beside x 1) (by decide +kernel) (by decide) rfl (Nat.le_of_ble_eq_true rfl) rfl (by decide) ?_
        exact M.reti (nx := 128) (by decide +kernel) ⟨by rw [cellX, if_neg z8]; rfl, rfl⟩
      | 12, hj, hx16 =>
        cases hj
        have hx16 : y = 12 := i32_of hx16 (by decide)
        subst hx16
        refine M.blk (is := [(.aload_n 0, 0, 0, 0), (.getfield 22, 3, 2, 0), (.iload_n 1, 1, 0, 0), (.iload_n 2, 2, 0, 0), (.bipush 10, 0, 0, 10), (.isub, 0, 0, 0)]) (pc1 := 124) (lo1 := [(0, .ref 100), (1, .int x), (2, .int 12)]) (st1 := [.int 2, .int x, .ref 105]) (w1 := (WX pgC pgL stC stL PA PS BA BS u)) (by decide +kernel) rfl ?_
        refine M.callVi (as := [.int x, .int 2]) (st := []) (nx := 127) okX1_beside lkX3_90 (x_beside x 2) (by decide +kernel) (by decide) rfl (Nat.le_of_ble_eq_true rfl) rfl (by decide) ?_
        exact M.reti (nx := 128) (by decide +kernel) ⟨by rw [cellX, if_neg z8]; rfl, rfl⟩
      | 13, hj, hx16 =>
        cases hj
        have hx16 : y = 13 := i32_of hx16 (by decide)
        subst hx16
        refine M.blk (is := [(.aload_n 0, 0, 0, 0), (.getfield 22, 3, 2, 0), (.iload_n 1, 1, 0, 0), (.iload_n 2, 2, 0, 0), (.bipush 10, 0, 0, 10), (.isub, 0, 0, 0)]) (pc1 := 124) (lo1 := [(0, .ref 100), (1, .int x), (2, .int 13)]) (st1 := [.int 3, .int x, .ref 105]) (w1 := (WX pgC pgL stC stL PA PS BA BS u)) (by decide +kernel) rfl ?_
        refine M.callVi (as := [.int x, .int 3]) (st := []) (nx := 127) okX1_beside lkX3_90 (x_beside x 3) (by decide +kernel) (by decide) rfl (Nat.le_of_ble_eq_true rfl) rfl (by decide) ?_
        exact M.reti (nx := 128) (by decide +kernel) ⟨by rw [cellX, if_neg z8]; rfl, rfl⟩
      | j + 14, hj, _ => exact absurd hj (by simp)
    · refine M.blk (is := [(.sipush (-1002), 0, 0, (-1002))]) (pc1 := 131) (lo1 := [(0, .ref 100), (1, .int x), (2, .int y)]) (st1 := [.int (-1002)]) (w1 := (WX pgC pgL stC stL PA PS BA BS u)) (by decide +kernel) rfl ?_
      exact M.reti (nx := 132) (by decide +kernel) ⟨by rw [cellX, if_neg z8, cell_out hx16], rfl⟩
  · refine M.blk (is := [(.sipush (-1001), 0, 0, (-1001))]) (pc1 := 14) (lo1 := [(0, .ref 100), (1, .int x), (2, .int y)]) (st1 := [.int (-1001)]) (w1 := (WX pgC pgL stC stL PA PS BA BS u)) (by decide +kernel) rfl ?_
    exact M.reti (nx := 15) (by decide +kernel) ⟨by rw [cellX, if_pos z8], rfl⟩
theorem x_sheet (x y : Int32) : CC 4 mX3_sheet 0 0 [.ref 100, .int x, .int y] (WX pgC pgL stC stL PA PS BA BS u) (fun r0 w1 => (¬ layP x y ∧ r0 = some (.int (-1002)) ∧ w1 = (WX pgC pgL stC stL PA PS BA BS u)) ∨ (∃ r c : Nat, x = nI r ∧ y = nI c ∧ (3 ≤ r ∧ r ≤ 5) ∧ (3 ≤ c ∧ c ≤ 5) ∧ r0 = some (.int (nI (r * c))) ∧ ∃ PB PT, w1 = WX pgC pgL stC stL PB PT BA (upd BS 5 0) u ∧ PlOk r c 1 0 0 PB PT)) := by
  refine CC.of okX3_sheet.1 (Nat.le_of_ble_eq_true rfl) (fun g M => ?_)
  show g 0 0 0 [(0, .ref 100), (1, .int x), (2, .int y)] [] (WX pgC pgL stC stL PA PS BA BS u)
  refine M.blk (is := [(.aload_n 0, 0, 0, 0), (.getfield 22, 3, 2, 0)]) (pc1 := 4) (lo1 := [(0, .ref 100), (1, .int x), (2, .int y)]) (st1 := [.ref 105]) (w1 := (WX pgC pgL stC stL PA PS BA BS u)) (by decide +kernel) rfl ?_
  refine M.blk (is := [(.iload_n 1, 1, 0, 0), (.iload_n 2, 2, 0, 0)]) (pc1 := 6) (lo1 := [(0, .ref 100), (1, .int x), (2, .int y)]) (st1 := [.int y, .int x, .ref 105]) (w1 := (WX pgC pgL stC stL PA PS BA BS u)) (by decide +kernel) rfl ?_
  refine M.callV (as := [.int x, .int y]) (st := []) (nx := 9) okX1_lay lkX3_64 (s_lay (c0 := xo) (c1 := sg 102 pgL) (c2 := ar 64 pgC) (c3 := sg 104 stL) (c4 := ar 64 stC) (PA := PA) (PS := PS) (rest := bnl BA BS) (u := u) x y) (by decide +kernel) (by decide) rfl (by decide) rfl (by decide) ⟨by decide, by decide⟩ ?_
  intro r0 w1 hq
  rcases hq with ⟨rfl, rfl, hno⟩ | ⟨rfl, r, c, hxr, hyc, hr, hc, PB, PT, rfl, hok⟩
  · show g 0 0 9 [(0, .ref 100), (1, .int x), (2, .int y)] [.int 0] (WX pgC pgL stC stL PA PS BA BS u)
    refine M.if_ne (off := 7) (tgt := 16) (nx := 12) (by decide +kernel) (fun h => absurd h (by decide)) (fun _ => ?_)
    refine M.blk (is := [(.sipush (-1002), 0, 0, (-1002))]) (pc1 := 15) (lo1 := [(0, .ref 100), (1, .int x), (2, .int y)]) (st1 := [.int (-1002)]) (w1 := (WX pgC pgL stC stL PA PS BA BS u)) (by decide +kernel) rfl ?_
    exact M.reti (nx := 16) (by decide +kernel) (Or.inl ⟨hno, rfl, rfl⟩)
  · show g 0 0 9 [(0, .ref 100), (1, .int x), (2, .int y)] [.int 1] (WX pgC pgL stC stL PB PT BA BS u)
    refine M.if_ne (off := 7) (tgt := 16) (nx := 12) (by decide +kernel) (fun _ => ?_) (fun h => absurd h (by decide))
    refine M.blk (is := [(.aload_n 0, 0, 0, 0), (.getfield 29, 3, 3, 0)]) (pc1 := 20) (lo1 := [(0, .ref 100), (1, .int x), (2, .int y)]) (st1 := [.ref 113]) (w1 := (WX pgC pgL stC stL PB PT BA BS u)) (by decide +kernel) rfl ?_
    refine M.callVv (as := []) (st := []) (nx := 23) okX0_forget lkX3_56 x_forget (by decide +kernel) (by decide) rfl (Nat.le_of_ble_eq_true rfl) rfl (by decide) ?_
    show g 0 0 23 [(0, .ref 100), (1, .int x), (2, .int y)] [] (WX pgC pgL stC stL PB PT BA (upd BS 5 0) u)
    refine M.blk (is := [(.aload_n 0, 0, 0, 0), (.getfield 22, 3, 2, 0), (.getfield 68, 1, 9, 0)]) (pc1 := 30) (lo1 := [(0, .ref 100), (1, .int x), (2, .int y)]) (st1 := [.int (PT 9)]) (w1 := (WX pgC pgL stC stL PB PT BA (upd BS 5 0) u)) (by decide +kernel) rfl ?_
    exact M.reti (nx := 31) (by decide +kernel) (Or.inr ⟨r, c, hxr, hyc, hr, hc, by rw [hok.1.2.2.1], PB, PT, rfl, hok⟩)
theorem fix_t {n f h m : Nat} (e : (f * m + h) % n = m) : fixC n f h (m + 1) = fixC n f h m + 1 := by
  show fixC n f h m + (if (f * m + h) % n = m then 1 else 0) = _
  rw [if_pos e]
theorem fix_f {n f h m : Nat} (e : ¬ (f * m + h) % n = m) : fixC n f h (m + 1) = fixC n f h m := by
  show fixC n f h m + (if (f * m + h) % n = m then 1 else 0) = _
  rw [if_neg e]; rfl
theorem clF_nI {PA : Nat → Nat → Int32} {PS : Nat → Int32} {k m : Nat} (hm : PS 9 = nI m) (h25 : m ≤ 25) (hk : k < m) : clF PA PS (nI k) = PA 5 k := by
  unfold clF
  rw [hasF_nI hm h25 hk, if_neg (by decide), nI_clamp (by omega)]
theorem x_scramble {r c f0 h0 t0 : Nat} (hgeo : GeoOk r c f0 h0 t0) (hpl : PlOk r c f0 h0 t0 PA PS) (x y z : Int32) : CC 3 mX3_scramble 0 0 [.ref 100, .int x, .int y, .int z] (WX pgC pgL stC stL PA PS BA BS u) (fun r0 w1 => (¬ mixP r (r * c) x y z ∧ r0 = some (.int (-1002)) ∧ w1 = (WX pgC pgL stC stL PA PS BA BS u)) ∨ (∃ f h t : Nat, (x = nI f ∧ y = nI h ∧ z = nI t) ∧ GeoOk r c f h t ∧ r0 = some (.int (nI (fixC (r * c) f h (r * c)))) ∧ ∃ PB PT, w1 = WX pgC pgL stC stL PB PT BA BS u ∧ PlOk r c f h t PB PT)) := by
  have h25 : r * c ≤ 25 := Nat.mul_le_mul hgeo.1.2 hgeo.2.1.2
  have h9a : 9 ≤ r * c := Nat.mul_le_mul hgeo.1.1 hgeo.2.1.1
  obtain ⟨⟨e7, e8, e9, e10, e11, e12⟩, hlay, hmx⟩ := hpl
  refine CC.of okX3_scramble.1 (Nat.le_of_ble_eq_true rfl) (fun g M => ?_)
  show g 0 0 0 [(0, .ref 100), (1, .int x), (2, .int y), (3, .int z)] [] (WX pgC pgL stC stL PA PS BA BS u)
  refine M.blk (is := [(.aload_n 0, 0, 0, 0), (.getfield 22, 3, 2, 0), (.iload_n 1, 1, 0, 0), (.iload_n 2, 2, 0, 0), (.iload_n 3, 3, 0, 0)]) (pc1 := 7) (lo1 := [(0, .ref 100), (1, .int x), (2, .int y), (3, .int z)]) (st1 := [.int z, .int y, .int x, .ref 105]) (w1 := (WX pgC pgL stC stL PA PS BA BS u)) (by decide +kernel) rfl ?_
  refine M.callV (as := [.int x, .int y, .int z]) (st := []) (nx := 10) okX1_mix lkX3_71 (s_mix (c0 := xo) (c1 := sg 102 pgL) (c2 := ar 64 pgC) (c3 := sg 104 stL) (c4 := ar 64 stC) (PA := PA) (PS := PS) (rest := bnl BA BS) (u := u) e7 e9 hgeo.1.2 ⟨by omega, h25⟩ x y z) (by decide +kernel) (by decide) rfl (by decide) rfl (by decide) ⟨by decide, by decide⟩ ?_
  intro r0 w1 hq
  rcases hq with ⟨rfl, rfl, hno⟩ | ⟨rfl, f, h, t, ⟨ex, ey, ez, hf1, hf, hg, hh, ht⟩, PB, rfl, hk, hmix⟩
  · show g 0 0 10 [(0, .ref 100), (1, .int x), (2, .int y), (3, .int z)] [.int 0] (WX pgC pgL stC stL PA PS BA BS u)
    refine M.if_ne (off := 7) (tgt := 17) (nx := 13) (by decide +kernel) (fun h => absurd h (by decide)) (fun _ => ?_)
    refine M.blk (is := [(.sipush (-1002), 0, 0, (-1002))]) (pc1 := 16) (lo1 := [(0, .ref 100), (1, .int x), (2, .int y), (3, .int z)]) (st1 := [.int (-1002)]) (w1 := (WX pgC pgL stC stL PA PS BA BS u)) (by decide +kernel) rfl ?_
    exact M.reti (nx := 17) (by decide +kernel) (Or.inl ⟨hno, rfl, rfl⟩)
  · show g 0 0 10 [(0, .ref 100), (1, .int x), (2, .int y), (3, .int z)] [.int 1] (WX pgC pgL stC stL PB (upd (upd (upd PS 10 x) 11 y) 12 z) BA BS u)
    have hok : PlOk r c f h t PB (upd (upd (upd PS 10 x) 11 y) 12 z) := ⟨⟨e7, e8, e9, ex, ey, ez⟩, ⟨fun k hk1 => by rw [hk 0 (by decide), hk 2 (by decide), hk 3 (by decide), hk 4 (by decide)]; exact hlay.1 k hk1, fun t ht => by rw [hk 1 (by decide)]; exact hlay.2 t ht⟩, hmix⟩
    have lp : ∀ k m, m + k = r * c → g 0 0 23 [(0, .ref 100), (4, .int (nI (fixC (r * c) f h m))), (5, .int (nI m))] [] (WX pgC pgL stC stL PB (upd (upd (upd PS 10 x) 11 y) 12 z) BA BS u) := by
      intro k
      induction k with
      | zero =>
        intro m hm
        have em : r * c = m := by omega
        rw [← em]
        refine M.blk (is := [(.iload 5, 5, 0, 0), (.aload_n 0, 0, 0, 0), (.getfield 22, 3, 2, 0), (.getfield 68, 1, 9, 0)]) (pc1 := 32) (lo1 := [(0, .ref 100), (4, .int (nI (fixC (r * c) f h (r * c)))), (5, .int (nI (r * c)))]) (st1 := [.int (PS 9), .int (nI (r * c))]) (w1 := (WX pgC pgL stC stL PB (upd (upd (upd PS 10 x) 11 y) 12 z) BA BS u)) (by decide +kernel) rfl ?_
        refine M.icmp_ge (off := 26) (tgt := 58) (nx := 35) (by decide +kernel) (fun z32 => ?_) (fun z32 => by exfalso; exact z32 (by rw [e9]; exact nI_le (Nat.le_refl _) (by omega)))
        refine M.blk (is := [(.iload 4, 4, 0, 0)]) (pc1 := 60) (lo1 := [(0, .ref 100), (4, .int (nI (fixC (r * c) f h (r * c)))), (5, .int (nI (r * c)))]) (st1 := [.int (nI (fixC (r * c) f h (r * c)))]) (w1 := (WX pgC pgL stC stL PB (upd (upd (upd PS 10 x) 11 y) 12 z) BA BS u)) (by decide +kernel) rfl ?_
        exact M.reti (nx := 61) (by decide +kernel) (Or.inr ⟨f, h, t, ⟨ex, ey, ez⟩, ⟨hgeo.1, hgeo.2.1, ⟨hf1, hf⟩, hg, hh, ht⟩, rfl, PB, _, rfl, hok⟩)
      | succ k ih =>
        intro m hm
        have hfl := fixC_le (r * c) f h m
        refine M.blk (is := [(.iload 5, 5, 0, 0), (.aload_n 0, 0, 0, 0), (.getfield 22, 3, 2, 0), (.getfield 68, 1, 9, 0)]) (pc1 := 32) (lo1 := [(0, .ref 100), (4, .int (nI (fixC (r * c) f h m))), (5, .int (nI m))]) (st1 := [.int (PS 9), .int (nI m)]) (w1 := (WX pgC pgL stC stL PB (upd (upd (upd PS 10 x) 11 y) 12 z) BA BS u)) (by decide +kernel) rfl ?_
        refine M.icmp_ge (off := 26) (tgt := 58) (nx := 35) (by decide +kernel) (fun z32 => by exfalso; rw [e9] at z32; exact nI_ge (show m < r * c by omega) (by omega) z32) (fun z32 => ?_)
        refine M.blk (is := [(.aload_n 0, 0, 0, 0), (.getfield 22, 3, 2, 0), (.iload 5, 5, 0, 0)]) (pc1 := 41) (lo1 := [(0, .ref 100), (4, .int (nI (fixC (r * c) f h m))), (5, .int (nI m))]) (st1 := [.int (nI m), .ref 105]) (w1 := (WX pgC pgL stC stL PB (upd (upd (upd PS 10 x) 11 y) 12 z) BA BS u)) (by decide +kernel) rfl ?_
        refine M.callVi (as := [.int (nI m)]) (st := []) (nx := 44) okX1_cellOf lkX3_75 (x_cellOf (PA := PB) (PS := (upd (upd (upd PS 10 x) 11 y) 12 z)) (nI m)) (by decide +kernel) (by decide) rfl (Nat.le_of_ble_eq_true rfl) rfl (by decide) ?_
        rw [clF_nI (m := r * c) (PS := (upd (upd (upd PS 10 x) 11 y) 12 z)) e9 h25 (show m < r * c by omega), (hmix m (by omega)).1]
        refine M.blk (is := [(.iload 5, 5, 0, 0)]) (pc1 := 46) (lo1 := [(0, .ref 100), (4, .int (nI (fixC (r * c) f h m))), (5, .int (nI m))]) (st1 := [.int (nI m), .int (nI ((f * m + h) % (r * c)))]) (w1 := (WX pgC pgL stC stL PB (upd (upd (upd PS 10 x) 11 y) 12 z) BA BS u)) (by decide +kernel) rfl ?_
        refine M.icmp_ne (off := 6) (tgt := 52) (nx := 49) (by decide +kernel) (fun z46 => ?_) (fun z46 => ?_)
        · refine M.blk (is := [(.iinc 5 1, 5, 0, 1), (.goto (-32), 23, 0, 0)]) (pc1 := 23) (lo1 := [(5, .int ((nI m) + 1)), (0, .ref 100), (4, .int (nI (fixC (r * c) f h m)))]) (st1 := []) (w1 := (WX pgC pgL stC stL PB (upd (upd (upd PS 10 x) 11 y) 12 z) BA BS u)) (by decide +kernel) rfl ?_
          refine M.lsub [1, 2, 0] (lo1 := [(0, .ref 100), (4, .int (nI (fixC (r * c) f h m))), (5, .int ((nI m) + 1))]) rfl ?_
          rw [nI_1, ← fix_f (fun e => z46 (by rw [e]))]
          exact ih (m + 1) (by omega)
        · refine M.blk (is := [(.iinc 4 1, 4, 0, 1), (.iinc 5 1, 5, 0, 1), (.goto (-32), 23, 0, 0)]) (pc1 := 23) (lo1 := [(5, .int ((nI m) + 1)), (4, .int ((nI (fixC (r * c) f h m)) + 1)), (0, .ref 100)]) (st1 := []) (w1 := (WX pgC pgL stC stL PB (upd (upd (upd PS 10 x) 11 y) 12 z) BA BS u)) (by decide +kernel) rfl ?_
          refine M.lsub [2, 1, 0] (lo1 := [(0, .ref 100), (4, .int ((nI (fixC (r * c) f h m)) + 1)), (5, .int ((nI m) + 1))]) rfl ?_
          rw [nI_1, nI_1, ← fix_t (nI_inj (Nat.lt_trans (Nat.mod_lt _ (by omega)) (by omega)) (by omega) z46)]
          exact ih (m + 1) (by omega)
    refine M.if_ne (off := 7) (tgt := 17) (nx := 13) (by decide +kernel) (fun _ => ?_) (fun h => absurd h (by decide))
    refine M.blk (is := [(.iconst 0, 0, 0, 0), (.istore 4, 4, 0, 0), (.iconst 0, 0, 0, 0), (.istore 5, 5, 0, 0)]) (pc1 := 23) (lo1 := [(5, .int 0), (4, .int 0), (0, .ref 100), (1, .int x), (2, .int y), (3, .int z)]) (st1 := []) (w1 := (WX pgC pgL stC stL PB (upd (upd (upd PS 10 x) 11 y) 12 z) BA BS u)) (by decide +kernel) rfl ?_
    refine M.lsub [2, 1, 0] (lo1 := [(0, .ref 100), (4, .int 0), (5, .int 0)]) rfl ?_
    exact lp (r * c) 0 (by omega)
theorem parts_out {k : Int32} (h : k.toInt < 0 ∨ 0 + (([28, 28, 31] : List Nat).length : Int) ≤ k.toInt) : partsI k = 0 := by
  have key : ∀ v : Int32, 0 ≤ v.toInt → v.toInt ≤ 2 → ¬ k = v := by
    rintro v h1 h2 rfl
    simp only [List.length_cons, List.length_nil] at h
    omega
  unfold partsI
  rw [if_neg (key 0 (by decide) (by decide)), if_neg (key 1 (by decide) (by decide)), if_neg (key 2 (by decide) (by decide))]
theorem s_partsOf (w0 : Wd) (k : Int32) : CC 0 mX3_partsOf 0 0 [.int k] w0 (Rt (partsI k) w0) := by
  refine CC.of okX3_partsOf.1 (Nat.le_of_ble_eq_true rfl) (fun g M => ?_)
  show g 0 0 0 [(0, .int k)] [] w0
  refine M.blk (is := [(.iload_n 0, 0, 0, 0)]) (pc1 := 1) (lo1 := [(0, .int k)]) (st1 := [.int k]) (w1 := w0) (by decide +kernel) rfl ?_
  refine M.tsw (dflt := 34) (a := 0) (b := 2) (offs := #[27, 27, 30]) (len := 27) (tg := [28, 28, 31]) (dt := 35) (by decide +kernel) (fun j t hj hx1 => ?_) (fun hx1 => ?_)
  · match j, hj, hx1 with
    | 0, hj, hx1 =>
      cases hj
      have hx1 : k = 0 := i32_of hx1 (by decide)
      subst hx1
      refine M.blk (is := [(.bipush 32, 0, 0, 32)]) (pc1 := 30) (lo1 := [(0, .int 0)]) (st1 := [.int 32]) (w1 := w0) (by decide +kernel) rfl ?_
      exact M.reti (nx := 31) (by decide +kernel) ⟨rfl, rfl⟩
    | 1, hj, hx1 =>
      cases hj
      have hx1 : k = 1 := i32_of hx1 (by decide)
      subst hx1
      refine M.blk (is := [(.bipush 32, 0, 0, 32)]) (pc1 := 30) (lo1 := [(0, .int 1)]) (st1 := [.int 32]) (w1 := w0) (by decide +kernel) rfl ?_
      exact M.reti (nx := 31) (by decide +kernel) ⟨rfl, rfl⟩
    | 2, hj, hx1 =>
      cases hj
      have hx1 : k = 2 := i32_of hx1 (by decide)
      subst hx1
      refine M.blk (is := [(.sipush 128, 0, 0, 128)]) (pc1 := 34) (lo1 := [(0, .int 2)]) (st1 := [.int 128]) (w1 := w0) (by decide +kernel) rfl ?_
      exact M.reti (nx := 35) (by decide +kernel) ⟨rfl, rfl⟩
    | j + 3, hj, _ => exact absurd hj (by simp)
  · refine M.blk (is := [(.iconst 0, 0, 0, 0)]) (pc1 := 36) (lo1 := [(0, .int k)]) (st1 := [.int 0]) (w1 := w0) (by decide +kernel) rfl ?_
    exact M.reti (nx := 37) (by decide +kernel) ⟨by rw [parts_out hx1], rfl⟩
theorem s_sightsDue (w0 : Wd) (th : Nat) : CC 0 mX3_sightsDue 0 0 [.int (nI th)] w0 (Rt (dueA th 16) w0) := by
  refine CC.of okX3_sightsDue.1 (Nat.le_of_ble_eq_true rfl) (fun g M => ?_)
  have lp : ∀ m k, k + m = 16 → g 0 0 4 [(0, .int (nI th)), (1, .int (dueA th k)), (2, .int (nI k))] [] w0 := by
    intro m
    induction m with
    | zero =>
      intro k hk
      have ek : k = 16 := by omega
      subst ek
      refine M.blk (is := [(.iload_n 2, 2, 0, 0), (.bipush 16, 0, 0, 16)]) (pc1 := 7) (lo1 := [(0, .int (nI th)), (1, .int (dueA th 16)), (2, .int (nI 16))]) (st1 := [.int 16, .int (nI 16)]) (w1 := w0) (by decide +kernel) rfl ?_
      refine M.icmp_ge (off := 30) (tgt := 37) (nx := 10) (by decide +kernel) (fun z7 => ?_) (fun z7 => by exfalso; exact z7 (by decide))
      refine M.blk (is := [(.iload_n 1, 1, 0, 0)]) (pc1 := 38) (lo1 := [(0, .int (nI th)), (1, .int (dueA th 16)), (2, .int (nI 16))]) (st1 := [.int (dueA th 16)]) (w1 := w0) (by decide +kernel) rfl ?_
      exact M.reti (nx := 39) (by decide +kernel) ⟨rfl, rfl⟩
    | succ m ih =>
      intro k hk
      refine M.blk (is := [(.iload_n 2, 2, 0, 0), (.bipush 16, 0, 0, 16)]) (pc1 := 7) (lo1 := [(0, .int (nI th)), (1, .int (dueA th k)), (2, .int (nI k))]) (st1 := [.int 16, .int (nI k)]) (w1 := w0) (by decide +kernel) rfl ?_
      refine M.icmp_ge (off := 30) (tgt := 37) (nx := 10) (by decide +kernel) (fun z7 => by exfalso; exact nI_ge (a := k) (b := 16) (by omega) (by decide) z7) (fun z7 => ?_)
      refine M.blk (is := [(.iload_n 2, 2, 0, 0), (.iload_n 0, 0, 0, 0), (.iconst (-1), 0, 0, (-1)), (.ixor, 0, 0, 0), (.iand, 0, 0, 0)]) (pc1 := 15) (lo1 := [(0, .int (nI th)), (1, .int (dueA th k)), (2, .int (nI k))]) (st1 := [.int ((nI k) &&& ((nI th) ^^^ (-1)))]) (w1 := w0) (by decide +kernel) rfl ?_
      refine M.if_ne (off := 16) (tgt := 31) (nx := 18) (by decide +kernel) (fun z15 => ?_) (fun z15 => ?_)
      · refine M.blk (is := [(.iinc 2 1, 2, 0, 1), (.goto (-30), 4, 0, 0)]) (pc1 := 4) (lo1 := [(2, .int ((nI k) + 1)), (0, .int (nI th)), (1, .int (dueA th k))]) (st1 := []) (w1 := w0) (by decide +kernel) rfl ?_
        refine M.lsub [1, 2, 0] (lo1 := [(0, .int (nI th)), (1, .int (dueA th k)), (2, .int ((nI k) + 1))]) rfl ?_
        rw [nI_1]
        have e := ih (k + 1) (by omega)
        unfold dueA at e
        rw [if_neg z15] at e
        exact e
      · refine M.blk (is := [(.iload_n 1, 1, 0, 0), (.iconst 1, 0, 0, 1), (.iload_n 2, 2, 0, 0), (.ishl, 0, 0, 0), (.iconst 1, 0, 0, 1), (.bipush 16, 0, 0, 16), (.iload_n 2, 2, 0, 0), (.iadd, 0, 0, 0), (.ishl, 0, 0, 0), (.ior, 0, 0, 0), (.ior, 0, 0, 0), (.istore_n 1, 1, 0, 0), (.iinc 2 1, 2, 0, 1), (.goto (-30), 4, 0, 0)]) (pc1 := 4) (lo1 := [(2, .int ((nI k) + 1)), (1, .int ((dueA th k) ||| (((1 : Int32) <<< ((nI k) &&& 31)) ||| ((1 : Int32) <<< ((16 + (nI k)) &&& 31))))), (0, .int (nI th))]) (st1 := []) (w1 := w0) (by decide +kernel) rfl ?_
        refine M.lsub [2, 1, 0] (lo1 := [(0, .int (nI th)), (1, .int ((dueA th k) ||| (((1 : Int32) <<< ((nI k) &&& 31)) ||| ((1 : Int32) <<< ((16 + (nI k)) &&& 31))))), (2, .int ((nI k) + 1))]) rfl ?_
        rw [nI_1]
        have e := ih (k + 1) (by omega)
        unfold dueA at e
        rw [if_pos z15] at e
        exact e
  show g 0 0 0 [(0, .int (nI th))] [] w0
  refine M.blk (is := [(.iconst 0, 0, 0, 0), (.istore_n 1, 1, 0, 0), (.iconst 0, 0, 0, 0), (.istore_n 2, 2, 0, 0)]) (pc1 := 4) (lo1 := [(2, .int 0), (1, .int 0), (0, .int (nI th))]) (st1 := []) (w1 := w0) (by decide +kernel) rfl ?_
  refine M.lsub [2, 1, 0] (lo1 := [(0, .int (nI th)), (1, .int 0), (2, .int 0)]) rfl ?_
  exact lp 16 0 (by omega)
end SHEET
end
section
section BENCH
variable {pgC : Nat → Int32} {pgL : Int32} {stC : Nat → Int32} {stL : Int32} {PA : Nat → Nat → Int32} {PS : Nat → Int32} {BA : Nat → Nat → Int32} {BS : Nat → Int32} {u : List Cl}
def kI (κ : Nat) : Int32 := if κ = 0 then 0 else if κ = 1 then 1 else if κ = 2 then 2 else -1
def ptsN (κ : Nat) : Nat := if κ = 0 then 32 else if κ = 1 then 32 else if κ = 2 then 128 else 0
theorem ptsN_le (κ : Nat) : ptsN κ ≤ 128 := by unfold ptsN; (repeat' split) <;> omega
theorem kI_0 (κ : Nat) : kI κ = 0 ↔ κ = 0 := by
  unfold kI
  constructor
  · intro h; split at h
    · assumption
    · split at h
      · exact absurd h (by decide)
      · split at h <;> exact absurd h (by decide)
  · intro h; rw [if_pos h]
theorem kI_1 (κ : Nat) : kI κ = 1 ↔ κ = 1 := by
  unfold kI
  constructor
  · intro h; split at h
    · exact absurd h (by decide)
    · split at h
      · assumption
      · split at h <;> exact absurd h (by decide)
  · intro h; subst h; rfl
theorem kI_2 (κ : Nat) : kI κ = 2 ↔ κ = 2 := by
  unfold kI
  constructor
  · intro h; split at h
    · exact absurd h (by decide)
    · split at h
      · exact absurd h (by decide)
      · split at h
        · assumption
        · exact absurd h (by decide)
  · intro h; subst h; rfl
theorem parts_kI (κ : Nat) : partsI (kI κ) = nI (ptsN κ) := by
  unfold ptsN
  split
  · rename_i h; subst h; rfl
  · split
    · rename_i h; subst h; rfl
    · split
      · rename_i h; subst h; rfl
      · rename_i h0 h1 h2
        unfold kI
        rw [if_neg h0, if_neg h1, if_neg h2]
        rfl
def wrF (s h : Int32) : Int32 := if s = 122 then 0 else if s = 111 then 1 else 1 - h
def wrN (s : Int32) (h : Nat) : Nat := if s = 122 then 0 else if s = 111 then 1 else 1 - h
theorem wrN_2 (s : Int32) (h : Nat) : wrN s h < 2 := by unfold wrN; (repeat' split) <;> omega
theorem wrF_nI (s : Int32) {h : Nat} (h2 : h < 2) : wrF s (nI h) = nI (wrN s h) := by
  unfold wrF wrN
  split
  · rfl
  · split
    · rfl
    · rw [show (1 : Int32) = nI 1 from rfl, pk_sub (by omega)]
def isW (τ s : Int32) : Bool := !decide (τ = -1) && (decide (figF s = 0) || decide (τ = s - 48))
def itsF (κ k pat v : Nat) (f : Nat → Int32) : Nat → Int32 := fun p => if p < k ∧ ¬ (κ = 1 ∧ p = 2 * pat + 1 - v) then nI v else f p
def trnF (q : Nat) (f : Nat → Int32) : Nat → Int32 := fun p => if p = q ∧ f q = 0 then 1 else if p = q + 1 ∧ f (q + 1) = 1 then 0 else f p
def hldF (κ pat : Nat) (f : Nat → Int32) : Nat → Int32 := fun p => if κ = 0 ∧ p = 2 * pat then 0 else if κ = 0 ∧ p = 2 * pat + 1 then 1 else f p
def rmB (pat k : Nat) : Nat := pat % 2 ^ k + (pat / 2 ^ (k + 1)) * 2 ^ k
def besB (κ k : Nat) (s : Int32) (pat : Nat) (f : Nat → Int32) : Nat × (Nat → Int32) := if wrN s (pat / 2 ^ k % 2) = pat / 2 ^ k % 2 then (pat, f) else (pat ^^^ 2 ^ k, if κ = 2 then trnF (32 * k + 16 * wrN s (pat / 2 ^ k % 2) + 2 * rmB (pat ^^^ 2 ^ k) k) f else f)
def rdM (k : Nat) (v : Int32) (B M : Nat → Int32) : Nat → Int32 := fun p => if p < k ∧ ¬ B p = v then M p + 1 else M p
def rdF (k : Nat) (v x : Int32) (B M F : Nat → Int32) : Nat → Int32 := fun p => if p < k ∧ ¬ B p = v ∧ M p = 0 then x else F p
def rdR (k : Nat) (v : Int32) (B M R : Nat → Int32) : Nat → Int32 := fun p => if p < k ∧ ¬ B p = v ∧ M p = 0 then B p else R p
theorem upd_id {f : Nat → Int32} {k : Nat} {v : Int32} (h : f k = v) : upd f k v = f := by
  funext j
  unfold upd
  split
  · rename_i e; rw [e, h]
  · rfl
theorem va_up_id {α : Type} {f : Nat → α} {k : Nat} {v : α} (h : f k = v) : va_up f k v = f := by
  funext j
  unfold va_up
  split
  · rename_i e; rw [e, h]
  · rfl
theorem s_written (w0 : Wd) (s h : Int32) : CC 0 mX0_written 0 0 [.int s, .int h] w0 (Rt (wrF s h) w0) := by
  refine CC.of okX0_written.1 (Nat.le_of_ble_eq_true rfl) (fun g M => ?_)
  show g 0 0 0 [(0, .int s), (1, .int h)] [] w0
  refine M.blk (is := [(.iload_n 0, 0, 0, 0), (.bipush 122, 0, 0, 122)]) (pc1 := 3) (lo1 := [(0, .int s), (1, .int h)]) (st1 := [.int 122, .int s]) (w1 := w0) (by decide +kernel) rfl ?_
  refine M.icmp_ne (off := 7) (tgt := 10) (nx := 6) (by decide +kernel) (fun z3 => ?_) (fun z3 => ?_)
  · refine M.blk (is := [(.iload_n 0, 0, 0, 0), (.bipush 111, 0, 0, 111)]) (pc1 := 13) (lo1 := [(0, .int s), (1, .int h)]) (st1 := [.int 111, .int s]) (w1 := w0) (by decide +kernel) rfl ?_
    refine M.icmp_ne (off := 7) (tgt := 20) (nx := 16) (by decide +kernel) (fun z13 => ?_) (fun z13 => ?_)
    · refine M.blk (is := [(.iconst 1, 0, 0, 1), (.iload_n 1, 1, 0, 0), (.isub, 0, 0, 0)]) (pc1 := 23) (lo1 := [(0, .int s), (1, .int h)]) (st1 := [.int (1 - h)]) (w1 := w0) (by decide +kernel) rfl ?_
      exact M.reti (nx := 24) (by decide +kernel) ⟨by simp [wrF, *], rfl⟩
    · refine M.blk (is := [(.iconst 1, 0, 0, 1), (.goto 6, 23, 0, 0)]) (pc1 := 23) (lo1 := [(0, .int s), (1, .int h)]) (st1 := [.int 1]) (w1 := w0) (by decide +kernel) rfl ?_
      exact M.reti (nx := 24) (by decide +kernel) ⟨by simp [wrF, *], rfl⟩
  · refine M.blk (is := [(.iconst 0, 0, 0, 0), (.goto 16, 23, 0, 0)]) (pc1 := 23) (lo1 := [(0, .int s), (1, .int h)]) (st1 := [.int 0]) (w1 := w0) (by decide +kernel) rfl ?_
    exact M.reti (nx := 24) (by decide +kernel) ⟨by simp [wrF, *], rfl⟩
theorem x_isWritten {d : Nat} (hd : d < 5) (s : Int32) : CC 1 mX0_isWritten 0 0 [.ref 113, .int (nI d), .int s] (WX pgC pgL stC stL PA PS BA BS u) (Rt (b2i (isW (BA 4 d) s)) (WX pgC pgL stC stL PA PS BA BS u)) := by
  refine CC.of okX0_isWritten.1 (Nat.le_of_ble_eq_true rfl) (fun g M => ?_)
  show g 0 0 0 [(0, .ref 113), (1, .int (nI d)), (2, .int s)] [] (WX pgC pgL stC stL PA PS BA BS u)
  refine M.blk (is := [(.iload_n 1, 1, 0, 0)]) (pc1 := 1) (lo1 := [(0, .ref 113), (1, .int (nI d)), (2, .int s)]) (st1 := [.int (nI d)]) (w1 := (WX pgC pgL stC stL PA PS BA BS u)) (by decide +kernel) rfl ?_
  refine M.if_lt (off := 22) (tgt := 23) (nx := 4) (by decide +kernel) (fun z1 => by exfalso; exact nI_pos (by omega) z1) (fun z1 => ?_)
  refine M.blk (is := [(.iload_n 1, 1, 0, 0), (.aload_n 0, 0, 0, 0), (.getfield 24, 0, 4, 0)]) (pc1 := 9) (lo1 := [(0, .ref 113), (1, .int (nI d)), (2, .int s)]) (st1 := [.ref 118, .int (nI d)]) (w1 := (WX pgC pgL stC stL PA PS BA BS u)) (by decide +kernel) rfl ?_
  refine M.alen (n := 5) (f := BA 4) (b := false) (nx := 10) (by decide +kernel) rfl ?_
  show g 0 0 10 [(0, .ref 113), (1, .int (nI d)), (2, .int s)] [.int 5, .int (nI d)] (WX pgC pgL stC stL PA PS BA BS u)
  refine M.icmp_ge (off := 13) (tgt := 23) (nx := 13) (by decide +kernel) (fun z10 => by exfalso; exact nI_ge (a := d) (b := 5) hd (by decide) z10) (fun z10 => ?_)
  refine M.blk (is := [(.aload_n 0, 0, 0, 0), (.getfield 24, 0, 4, 0), (.iload_n 1, 1, 0, 0)]) (pc1 := 18) (lo1 := [(0, .ref 113), (1, .int (nI d)), (2, .int s)]) (st1 := [.int (nI d), .ref 118]) (w1 := (WX pgC pgL stC stL PA PS BA BS u)) (by decide +kernel) rfl ?_
  refine M.ald (n := 5) (f := BA 4) (j := d) (nx := 19) (by decide +kernel) rfl rfl (by omega) (by decide) ?_
  refine M.blk (is := [(.iconst (-1), 0, 0, (-1))]) (pc1 := 20) (lo1 := [(0, .ref 113), (1, .int (nI d)), (2, .int s)]) (st1 := [.int (-1), .int ((BA 4) d)]) (w1 := (WX pgC pgL stC stL PA PS BA BS u)) (by decide +kernel) rfl ?_
  refine M.icmp_ne (off := 5) (tgt := 25) (nx := 23) (by decide +kernel) (fun z20 => ?_) (fun z20 => ?_)
  · refine M.blk (is := [(.iload_n 2, 2, 0, 0)]) (pc1 := 26) (lo1 := [(0, .ref 113), (1, .int (nI d)), (2, .int s)]) (st1 := [.int s]) (w1 := (WX pgC pgL stC stL PA PS BA BS u)) (by decide +kernel) rfl ?_
    refine M.callSi (as := [.int s]) (st := []) (nx := 29) okX3_isFigure lkX0_109 (s_isFigure (WX pgC pgL stC stL PA PS BA BS u) s) (by decide +kernel) (by decide) rfl (Nat.le_of_ble_eq_true rfl) ?_
    refine M.if_eq (off := 16) (tgt := 45) (nx := 32) (by decide +kernel) (fun z29 => ?_) (fun z29 => ?_)
    · refine M.blk (is := [(.iconst 1, 0, 0, 1), (.goto 4, 50, 0, 0)]) (pc1 := 50) (lo1 := [(0, .ref 113), (1, .int (nI d)), (2, .int s)]) (st1 := [.int 1]) (w1 := (WX pgC pgL stC stL PA PS BA BS u)) (by decide +kernel) rfl ?_
      exact M.retz (nx := 51) (by decide +kernel) (by decide) ⟨by simp [isW, b2i, *], rfl⟩
    · refine M.blk (is := [(.aload_n 0, 0, 0, 0), (.getfield 24, 0, 4, 0), (.iload_n 1, 1, 0, 0)]) (pc1 := 37) (lo1 := [(0, .ref 113), (1, .int (nI d)), (2, .int s)]) (st1 := [.int (nI d), .ref 118]) (w1 := (WX pgC pgL stC stL PA PS BA BS u)) (by decide +kernel) rfl ?_
      refine M.ald (n := 5) (f := BA 4) (j := d) (nx := 38) (by decide +kernel) rfl rfl (by omega) (by decide) ?_
      refine M.blk (is := [(.iload_n 2, 2, 0, 0), (.bipush 48, 0, 0, 48), (.isub, 0, 0, 0)]) (pc1 := 42) (lo1 := [(0, .ref 113), (1, .int (nI d)), (2, .int s)]) (st1 := [.int (s - 48), .int ((BA 4) d)]) (w1 := (WX pgC pgL stC stL PA PS BA BS u)) (by decide +kernel) rfl ?_
      refine M.icmp_ne (off := 7) (tgt := 49) (nx := 45) (by decide +kernel) (fun z42 => ?_) (fun z42 => ?_)
      · refine M.blk (is := [(.iconst 0, 0, 0, 0)]) (pc1 := 50) (lo1 := [(0, .ref 113), (1, .int (nI d)), (2, .int s)]) (st1 := [.int 0]) (w1 := (WX pgC pgL stC stL PA PS BA BS u)) (by decide +kernel) rfl ?_
        exact M.retz (nx := 51) (by decide +kernel) (by decide) ⟨by simp [isW, b2i, *], rfl⟩
      · refine M.blk (is := [(.iconst 1, 0, 0, 1), (.goto 4, 50, 0, 0)]) (pc1 := 50) (lo1 := [(0, .ref 113), (1, .int (nI d)), (2, .int s)]) (st1 := [.int 1]) (w1 := (WX pgC pgL stC stL PA PS BA BS u)) (by decide +kernel) rfl ?_
        exact M.retz (nx := 51) (by decide +kernel) (by decide) ⟨by unfold isW; rw [decide_eq_false z20, decide_eq_false z29, decide_eq_true z42]; rfl, rfl⟩
  · refine M.blk (is := [(.iconst 0, 0, 0, 0)]) (pc1 := 24) (lo1 := [(0, .ref 113), (1, .int (nI d)), (2, .int s)]) (st1 := [.int 0]) (w1 := (WX pgC pgL stC stL PA PS BA BS u)) (by decide +kernel) rfl ?_
    exact M.retz (nx := 25) (by decide +kernel) (by decide) ⟨by simp [isW, b2i, *], rfl⟩
theorem its_0 {κ pat v : Nat} {f : Nat → Int32} : itsF κ 0 pat v f = f := by funext p; unfold itsF; rw [if_neg (by omega)]
theorem its_skip {κ k pat v : Nat} {f : Nat → Int32} (h : κ = 1 ∧ k = 2 * pat + 1 - v) : itsF κ k pat v f = itsF κ (k + 1) pat v f := by
  funext p
  unfold itsF
  by_cases hp : p = k
  · subst hp
    rw [if_neg (by omega), if_neg (fun e => e.2 h)]
  · by_cases hq : p < k
    · simp only [hq, show p < k + 1 by omega]
    · rw [if_neg (fun e => hq e.1), if_neg (fun e => by omega)]
theorem its_put {κ k pat v : Nat} {f : Nat → Int32} (h : ¬ (κ = 1 ∧ k = 2 * pat + 1 - v)) : upd (itsF κ k pat v f) k (nI v) = itsF κ (k + 1) pat v f := by
  funext p
  by_cases hp : p = k
  · subst hp
    rw [pk_us]
    unfold itsF
    rw [if_pos ⟨by omega, h⟩]
  · rw [pk_un hp]
    unfold itsF
    by_cases hq : p < k
    · simp only [hq, show p < k + 1 by omega]
    · rw [if_neg (fun e => hq e.1), if_neg (fun e => by omega)]
theorem its_sp {κ pat v : Nat} {x y b : Int32} (h7 : x = kI κ) (h10 : y = nI pat) (hp : pat < 16) (hv : v < 2) (hb : b = if ¬ x = 1 then (-1 : Int32) else 2 * y + 1 - nI v) : ∀ k, k < 128 → (nI k = b ↔ (κ = 1 ∧ k = 2 * pat + 1 - v)) := by
  intro k hk
  have hx1 : x = 1 ↔ κ = 1 := by rw [h7]; exact kI_1 κ
  by_cases h1 : κ = 1
  · rw [if_neg (fun h => h (hx1.mpr h1)), h10, show (2 : Int32) = nI 2 from rfl, show (1 : Int32) = nI 1 from rfl, pk_mul, nI_add, pk_sub (by omega)] at hb
    rw [hb, nI_eq (by omega) (by omega)]
    constructor
    · intro e; exact ⟨h1, e⟩
    · intro e; exact e.2
  · rw [if_pos (fun h => h1 (hx1.mp h))] at hb
    rw [hb]
    constructor
    · intro e; exact absurd e (oI_ne (by omega))
    · intro e; exact absurd e.1 h1
theorem x_writeItself {κ pat sh : Nat} (h7 : BS 7 = kI κ) (h8 : BS 8 = nI (ptsN κ)) (h10 : BS 10 = nI pat) (hp : pat < 16) (h11 : BS 11 = nI sh) (hs2 : sh < 2) (s : Int32) : CC 1 mX0_writeItself 0 0 [.ref 113, .int s] (WX pgC pgL stC stL PA PS BA BS u) (Rv (WX pgC pgL stC stL PA PS (va_up BA 0 (itsF κ (ptsN κ) pat (wrN s sh) (BA 0))) (upd BS 11 (nI (wrN s sh))) u)) := by
  have hv2 := wrN_2 s sh
  have hP := ptsN_le κ
  refine CC.of okX0_writeItself.1 (Nat.le_of_ble_eq_true rfl) (fun g M => ?_)
  show g 0 0 0 [(0, .ref 113), (1, .int s)] [] (WX pgC pgL stC stL PA PS BA BS u)
  refine M.blk (is := [(.aload_n 0, 0, 0, 0), (.iload_n 1, 1, 0, 0), (.aload_n 0, 0, 0, 0), (.getfield 83, 0, 11, 0)]) (pc1 := 6) (lo1 := [(0, .ref 113), (1, .int s)]) (st1 := [.int (BS 11), .int s, .ref 113]) (w1 := (WX pgC pgL stC stL PA PS BA BS u)) (by decide +kernel) rfl ?_
  refine M.callSi (as := [.int s, .int (BS 11)]) (st := [.ref 113]) (nx := 9) okX0_written lkX0_113 (s_written (WX pgC pgL stC stL PA PS BA BS u) s (BS 11)) (by decide +kernel) (by decide) rfl (Nat.le_of_ble_eq_true rfl) ?_
  rw [h11, wrF_nI s hs2]
  refine M.blk (is := [(.putfield 83, 0, 11, 0), (.aload_n 0, 0, 0, 0), (.getfield 35, 0, 7, 0), (.iconst 1, 0, 0, 1)]) (pc1 := 17) (lo1 := [(0, .ref 113), (1, .int s)]) (st1 := [.int 1, .int (BS 7)]) (w1 := (WX pgC pgL stC stL PA PS BA (upd BS 11 (nI (wrN s sh))) u)) (by decide +kernel) rfl ?_
  have j17 : ∀ b17 : Int32, b17 = (if ¬ BS 7 = 1 then ((-1) : Int32) else ((2 * (BS 10)) + 1) - (nI (wrN s sh))) → g 0 0 37 [(0, .ref 113), (1, .int s)] [.int b17] (WX pgC pgL stC stL PA PS BA (upd BS 11 (nI (wrN s sh))) u) := by
    intro b17 hb17
    refine M.blk (is := [(.istore_n 2, 2, 0, 0)]) (pc1 := 38) (lo1 := [(2, .int b17), (0, .ref 113), (1, .int s)]) (st1 := []) (w1 := (WX pgC pgL stC stL PA PS BA (upd BS 11 (nI (wrN s sh))) u)) (by decide +kernel) rfl ?_
    have hsp : ∀ k, k < 128 → (nI k = b17 ↔ (κ = 1 ∧ k = 2 * pat + 1 - wrN s sh)) := its_sp h7 h10 hp hv2 hb17
    have lp : ∀ m k, k + m = ptsN κ → g 0 0 40 [(0, .ref 113), (2, .int b17), (3, .int (nI k))] [] (WX pgC pgL stC stL PA PS (va_up BA 0 (itsF κ k pat (wrN s sh) (BA 0))) (upd BS 11 (nI (wrN s sh))) u) := by
      intro m
      induction m with
      | zero =>
        intro k hk
        have ek : ptsN κ = k := by omega
        rw [← ek]
        refine M.blk (is := [(.iload_n 3, 3, 0, 0), (.aload_n 0, 0, 0, 0), (.getfield 70, 0, 8, 0)]) (pc1 := 45) (lo1 := [(0, .ref 113), (2, .int b17), (3, .int (nI (ptsN κ)))]) (st1 := [.int (BS 8), .int (nI (ptsN κ))]) (w1 := (WX pgC pgL stC stL PA PS (va_up BA 0 (itsF κ (ptsN κ) pat (wrN s sh) (BA 0))) (upd BS 11 (nI (wrN s sh))) u)) (by decide +kernel) rfl ?_
        refine M.icmp_ge (off := 24) (tgt := 69) (nx := 48) (by decide +kernel) (fun z45 => ?_) (fun z45 => by exfalso; exact z45 (by rw [h8]; exact nI_le (Nat.le_refl _) (by omega)))
        exact M.retv (nx := 70) (by decide +kernel) ⟨rfl, rfl⟩
      | succ m ih =>
        intro k hk
        refine M.blk (is := [(.iload_n 3, 3, 0, 0), (.aload_n 0, 0, 0, 0), (.getfield 70, 0, 8, 0)]) (pc1 := 45) (lo1 := [(0, .ref 113), (2, .int b17), (3, .int (nI k))]) (st1 := [.int (BS 8), .int (nI k)]) (w1 := (WX pgC pgL stC stL PA PS (va_up BA 0 (itsF κ k pat (wrN s sh) (BA 0))) (upd BS 11 (nI (wrN s sh))) u)) (by decide +kernel) rfl ?_
        refine M.icmp_ge (off := 24) (tgt := 69) (nx := 48) (by decide +kernel) (fun z45 => by exfalso; rw [h8] at z45; exact nI_ge (show k < ptsN κ by omega) (by omega) z45) (fun z45 => ?_)
        refine M.blk (is := [(.iload_n 3, 3, 0, 0), (.iload_n 2, 2, 0, 0)]) (pc1 := 50) (lo1 := [(0, .ref 113), (2, .int b17), (3, .int (nI k))]) (st1 := [.int b17, .int (nI k)]) (w1 := (WX pgC pgL stC stL PA PS (va_up BA 0 (itsF κ k pat (wrN s sh) (BA 0))) (upd BS 11 (nI (wrN s sh))) u)) (by decide +kernel) rfl ?_
        refine M.icmp_eq (off := 13) (tgt := 63) (nx := 53) (by decide +kernel) (fun z50 => ?_) (fun z50 => ?_)
        · refine M.blk (is := [(.iinc 3 1, 3, 0, 1), (.goto (-26), 40, 0, 0)]) (pc1 := 40) (lo1 := [(3, .int ((nI k) + 1)), (0, .ref 113), (2, .int b17)]) (st1 := []) (w1 := (WX pgC pgL stC stL PA PS (va_up BA 0 (itsF κ k pat (wrN s sh) (BA 0))) (upd BS 11 (nI (wrN s sh))) u)) (by decide +kernel) rfl ?_
          refine M.lsub [1, 2, 0] (lo1 := [(0, .ref 113), (2, .int b17), (3, .int ((nI k) + 1))]) rfl ?_
          rw [nI_1, its_skip ((hsp k (by omega)).mp z50)]
          exact ih (k + 1) (by omega)
        · refine M.blk (is := [(.aload_n 0, 0, 0, 0), (.getfield 9, 0, 0, 0), (.iload_n 3, 3, 0, 0), (.aload_n 0, 0, 0, 0), (.getfield 83, 0, 11, 0)]) (pc1 := 62) (lo1 := [(0, .ref 113), (2, .int b17), (3, .int (nI k))]) (st1 := [.int (nI (wrN s sh)), .int (nI k), .ref 114]) (w1 := (WX pgC pgL stC stL PA PS (va_up BA 0 (itsF κ k pat (wrN s sh) (BA 0))) (upd BS 11 (nI (wrN s sh))) u)) (by decide +kernel) rfl ?_
          refine M.ast (n := 128) (f := itsF κ k pat (wrN s sh) (BA 0)) (j := k) (nx := 63) (by decide +kernel) rfl rfl (by omega) (by decide) ?_
          show g 0 0 63 [(0, .ref 113), (2, .int b17), (3, .int (nI k))] [] (WX pgC pgL stC stL PA PS (va_up BA 0 (upd (itsF κ k pat (wrN s sh) (BA 0)) k (nI (wrN s sh)))) (upd BS 11 (nI (wrN s sh))) u)
          refine M.blk (is := [(.iinc 3 1, 3, 0, 1), (.goto (-26), 40, 0, 0)]) (pc1 := 40) (lo1 := [(3, .int ((nI k) + 1)), (0, .ref 113), (2, .int b17)]) (st1 := []) (w1 := (WX pgC pgL stC stL PA PS (va_up BA 0 (upd (itsF κ k pat (wrN s sh) (BA 0)) k (nI (wrN s sh)))) (upd BS 11 (nI (wrN s sh))) u)) (by decide +kernel) rfl ?_
          refine M.lsub [1, 2, 0] (lo1 := [(0, .ref 113), (2, .int b17), (3, .int ((nI k) + 1))]) rfl ?_
          rw [nI_1, its_put (fun e => z50 ((hsp k (by omega)).mpr e))]
          exact ih (k + 1) (by omega)
    refine M.blk (is := [(.iconst 0, 0, 0, 0), (.istore_n 3, 3, 0, 0)]) (pc1 := 40) (lo1 := [(3, .int 0), (2, .int b17), (0, .ref 113), (1, .int s)]) (st1 := []) (w1 := (WX pgC pgL stC stL PA PS BA (upd BS 11 (nI (wrN s sh))) u)) (by decide +kernel) rfl ?_
    refine M.lsub [2, 1, 0] (lo1 := [(0, .ref 113), (2, .int b17), (3, .int 0)]) rfl ?_
    have e0 := lp (ptsN κ) 0 (by omega)
    rw [its_0] at e0
    rw [va_up_id (f := BA) (k := 0) rfl] at e0
    exact e0
  refine M.icmp_ne (off := 19) (tgt := 36) (nx := 20) (by decide +kernel) (fun z17 => ?_) (fun z17 => ?_)
  · refine M.blk (is := [(.iconst (-1), 0, 0, (-1))]) (pc1 := 37) (lo1 := [(0, .ref 113), (1, .int s)]) (st1 := [.int (-1)]) (w1 := (WX pgC pgL stC stL PA PS BA (upd BS 11 (nI (wrN s sh))) u)) (by decide +kernel) rfl ?_
    exact j17 _ (if_pos z17).symm
  · refine M.blk (is := [(.iconst 2, 0, 0, 2), (.aload_n 0, 0, 0, 0), (.getfield 80, 0, 10, 0), (.imul, 0, 0, 0), (.iconst 1, 0, 0, 1), (.iadd, 0, 0, 0), (.aload_n 0, 0, 0, 0), (.getfield 83, 0, 11, 0), (.isub, 0, 0, 0), (.goto 4, 37, 0, 0)]) (pc1 := 37) (lo1 := [(0, .ref 113), (1, .int s)]) (st1 := [.int (((2 * (BS 10)) + 1) - (nI (wrN s sh)))]) (w1 := (WX pgC pgL stC stL PA PS BA (upd BS 11 (nI (wrN s sh))) u)) (by decide +kernel) rfl ?_
    exact j17 _ (if_neg (fun h => h z17)).symm
theorem nI_a0 (q : Nat) : nI q + 0 = nI q := by rw [show (0 : Int32) = nI 0 from rfl, nI_add]; rfl
theorem trn_tt {q : Nat} {f : Nat → Int32} (h1 : f q = 0) (h2 : upd f q 1 (q + 1) = 1) : trnF q f = upd (upd f q 1) (q + 1) 0 := by
  rw [pk_un (by omega)] at h2
  funext p
  unfold trnF
  by_cases e1 : p = q + 1
  · subst e1; rw [if_neg (by omega), if_pos ⟨rfl, h2⟩, pk_us]
  · rw [pk_un e1]
    by_cases e2 : p = q
    · subst e2; rw [if_pos ⟨rfl, h1⟩, pk_us]
    · rw [pk_un e2, if_neg (fun h => e2 h.1), if_neg (fun h => e1 h.1)]
theorem trn_tf {q : Nat} {f : Nat → Int32} (h1 : f q = 0) (h2 : ¬ upd f q 1 (q + 1) = 1) : trnF q f = upd f q 1 := by
  rw [pk_un (by omega)] at h2
  funext p
  unfold trnF
  by_cases e2 : p = q
  · subst e2; rw [if_pos ⟨rfl, h1⟩, pk_us]
  · rw [pk_un e2, if_neg (fun h => e2 h.1), if_neg (fun h => h2 h.2)]
theorem trn_ft {q : Nat} {f : Nat → Int32} (h1 : ¬ f q = 0) (h2 : f (q + 1) = 1) : trnF q f = upd f (q + 1) 0 := by
  funext p
  unfold trnF
  rw [if_neg (fun h => h1 h.2)]
  by_cases e1 : p = q + 1
  · subst e1; rw [if_pos ⟨rfl, h2⟩, pk_us]
  · rw [pk_un e1, if_neg (fun h => e1 h.1)]
theorem trn_ff {q : Nat} {f : Nat → Int32} (h1 : ¬ f q = 0) (h2 : ¬ f (q + 1) = 1) : trnF q f = f := by
  funext p
  unfold trnF
  rw [if_neg (fun h => h1 h.2), if_neg (fun h => h2 h.2)]
theorem x_turn {q P : Nat} (h8 : BS 8 = nI P) (hq : q + 1 < P) (hP : P ≤ 128) : CC 0 mX0_turn 0 0 [.ref 113, .int (nI q)] (WX pgC pgL stC stL PA PS BA BS u) (Rv (WX pgC pgL stC stL PA PS (va_up BA 0 (trnF q (BA 0))) BS u)) := by
  refine CC.of okX0_turn.1 (Nat.le_of_ble_eq_true rfl) (fun g M => ?_)
  show g 0 0 0 [(0, .ref 113), (1, .int (nI q))] [] (WX pgC pgL stC stL PA PS BA BS u)
  refine M.blk (is := [(.iconst 0, 0, 0, 0), (.istore_n 2, 2, 0, 0), (.iload_n 2, 2, 0, 0), (.iconst 1, 0, 0, 1)]) (pc1 := 4) (lo1 := [(2, .int 0), (0, .ref 113), (1, .int (nI q))]) (st1 := [.int 1, .int 0]) (w1 := (WX pgC pgL stC stL PA PS BA BS u)) (by decide +kernel) rfl ?_
  refine M.icmp_gt (off := 46) (tgt := 50) (nx := 7) (by decide +kernel) (fun h => absurd h (by decide)) (fun _ => ?_)
  refine M.blk (is := [(.iload_n 1, 1, 0, 0)]) (pc1 := 8) (lo1 := [(2, .int 0), (0, .ref 113), (1, .int (nI q))]) (st1 := [.int (nI q)]) (w1 := (WX pgC pgL stC stL PA PS BA BS u)) (by decide +kernel) rfl ?_
  refine M.if_lt (off := 36) (tgt := 44) (nx := 11) (by decide +kernel) (fun z8 => by exfalso; exact nI_pos (by omega) z8) (fun z8 => ?_)
  refine M.blk (is := [(.iload_n 1, 1, 0, 0), (.iload_n 2, 2, 0, 0), (.iadd, 0, 0, 0), (.aload_n 0, 0, 0, 0), (.getfield 70, 0, 8, 0)]) (pc1 := 18) (lo1 := [(2, .int 0), (0, .ref 113), (1, .int (nI q))]) (st1 := [.int (BS 8), .int ((nI q) + 0)]) (w1 := (WX pgC pgL stC stL PA PS BA BS u)) (by decide +kernel) rfl ?_
  refine M.icmp_ge (off := 26) (tgt := 44) (nx := 21) (by decide +kernel) (fun z18 => by exfalso; rw [h8, nI_a0] at z18; exact nI_ge (by omega) (by omega) z18) (fun z18 => ?_)
  refine M.blk (is := [(.aload_n 0, 0, 0, 0), (.getfield 9, 0, 0, 0), (.iload_n 1, 1, 0, 0), (.iload_n 2, 2, 0, 0), (.iadd, 0, 0, 0)]) (pc1 := 28) (lo1 := [(2, .int 0), (0, .ref 113), (1, .int (nI q))]) (st1 := [.int ((nI q) + 0), .ref 114]) (w1 := (WX pgC pgL stC stL PA PS BA BS u)) (by decide +kernel) rfl ?_
  refine M.ald (n := 128) (f := BA 0) (j := q) (nx := 29) (by decide +kernel) rfl (nI_a0 q) (by omega) (by decide) ?_
  refine M.blk (is := [(.iload_n 2, 2, 0, 0)]) (pc1 := 30) (lo1 := [(2, .int 0), (0, .ref 113), (1, .int (nI q))]) (st1 := [.int 0, .int ((BA 0) q)]) (w1 := (WX pgC pgL stC stL PA PS BA BS u)) (by decide +kernel) rfl ?_
  refine M.icmp_ne (off := 14) (tgt := 44) (nx := 33) (by decide +kernel) (fun z30 => ?_) (fun z30 => ?_)
  · refine M.blk (is := [(.iinc 2 1, 2, 0, 1), (.goto (-45), 2, 0, 0), (.iload_n 2, 2, 0, 0), (.iconst 1, 0, 0, 1)]) (pc1 := 4) (lo1 := [(2, .int 1), (0, .ref 113), (1, .int (nI q))]) (st1 := [.int 1, .int 1]) (w1 := (WX pgC pgL stC stL PA PS BA BS u)) (by decide +kernel) rfl ?_
    refine M.icmp_gt (off := 46) (tgt := 50) (nx := 7) (by decide +kernel) (fun h => absurd h (by decide)) (fun _ => ?_)
    refine M.blk (is := [(.iload_n 1, 1, 0, 0)]) (pc1 := 8) (lo1 := [(2, .int 1), (0, .ref 113), (1, .int (nI q))]) (st1 := [.int (nI q)]) (w1 := (WX pgC pgL stC stL PA PS BA BS u)) (by decide +kernel) rfl ?_
    refine M.if_lt (off := 36) (tgt := 44) (nx := 11) (by decide +kernel) (fun z8_ => by exfalso; exact nI_pos (by omega) z8_) (fun z8_ => ?_)
    refine M.blk (is := [(.iload_n 1, 1, 0, 0), (.iload_n 2, 2, 0, 0), (.iadd, 0, 0, 0), (.aload_n 0, 0, 0, 0), (.getfield 70, 0, 8, 0)]) (pc1 := 18) (lo1 := [(2, .int 1), (0, .ref 113), (1, .int (nI q))]) (st1 := [.int (BS 8), .int ((nI q) + 1)]) (w1 := (WX pgC pgL stC stL PA PS BA BS u)) (by decide +kernel) rfl ?_
    refine M.icmp_ge (off := 26) (tgt := 44) (nx := 21) (by decide +kernel) (fun z18_ => by exfalso; rw [h8, nI_1] at z18_; exact nI_ge (by omega) (by omega) z18_) (fun z18_ => ?_)
    refine M.blk (is := [(.aload_n 0, 0, 0, 0), (.getfield 9, 0, 0, 0), (.iload_n 1, 1, 0, 0), (.iload_n 2, 2, 0, 0), (.iadd, 0, 0, 0)]) (pc1 := 28) (lo1 := [(2, .int 1), (0, .ref 113), (1, .int (nI q))]) (st1 := [.int ((nI q) + 1), .ref 114]) (w1 := (WX pgC pgL stC stL PA PS BA BS u)) (by decide +kernel) rfl ?_
    refine M.ald (n := 128) (f := BA 0) (j := q + 1) (nx := 29) (by decide +kernel) rfl (nI_1 q) (by omega) (by decide) ?_
    refine M.blk (is := [(.iload_n 2, 2, 0, 0)]) (pc1 := 30) (lo1 := [(2, .int 1), (0, .ref 113), (1, .int (nI q))]) (st1 := [.int 1, .int ((BA 0) (q + 1))]) (w1 := (WX pgC pgL stC stL PA PS BA BS u)) (by decide +kernel) rfl ?_
    refine M.icmp_ne (off := 14) (tgt := 44) (nx := 33) (by decide +kernel) (fun z30_ => ?_) (fun z30_ => ?_)
    · refine M.blk (is := [(.iinc 2 1, 2, 0, 1), (.goto (-45), 2, 0, 0), (.iload_n 2, 2, 0, 0), (.iconst 1, 0, 0, 1)]) (pc1 := 4) (lo1 := [(2, .int 2), (0, .ref 113), (1, .int (nI q))]) (st1 := [.int 1, .int 2]) (w1 := (WX pgC pgL stC stL PA PS BA BS u)) (by decide +kernel) rfl ?_
      refine M.icmp_gt (off := 46) (tgt := 50) (nx := 7) (by decide +kernel) (fun _ => ?_) (fun h => absurd h (by decide))
      exact M.retv (nx := 51) (by decide +kernel) ⟨rfl, by rw [trn_ff z30 z30_]; try exact congrArg (fun z => WX pgC pgL stC stL PA PS z BS u) (va_up_id rfl).symm⟩
    · refine M.blk (is := [(.aload_n 0, 0, 0, 0), (.getfield 9, 0, 0, 0), (.iload_n 1, 1, 0, 0), (.iload_n 2, 2, 0, 0), (.iadd, 0, 0, 0), (.iconst 1, 0, 0, 1), (.iload_n 2, 2, 0, 0), (.isub, 0, 0, 0)]) (pc1 := 43) (lo1 := [(2, .int 1), (0, .ref 113), (1, .int (nI q))]) (st1 := [.int 0, .int ((nI q) + 1), .ref 114]) (w1 := (WX pgC pgL stC stL PA PS BA BS u)) (by decide +kernel) rfl ?_
      refine M.ast (n := 128) (f := BA 0) (j := q + 1) (nx := 44) (by decide +kernel) rfl (nI_1 q) (by omega) (by decide) ?_
      show g 0 0 44 [(2, .int 1), (0, .ref 113), (1, .int (nI q))] [] (WX pgC pgL stC stL PA PS (va_up BA 0 (upd (BA 0) (q + 1) 0)) BS u)
      refine M.blk (is := [(.iinc 2 1, 2, 0, 1), (.goto (-45), 2, 0, 0), (.iload_n 2, 2, 0, 0), (.iconst 1, 0, 0, 1)]) (pc1 := 4) (lo1 := [(2, .int 2), (0, .ref 113), (1, .int (nI q))]) (st1 := [.int 1, .int 2]) (w1 := (WX pgC pgL stC stL PA PS (va_up BA 0 (upd (BA 0) (q + 1) 0)) BS u)) (by decide +kernel) rfl ?_
      refine M.icmp_gt (off := 46) (tgt := 50) (nx := 7) (by decide +kernel) (fun _ => ?_) (fun h => absurd h (by decide))
      exact M.retv (nx := 51) (by decide +kernel) ⟨rfl, by rw [trn_ft z30 z30_]; try exact congrArg (fun z => WX pgC pgL stC stL PA PS z BS u) (va_up_id rfl).symm⟩
  · refine M.blk (is := [(.aload_n 0, 0, 0, 0), (.getfield 9, 0, 0, 0), (.iload_n 1, 1, 0, 0), (.iload_n 2, 2, 0, 0), (.iadd, 0, 0, 0), (.iconst 1, 0, 0, 1), (.iload_n 2, 2, 0, 0), (.isub, 0, 0, 0)]) (pc1 := 43) (lo1 := [(2, .int 0), (0, .ref 113), (1, .int (nI q))]) (st1 := [.int 1, .int ((nI q) + 0), .ref 114]) (w1 := (WX pgC pgL stC stL PA PS BA BS u)) (by decide +kernel) rfl ?_
    refine M.ast (n := 128) (f := BA 0) (j := q) (nx := 44) (by decide +kernel) rfl (nI_a0 q) (by omega) (by decide) ?_
    show g 0 0 44 [(2, .int 0), (0, .ref 113), (1, .int (nI q))] [] (WX pgC pgL stC stL PA PS (va_up BA 0 (upd (BA 0) q 1)) BS u)
    refine M.blk (is := [(.iinc 2 1, 2, 0, 1), (.goto (-45), 2, 0, 0), (.iload_n 2, 2, 0, 0), (.iconst 1, 0, 0, 1)]) (pc1 := 4) (lo1 := [(2, .int 1), (0, .ref 113), (1, .int (nI q))]) (st1 := [.int 1, .int 1]) (w1 := (WX pgC pgL stC stL PA PS (va_up BA 0 (upd (BA 0) q 1)) BS u)) (by decide +kernel) rfl ?_
    refine M.icmp_gt (off := 46) (tgt := 50) (nx := 7) (by decide +kernel) (fun h => absurd h (by decide)) (fun _ => ?_)
    refine M.blk (is := [(.iload_n 1, 1, 0, 0)]) (pc1 := 8) (lo1 := [(2, .int 1), (0, .ref 113), (1, .int (nI q))]) (st1 := [.int (nI q)]) (w1 := (WX pgC pgL stC stL PA PS (va_up BA 0 (upd (BA 0) q 1)) BS u)) (by decide +kernel) rfl ?_
    refine M.if_lt (off := 36) (tgt := 44) (nx := 11) (by decide +kernel) (fun z8_ => by exfalso; exact nI_pos (by omega) z8_) (fun z8_ => ?_)
    refine M.blk (is := [(.iload_n 1, 1, 0, 0), (.iload_n 2, 2, 0, 0), (.iadd, 0, 0, 0), (.aload_n 0, 0, 0, 0), (.getfield 70, 0, 8, 0)]) (pc1 := 18) (lo1 := [(2, .int 1), (0, .ref 113), (1, .int (nI q))]) (st1 := [.int (BS 8), .int ((nI q) + 1)]) (w1 := (WX pgC pgL stC stL PA PS (va_up BA 0 (upd (BA 0) q 1)) BS u)) (by decide +kernel) rfl ?_
    refine M.icmp_ge (off := 26) (tgt := 44) (nx := 21) (by decide +kernel) (fun z18_ => by exfalso; rw [h8, nI_1] at z18_; exact nI_ge (by omega) (by omega) z18_) (fun z18_ => ?_)
    refine M.blk (is := [(.aload_n 0, 0, 0, 0), (.getfield 9, 0, 0, 0), (.iload_n 1, 1, 0, 0), (.iload_n 2, 2, 0, 0), (.iadd, 0, 0, 0)]) (pc1 := 28) (lo1 := [(2, .int 1), (0, .ref 113), (1, .int (nI q))]) (st1 := [.int ((nI q) + 1), .ref 114]) (w1 := (WX pgC pgL stC stL PA PS (va_up BA 0 (upd (BA 0) q 1)) BS u)) (by decide +kernel) rfl ?_
    refine M.ald (n := 128) (f := upd (BA 0) q 1) (j := q + 1) (nx := 29) (by decide +kernel) rfl (nI_1 q) (by omega) (by decide) ?_
    refine M.blk (is := [(.iload_n 2, 2, 0, 0)]) (pc1 := 30) (lo1 := [(2, .int 1), (0, .ref 113), (1, .int (nI q))]) (st1 := [.int 1, .int ((upd (BA 0) q 1) (q + 1))]) (w1 := (WX pgC pgL stC stL PA PS (va_up BA 0 (upd (BA 0) q 1)) BS u)) (by decide +kernel) rfl ?_
    refine M.icmp_ne (off := 14) (tgt := 44) (nx := 33) (by decide +kernel) (fun z30_ => ?_) (fun z30_ => ?_)
    · refine M.blk (is := [(.iinc 2 1, 2, 0, 1), (.goto (-45), 2, 0, 0), (.iload_n 2, 2, 0, 0), (.iconst 1, 0, 0, 1)]) (pc1 := 4) (lo1 := [(2, .int 2), (0, .ref 113), (1, .int (nI q))]) (st1 := [.int 1, .int 2]) (w1 := (WX pgC pgL stC stL PA PS (va_up BA 0 (upd (BA 0) q 1)) BS u)) (by decide +kernel) rfl ?_
      refine M.icmp_gt (off := 46) (tgt := 50) (nx := 7) (by decide +kernel) (fun _ => ?_) (fun h => absurd h (by decide))
      exact M.retv (nx := 51) (by decide +kernel) ⟨rfl, by rw [trn_tf z30 z30_]; try exact congrArg (fun z => WX pgC pgL stC stL PA PS z BS u) (va_up_id rfl).symm⟩
    · refine M.blk (is := [(.aload_n 0, 0, 0, 0), (.getfield 9, 0, 0, 0), (.iload_n 1, 1, 0, 0), (.iload_n 2, 2, 0, 0), (.iadd, 0, 0, 0), (.iconst 1, 0, 0, 1), (.iload_n 2, 2, 0, 0), (.isub, 0, 0, 0)]) (pc1 := 43) (lo1 := [(2, .int 1), (0, .ref 113), (1, .int (nI q))]) (st1 := [.int 0, .int ((nI q) + 1), .ref 114]) (w1 := (WX pgC pgL stC stL PA PS (va_up BA 0 (upd (BA 0) q 1)) BS u)) (by decide +kernel) rfl ?_
      refine M.ast (n := 128) (f := upd (BA 0) q 1) (j := q + 1) (nx := 44) (by decide +kernel) rfl (nI_1 q) (by omega) (by decide) ?_
      show g 0 0 44 [(2, .int 1), (0, .ref 113), (1, .int (nI q))] [] (WX pgC pgL stC stL PA PS (va_up BA 0 (upd (upd (BA 0) q 1) (q + 1) 0)) BS u)
      refine M.blk (is := [(.iinc 2 1, 2, 0, 1), (.goto (-45), 2, 0, 0), (.iload_n 2, 2, 0, 0), (.iconst 1, 0, 0, 1)]) (pc1 := 4) (lo1 := [(2, .int 2), (0, .ref 113), (1, .int (nI q))]) (st1 := [.int 1, .int 2]) (w1 := (WX pgC pgL stC stL PA PS (va_up BA 0 (upd (upd (BA 0) q 1) (q + 1) 0)) BS u)) (by decide +kernel) rfl ?_
      refine M.icmp_gt (off := 46) (tgt := 50) (nx := 7) (by decide +kernel) (fun _ => ?_) (fun h => absurd h (by decide))
      exact M.retv (nx := 51) (by decide +kernel) ⟨rfl, by rw [trn_tt z30 z30_]; try exact congrArg (fun z => WX pgC pgL stC stL PA PS z BS u) (va_up_id rfl).symm⟩
theorem hld_0 {pat : Nat} {f : Nat → Int32} : upd (upd f (2 * pat) 0) (2 * pat + 1) 1 = hldF 0 pat f := by
  funext p
  unfold hldF
  by_cases e1 : p = 2 * pat + 1
  · subst e1; rw [pk_us, if_neg (by omega), if_pos ⟨rfl, rfl⟩]
  · rw [pk_un e1]
    by_cases e2 : p = 2 * pat
    · subst e2; rw [pk_us, if_pos ⟨rfl, rfl⟩]
    · rw [pk_un e2, if_neg (fun h => e2 h.2), if_neg (fun h => e1 h.2)]
theorem hld_n {κ pat : Nat} {f : Nat → Int32} (h : ¬ κ = 0) : hldF κ pat f = f := by
  funext p
  unfold hldF
  rw [if_neg (fun e => h e.1), if_neg (fun e => h e.1)]
theorem x_hold {κ pat : Nat} (h7 : BS 7 = kI κ) (h8 : BS 8 = nI (ptsN κ)) (h10 : BS 10 = nI pat) (hp : pat < 16) : CC 0 mX0_hold 0 0 [.ref 113] (WX pgC pgL stC stL PA PS BA BS u) (Rv (WX pgC pgL stC stL PA PS (va_up BA 0 (hldF κ pat (BA 0))) BS u)) := by
  refine CC.of okX0_hold.1 (Nat.le_of_ble_eq_true rfl) (fun g M => ?_)
  have h2p : 2 * BS 10 = nI (2 * pat) := by rw [h10, show (2 : Int32) = nI 2 from rfl, pk_mul]
  show g 0 0 0 [(0, .ref 113)] [] (WX pgC pgL stC stL PA PS BA BS u)
  refine M.blk (is := [(.iconst 2, 0, 0, 2), (.aload_n 0, 0, 0, 0), (.getfield 80, 0, 10, 0), (.imul, 0, 0, 0), (.istore_n 1, 1, 0, 0)]) (pc1 := 7) (lo1 := [(1, .int (2 * (BS 10))), (0, .ref 113)]) (st1 := []) (w1 := (WX pgC pgL stC stL PA PS BA BS u)) (by decide +kernel) rfl ?_
  rw [h2p]
  refine M.blk (is := [(.aload_n 0, 0, 0, 0), (.getfield 35, 0, 7, 0)]) (pc1 := 11) (lo1 := [(1, .int (nI (2 * pat))), (0, .ref 113)]) (st1 := [.int (BS 7)]) (w1 := (WX pgC pgL stC stL PA PS BA BS u)) (by decide +kernel) rfl ?_
  refine M.if_ne (off := 33) (tgt := 44) (nx := 14) (by decide +kernel) (fun z11 => ?_) (fun z11 => ?_)
  · exact M.retv (nx := 45) (by decide +kernel) ⟨rfl, by rw [hld_n (fun e => z11 (by rw [h7, e]; rfl)), va_up_id (f := BA) (k := 0) rfl]⟩
  · have ek := (kI_0 κ).mp (h7 ▸ z11)
    have hP : ptsN κ = 32 := by rw [ek]; rfl
    refine M.blk (is := [(.iload_n 1, 1, 0, 0)]) (pc1 := 15) (lo1 := [(1, .int (nI (2 * pat))), (0, .ref 113)]) (st1 := [.int (nI (2 * pat))]) (w1 := (WX pgC pgL stC stL PA PS BA BS u)) (by decide +kernel) rfl ?_
    refine M.if_lt (off := 29) (tgt := 44) (nx := 18) (by decide +kernel) (fun z15 => by exfalso; exact nI_pos (by omega) z15) (fun z15 => ?_)
    refine M.blk (is := [(.iload_n 1, 1, 0, 0), (.iconst 1, 0, 0, 1), (.iadd, 0, 0, 0), (.aload_n 0, 0, 0, 0), (.getfield 70, 0, 8, 0)]) (pc1 := 25) (lo1 := [(1, .int (nI (2 * pat))), (0, .ref 113)]) (st1 := [.int (BS 8), .int ((nI (2 * pat)) + 1)]) (w1 := (WX pgC pgL stC stL PA PS BA BS u)) (by decide +kernel) rfl ?_
    refine M.icmp_ge (off := 19) (tgt := 44) (nx := 28) (by decide +kernel) (fun z25 => by exfalso; rw [h8, hP, nI_1] at z25; exact nI_ge (by omega) (by omega) z25) (fun z25 => ?_)
    refine M.blk (is := [(.aload_n 0, 0, 0, 0), (.getfield 9, 0, 0, 0), (.iload_n 1, 1, 0, 0), (.iconst 0, 0, 0, 0)]) (pc1 := 34) (lo1 := [(1, .int (nI (2 * pat))), (0, .ref 113)]) (st1 := [.int 0, .int (nI (2 * pat)), .ref 114]) (w1 := (WX pgC pgL stC stL PA PS BA BS u)) (by decide +kernel) rfl ?_
    refine M.ast (n := 128) (f := BA 0) (j := (2 * pat)) (nx := 35) (by decide +kernel) rfl rfl (by omega) (by decide) ?_
    show g 0 0 35 [(1, .int (nI (2 * pat))), (0, .ref 113)] [] (WX pgC pgL stC stL PA PS (va_up BA 0 (upd (BA 0) (2 * pat) 0)) BS u)
    refine M.blk (is := [(.aload_n 0, 0, 0, 0), (.getfield 9, 0, 0, 0), (.iload_n 1, 1, 0, 0), (.iconst 1, 0, 0, 1), (.iadd, 0, 0, 0), (.iconst 1, 0, 0, 1)]) (pc1 := 43) (lo1 := [(1, .int (nI (2 * pat))), (0, .ref 113)]) (st1 := [.int 1, .int ((nI (2 * pat)) + 1), .ref 114]) (w1 := (WX pgC pgL stC stL PA PS (va_up BA 0 (upd (BA 0) (2 * pat) 0)) BS u)) (by decide +kernel) rfl ?_
    refine M.ast (n := 128) (f := upd (BA 0) (2 * pat) 0) (j := 2 * pat + 1) (nx := 44) (by decide +kernel) rfl (nI_1 _) (by omega) (by decide) ?_
    show g 0 0 44 [(1, .int (nI (2 * pat))), (0, .ref 113)] [] (WX pgC pgL stC stL PA PS (va_up BA 0 (upd (upd (BA 0) (2 * pat) 0) (2 * pat + 1) 1)) BS u)
    exact M.retv (nx := 45) (by decide +kernel) ⟨rfl, by rw [(kI_0 κ).mp (h7 ▸ z11), ← hld_0]⟩
theorem bs_had : ∀ (a : Fin 16) (k : Fin 4), (nI a.val >>> (nI k.val &&& 31)) &&& 1 = nI (a.val / 2 ^ k.val % 2) := by decide +kernel
theorem bs_xor : ∀ (a : Fin 16) (k : Fin 4), nI a.val ^^^ ((1 : Int32) <<< (nI k.val &&& 31)) = nI (a.val ^^^ 2 ^ k.val) ∧ a.val ^^^ 2 ^ k.val < 16 := by decide +kernel
theorem bs_q : ∀ (a : Fin 16) (k : Fin 4), (nI a.val &&& (((1 : Int32) <<< (nI k.val &&& 31)) - 1)) ||| ((nI a.val >>> ((1 : Int32) &&& 31)) &&& ((((1 : Int32) <<< (nI k.val &&& 31)) - 1) ^^^ (-1))) = nI (rmB a.val k.val) ∧ rmB a.val k.val < 8 := by decide +kernel
theorem bes_n {κ k pat : Nat} {s : Int32} {f : Nat → Int32} (h : ¬ wrN s (pat / 2 ^ k % 2) = pat / 2 ^ k % 2) (h2 : ¬ κ = 2) : besB κ k s pat f = (pat ^^^ 2 ^ k, f) := by
  unfold besB
  rw [if_neg h, if_neg h2]
theorem bes_t {κ k pat : Nat} {s : Int32} {f : Nat → Int32} (h : ¬ wrN s (pat / 2 ^ k % 2) = pat / 2 ^ k % 2) (h2 : κ = 2) : besB κ k s pat f = (pat ^^^ 2 ^ k, trnF (32 * k + 16 * wrN s (pat / 2 ^ k % 2) + 2 * rmB (pat ^^^ 2 ^ k) k) f) := by
  unfold besB
  rw [if_neg h, if_pos h2]
theorem x_writeBeside {κ pat : Nat} (h7 : BS 7 = kI κ) (h8 : BS 8 = nI (ptsN κ)) (h10 : BS 10 = nI pat) (hp : pat < 16) {k : Nat} (hk : k < 4) (s : Int32) : CC 1 mX0_writeBeside 0 0 [.ref 113, .int (nI k), .int s] (WX pgC pgL stC stL PA PS BA BS u) (Rv (WX pgC pgL stC stL PA PS (va_up BA 0 ((besB κ k s pat (BA 0)).2)) (upd BS 10 (nI (besB κ k s pat (BA 0)).1)) u)) := by
  have e1 := bs_had ⟨pat, hp⟩ ⟨k, hk⟩
  have e2 := bs_xor ⟨pat, hp⟩ ⟨k, hk⟩
  have e3 := bs_q ⟨pat ^^^ 2 ^ k, e2.2⟩ ⟨k, hk⟩
  dsimp only at e1 e2 e3
  have hh : pat / 2 ^ k % 2 < 2 := Nat.mod_lt _ (by decide)
  have hw2 := wrN_2 s (pat / 2 ^ k % 2)
  refine CC.of okX0_writeBeside.1 (Nat.le_of_ble_eq_true rfl) (fun g M => ?_)
  show g 0 0 0 [(0, .ref 113), (1, .int (nI k)), (2, .int s)] [] (WX pgC pgL stC stL PA PS BA BS u)
  refine M.blk (is := [(.aload_n 0, 0, 0, 0), (.getfield 80, 0, 10, 0), (.iload_n 1, 1, 0, 0), (.ishr, 0, 0, 0), (.iconst 1, 0, 0, 1), (.iand, 0, 0, 0)]) (pc1 := 8) (lo1 := [(0, .ref 113), (1, .int (nI k)), (2, .int s)]) (st1 := [.int (((BS 10) >>> ((nI k) &&& 31)) &&& 1)]) (w1 := (WX pgC pgL stC stL PA PS BA BS u)) (by decide +kernel) rfl ?_
  rw [h10, e1]
  refine M.blk (is := [(.istore_n 3, 3, 0, 0), (.iload_n 2, 2, 0, 0), (.iload_n 3, 3, 0, 0)]) (pc1 := 11) (lo1 := [(3, .int (nI (pat / 2 ^ k % 2))), (0, .ref 113), (1, .int (nI k)), (2, .int s)]) (st1 := [.int (nI (pat / 2 ^ k % 2)), .int s]) (w1 := (WX pgC pgL stC stL PA PS BA BS u)) (by decide +kernel) rfl ?_
  refine M.callSi (as := [.int s, .int (nI (pat / 2 ^ k % 2))]) (st := []) (nx := 14) okX0_written lkX0_113 (s_written (WX pgC pgL stC stL PA PS BA BS u) s (nI (pat / 2 ^ k % 2))) (by decide +kernel) (by decide) rfl (Nat.le_of_ble_eq_true rfl) ?_
  rw [wrF_nI s hh]
  refine M.blk (is := [(.istore 4, 4, 0, 0), (.iload 4, 4, 0, 0), (.iload_n 3, 3, 0, 0)]) (pc1 := 19) (lo1 := [(4, .int (nI (wrN s (pat / 2 ^ k % 2)))), (3, .int (nI (pat / 2 ^ k % 2))), (0, .ref 113), (1, .int (nI k)), (2, .int s)]) (st1 := [.int (nI (pat / 2 ^ k % 2)), .int (nI (wrN s (pat / 2 ^ k % 2)))]) (w1 := (WX pgC pgL stC stL PA PS BA BS u)) (by decide +kernel) rfl ?_
  refine M.icmp_ne (off := 4) (tgt := 23) (nx := 22) (by decide +kernel) (fun z19 => ?_) (fun z19 => ?_)
  · refine M.blk (is := [(.aload_n 0, 0, 0, 0), (.dup, 0, 0, 0), (.getfield 80, 0, 10, 0), (.iconst 1, 0, 0, 1), (.iload_n 1, 1, 0, 0), (.ishl, 0, 0, 0), (.ixor, 0, 0, 0)]) (pc1 := 32) (lo1 := [(4, .int (nI (wrN s (pat / 2 ^ k % 2)))), (3, .int (nI (pat / 2 ^ k % 2))), (0, .ref 113), (1, .int (nI k)), (2, .int s)]) (st1 := [.int ((BS 10) ^^^ ((1 : Int32) <<< ((nI k) &&& 31))), .ref 113]) (w1 := (WX pgC pgL stC stL PA PS BA BS u)) (by decide +kernel) rfl ?_
    rw [h10, e2.1]
    refine M.blk (is := [(.putfield 80, 0, 10, 0), (.aload_n 0, 0, 0, 0), (.getfield 35, 0, 7, 0), (.iconst 2, 0, 0, 2)]) (pc1 := 40) (lo1 := [(4, .int (nI (wrN s (pat / 2 ^ k % 2)))), (3, .int (nI (pat / 2 ^ k % 2))), (0, .ref 113), (1, .int (nI k)), (2, .int s)]) (st1 := [.int 2, .int (BS 7)]) (w1 := (WX pgC pgL stC stL PA PS BA (upd BS 10 (nI (pat ^^^ 2 ^ k))) u)) (by decide +kernel) rfl ?_
    refine M.icmp_ne (off := 50) (tgt := 90) (nx := 43) (by decide +kernel) (fun z40 => ?_) (fun z40 => ?_)
    · exact M.retv (nx := 91) (by decide +kernel) ⟨rfl, by rw [bes_n (fun e => z19 (by rw [e])) (fun e => z40 (by rw [h7, e]; rfl)), va_up_id (f := BA) (k := 0) rfl]⟩
    · refine M.blk (is := [(.iconst 1, 0, 0, 1), (.iload_n 1, 1, 0, 0), (.ishl, 0, 0, 0), (.iconst 1, 0, 0, 1), (.isub, 0, 0, 0), (.istore 5, 5, 0, 0), (.aload_n 0, 0, 0, 0), (.getfield 80, 0, 10, 0), (.iload 5, 5, 0, 0), (.iand, 0, 0, 0), (.aload_n 0, 0, 0, 0), (.getfield 80, 0, 10, 0), (.iconst 1, 0, 0, 1), (.ishr, 0, 0, 0), (.iload 5, 5, 0, 0), (.iconst (-1), 0, 0, (-1)), (.ixor, 0, 0, 0), (.iand, 0, 0, 0), (.ior, 0, 0, 0)]) (pc1 := 69) (lo1 := [(5, .int (((1 : Int32) <<< ((nI k) &&& 31)) - 1)), (4, .int (nI (wrN s (pat / 2 ^ k % 2)))), (3, .int (nI (pat / 2 ^ k % 2))), (0, .ref 113), (1, .int (nI k)), (2, .int s)]) (st1 := [.int (((nI (pat ^^^ 2 ^ k)) &&& (((1 : Int32) <<< ((nI k) &&& 31)) - 1)) ||| (((nI (pat ^^^ 2 ^ k)) >>> ((1 : Int32) &&& 31)) &&& ((((1 : Int32) <<< ((nI k) &&& 31)) - 1) ^^^ (-1))))]) (w1 := (WX pgC pgL stC stL PA PS BA (upd BS 10 (nI (pat ^^^ 2 ^ k))) u)) (by decide +kernel) rfl ?_
      rw [e3.1]
      refine M.blk (is := [(.istore 6, 6, 0, 0), (.aload_n 0, 0, 0, 0), (.bipush 32, 0, 0, 32), (.iload_n 1, 1, 0, 0), (.imul, 0, 0, 0), (.bipush 16, 0, 0, 16), (.iload 4, 4, 0, 0), (.imul, 0, 0, 0), (.iadd, 0, 0, 0), (.iconst 2, 0, 0, 2), (.iload 6, 6, 0, 0), (.imul, 0, 0, 0), (.iadd, 0, 0, 0)]) (pc1 := 87) (lo1 := [(6, .int (nI (rmB (pat ^^^ 2 ^ k) k))), (5, .int (((1 : Int32) <<< ((nI k) &&& 31)) - 1)), (4, .int (nI (wrN s (pat / 2 ^ k % 2)))), (3, .int (nI (pat / 2 ^ k % 2))), (0, .ref 113), (1, .int (nI k)), (2, .int s)]) (st1 := [.int (((32 * (nI k)) + (16 * (nI (wrN s (pat / 2 ^ k % 2))))) + (2 * (nI (rmB (pat ^^^ 2 ^ k) k)))), .ref 113]) (w1 := (WX pgC pgL stC stL PA PS BA (upd BS 10 (nI (pat ^^^ 2 ^ k))) u)) (by decide +kernel) rfl ?_
      rw [show (32 : Int32) * nI k + 16 * nI (wrN s (pat / 2 ^ k % 2)) + 2 * nI (rmB (pat ^^^ 2 ^ k) k) = nI (32 * k + 16 * wrN s (pat / 2 ^ k % 2) + 2 * rmB (pat ^^^ 2 ^ k) k) by rw [show (32 : Int32) = nI 32 from rfl, show (16 : Int32) = nI 16 from rfl, show (2 : Int32) = nI 2 from rfl, pk_mul, pk_mul, pk_mul, nI_add, nI_add]]
      refine M.callVv (as := [.int (nI (32 * k + 16 * wrN s (pat / 2 ^ k % 2) + 2 * rmB (pat ^^^ 2 ^ k) k))]) (st := []) (nx := 90) okX0_turn lkX0_116 (x_turn (P := 128) (by show BS 8 = nI 128; rw [h8, (kI_2 κ).mp (h7 ▸ z40)]; rfl) (by omega) (by decide)) (by decide +kernel) (by decide) rfl (Nat.le_of_ble_eq_true rfl) rfl (by decide) ?_
      show g 0 0 90 [(6, .int (nI (rmB (pat ^^^ 2 ^ k) k))), (5, .int (((1 : Int32) <<< ((nI k) &&& 31)) - 1)), (4, .int (nI (wrN s (pat / 2 ^ k % 2)))), (3, .int (nI (pat / 2 ^ k % 2))), (0, .ref 113), (1, .int (nI k)), (2, .int s)] [] (WX pgC pgL stC stL PA PS (va_up BA 0 (trnF (32 * k + 16 * wrN s (pat / 2 ^ k % 2) + 2 * rmB (pat ^^^ 2 ^ k) k) (BA 0))) (upd BS 10 (nI (pat ^^^ 2 ^ k))) u)
      exact M.retv (nx := 91) (by decide +kernel) ⟨rfl, by rw [bes_t (fun e => z19 (by rw [e])) ((kI_2 κ).mp (h7 ▸ z40))]⟩
  · exact M.retv (nx := 23) (by decide +kernel) ⟨rfl, by rw [show besB κ k s pat (BA 0) = (pat, BA 0) from if_pos (nI_inj (by omega) (by omega) z19)]; show _ = WX pgC pgL stC stL PA PS (va_up BA 0 (BA 0)) (upd BS 10 (nI pat)) u; rw [va_up_id (f := BA) (k := 0) rfl, upd_id h10]⟩
theorem rd_0 {v x : Int32} {B M F R : Nat → Int32} : rdM 0 v B M = M ∧ rdF 0 v x B M F = F ∧ rdR 0 v B M R = R := by
  refine ⟨?_, ?_, ?_⟩ <;> funext p
  · unfold rdM; rw [if_neg (by omega)]
  · unfold rdF; rw [if_neg (by omega)]
  · unfold rdR; rw [if_neg (by omega)]
theorem rd_self {k : Nat} {v : Int32} {B M : Nat → Int32} : rdM k v B M k = M k := by unfold rdM; rw [if_neg (by omega)]
theorem rd_eq {k : Nat} {v x : Int32} {B M F R : Nat → Int32} (h : B k = v) : rdM k v B M = rdM (k + 1) v B M ∧ rdF k v x B M F = rdF (k + 1) v x B M F ∧ rdR k v B M R = rdR (k + 1) v B M R := by
  refine ⟨?_, ?_, ?_⟩ <;> funext p
  · unfold rdM
    by_cases e : p = k
    · subst e; rw [if_neg (by omega), if_neg (fun z => z.2 h)]
    · simp only [show (p < k + 1) = (p < k) by apply propext; omega]
  · unfold rdF
    by_cases e : p = k
    · subst e; rw [if_neg (by omega), if_neg (fun z => z.2.1 h)]
    · simp only [show (p < k + 1) = (p < k) by apply propext; omega]
  · unfold rdR
    by_cases e : p = k
    · subst e; rw [if_neg (by omega), if_neg (fun z => z.2.1 h)]
    · simp only [show (p < k + 1) = (p < k) by apply propext; omega]
theorem rd_M {k : Nat} {v : Int32} {B M : Nat → Int32} (h : ¬ B k = v) : upd (rdM k v B M) k (M k + 1) = rdM (k + 1) v B M := by
  funext p
  by_cases e : p = k
  · subst e; rw [pk_us]; unfold rdM; rw [if_pos ⟨by omega, h⟩]
  · rw [pk_un e]; unfold rdM
    simp only [show (p < k + 1) = (p < k) by apply propext; omega]
theorem rd_Fn {k : Nat} {v x : Int32} {B M F R : Nat → Int32} (h : ¬ M k = 0) : rdF k v x B M F = rdF (k + 1) v x B M F ∧ rdR k v B M R = rdR (k + 1) v B M R := by
  refine ⟨?_, ?_⟩ <;> funext p
  · unfold rdF
    by_cases e : p = k
    · subst e; rw [if_neg (by omega), if_neg (fun z => h z.2.2)]
    · simp only [show (p < k + 1) = (p < k) by apply propext; omega]
  · unfold rdR
    by_cases e : p = k
    · subst e; rw [if_neg (by omega), if_neg (fun z => h z.2.2)]
    · simp only [show (p < k + 1) = (p < k) by apply propext; omega]
theorem rd_Ft {k : Nat} {v x : Int32} {B M F R : Nat → Int32} (h0 : ¬ B k = v) (h : M k = 0) : upd (rdF k v x B M F) k x = rdF (k + 1) v x B M F ∧ upd (rdR k v B M R) k (B k) = rdR (k + 1) v B M R := by
  refine ⟨?_, ?_⟩ <;> funext p
  · by_cases e : p = k
    · subst e; rw [pk_us]; unfold rdF; rw [if_pos ⟨by omega, h0, h⟩]
    · rw [pk_un e]; unfold rdF
      simp only [show (p < k + 1) = (p < k) by apply propext; omega]
  · by_cases e : p = k
    · subst e; rw [pk_us]; unfold rdR; rw [if_pos ⟨by omega, h0, h⟩]
    · rw [pk_un e]; unfold rdR
      simp only [show (p < k + 1) = (p < k) by apply propext; omega]
theorem x_readAll {P : Nat} (h8 : BS 8 = nI P) (hP : P ≤ 128) (x : Int32) : CC 0 mX0_readAll 0 0 [.ref 113, .int x] (WX pgC pgL stC stL PA PS BA BS u) (Rv (WX pgC pgL stC stL PA PS (va_up (va_up (va_up BA 1 (rdM P (BS 11) (BA 0) (BA 1))) 2 (rdF P (BS 11) x (BA 0) (BA 1) (BA 2))) 3 (rdR P (BS 11) (BA 0) (BA 1) (BA 3))) (upd BS 12 (BS 12 ||| (1 <<< ((16 * BS 11 + BS 10) &&& 31)))) u)) := by
  refine CC.of okX0_readAll.1 (Nat.le_of_ble_eq_true rfl) (fun g M => ?_)
  have lp : ∀ m k, k + m = P → g 0 0 25 [(0, .ref 113), (1, .int x), (2, .int (nI k))] [] (WX pgC pgL stC stL PA PS (va_up (va_up (va_up BA 1 (rdM k (BS 11) (BA 0) (BA 1))) 2 (rdF k (BS 11) x (BA 0) (BA 1) (BA 2))) 3 (rdR k (BS 11) (BA 0) (BA 1) (BA 3))) (upd BS 12 (BS 12 ||| (1 <<< ((16 * BS 11 + BS 10) &&& 31)))) u) := by
    intro m
    induction m with
    | zero =>
      intro k hk
      have ek : P = k := by omega
      subst ek
      refine M.blk (is := [(.iload_n 2, 2, 0, 0), (.aload_n 0, 0, 0, 0), (.getfield 70, 0, 8, 0)]) (pc1 := 30) (lo1 := [(0, .ref 113), (1, .int x), (2, .int (nI P))]) (st1 := [.int (BS 8), .int (nI P)]) (w1 := (WX pgC pgL stC stL PA PS (va_up (va_up (va_up BA 1 (rdM P (BS 11) (BA 0) (BA 1))) 2 (rdF P (BS 11) x (BA 0) (BA 1) (BA 2))) 3 (rdR P (BS 11) (BA 0) (BA 1) (BA 3))) (upd BS 12 (BS 12 ||| (1 <<< ((16 * BS 11 + BS 10) &&& 31)))) u)) (by decide +kernel) rfl ?_
      refine M.icmp_ge (off := 60) (tgt := 90) (nx := 33) (by decide +kernel) (fun z30 => ?_) (fun z30 => by exfalso; exact z30 (by rw [h8]; exact nI_le (Nat.le_refl _) (by omega)))
      exact M.retv (nx := 91) (by decide +kernel) ⟨rfl, rfl⟩
    | succ m ih =>
      intro k hk
      refine M.blk (is := [(.iload_n 2, 2, 0, 0), (.aload_n 0, 0, 0, 0), (.getfield 70, 0, 8, 0)]) (pc1 := 30) (lo1 := [(0, .ref 113), (1, .int x), (2, .int (nI k))]) (st1 := [.int (BS 8), .int (nI k)]) (w1 := (WX pgC pgL stC stL PA PS (va_up (va_up (va_up BA 1 (rdM k (BS 11) (BA 0) (BA 1))) 2 (rdF k (BS 11) x (BA 0) (BA 1) (BA 2))) 3 (rdR k (BS 11) (BA 0) (BA 1) (BA 3))) (upd BS 12 (BS 12 ||| (1 <<< ((16 * BS 11 + BS 10) &&& 31)))) u)) (by decide +kernel) rfl ?_
      refine M.icmp_ge (off := 60) (tgt := 90) (nx := 33) (by decide +kernel) (fun z30 => by exfalso; rw [h8] at z30; exact nI_ge (show k < P by omega) (by omega) z30) (fun z30 => ?_)
      refine M.blk (is := [(.aload_n 0, 0, 0, 0), (.getfield 9, 0, 0, 0), (.iload_n 2, 2, 0, 0)]) (pc1 := 38) (lo1 := [(0, .ref 113), (1, .int x), (2, .int (nI k))]) (st1 := [.int (nI k), .ref 114]) (w1 := (WX pgC pgL stC stL PA PS (va_up (va_up (va_up BA 1 (rdM k (BS 11) (BA 0) (BA 1))) 2 (rdF k (BS 11) x (BA 0) (BA 1) (BA 2))) 3 (rdR k (BS 11) (BA 0) (BA 1) (BA 3))) (upd BS 12 (BS 12 ||| (1 <<< ((16 * BS 11 + BS 10) &&& 31)))) u)) (by decide +kernel) rfl ?_
      refine M.ald (n := 128) (f := BA 0) (j := k) (nx := 39) (by decide +kernel) rfl rfl (by omega) (by decide) ?_
      refine M.blk (is := [(.aload_n 0, 0, 0, 0), (.getfield 83, 0, 11, 0)]) (pc1 := 43) (lo1 := [(0, .ref 113), (1, .int x), (2, .int (nI k))]) (st1 := [.int (BS 11), .int ((BA 0) k)]) (w1 := (WX pgC pgL stC stL PA PS (va_up (va_up (va_up BA 1 (rdM k (BS 11) (BA 0) (BA 1))) 2 (rdF k (BS 11) x (BA 0) (BA 1) (BA 2))) 3 (rdR k (BS 11) (BA 0) (BA 1) (BA 3))) (upd BS 12 (BS 12 ||| (1 <<< ((16 * BS 11 + BS 10) &&& 31)))) u)) (by decide +kernel) rfl ?_
      refine M.icmp_eq (off := 41) (tgt := 84) (nx := 46) (by decide +kernel) (fun z43 => ?_) (fun z43 => ?_)
      · refine M.blk (is := [(.iinc 2 1, 2, 0, 1), (.goto (-62), 25, 0, 0)]) (pc1 := 25) (lo1 := [(2, .int ((nI k) + 1)), (0, .ref 113), (1, .int x)]) (st1 := []) (w1 := (WX pgC pgL stC stL PA PS (va_up (va_up (va_up BA 1 (rdM k (BS 11) (BA 0) (BA 1))) 2 (rdF k (BS 11) x (BA 0) (BA 1) (BA 2))) 3 (rdR k (BS 11) (BA 0) (BA 1) (BA 3))) (upd BS 12 (BS 12 ||| (1 <<< ((16 * BS 11 + BS 10) &&& 31)))) u)) (by decide +kernel) rfl ?_
        refine M.lsub [1, 2, 0] (lo1 := [(0, .ref 113), (1, .int x), (2, .int ((nI k) + 1))]) rfl ?_
        rw [nI_1, (rd_eq (x := x) (F := BA 2) (R := BA 3) z43).1, (rd_eq (x := x) (F := BA 2) (R := BA 3) z43).2.1, (rd_eq (x := x) (F := BA 2) (R := BA 3) z43).2.2]
        exact ih (k + 1) (by omega)
      · refine M.blk (is := [(.aload_n 0, 0, 0, 0), (.getfield 15, 0, 1, 0), (.iload_n 2, 2, 0, 0)]) (pc1 := 51) (lo1 := [(0, .ref 113), (1, .int x), (2, .int (nI k))]) (st1 := [.int (nI k), .ref 115]) (w1 := (WX pgC pgL stC stL PA PS (va_up (va_up (va_up BA 1 (rdM k (BS 11) (BA 0) (BA 1))) 2 (rdF k (BS 11) x (BA 0) (BA 1) (BA 2))) 3 (rdR k (BS 11) (BA 0) (BA 1) (BA 3))) (upd BS 12 (BS 12 ||| (1 <<< ((16 * BS 11 + BS 10) &&& 31)))) u)) (by decide +kernel) rfl ?_
        refine M.ald (n := 128) (f := rdM k (BS 11) (BA 0) (BA 1)) (j := k) (nx := 52) (by decide +kernel) rfl rfl (by omega) (by decide) ?_
        rw [rd_self]
        refine M.if_ne (off := 22) (tgt := 74) (nx := 55) (by decide +kernel) (fun z52 => ?_) (fun z52 => ?_)
        · refine M.blk (is := [(.aload_n 0, 0, 0, 0), (.getfield 15, 0, 1, 0), (.iload_n 2, 2, 0, 0), (.dup2, 0, 0, 0)]) (pc1 := 80) (lo1 := [(0, .ref 113), (1, .int x), (2, .int (nI k))]) (st1 := [.int (nI k), .ref 115, .int (nI k), .ref 115]) (w1 := (WX pgC pgL stC stL PA PS (va_up (va_up (va_up BA 1 (rdM k (BS 11) (BA 0) (BA 1))) 2 (rdF k (BS 11) x (BA 0) (BA 1) (BA 2))) 3 (rdR k (BS 11) (BA 0) (BA 1) (BA 3))) (upd BS 12 (BS 12 ||| (1 <<< ((16 * BS 11 + BS 10) &&& 31)))) u)) (by decide +kernel) rfl ?_
          refine M.ald (n := 128) (f := rdM k (BS 11) (BA 0) (BA 1)) (j := k) (nx := 81) (by decide +kernel) rfl rfl (by omega) (by decide) ?_
          rw [rd_self]
          refine M.blk (is := [(.iconst 1, 0, 0, 1), (.iadd, 0, 0, 0)]) (pc1 := 83) (lo1 := [(0, .ref 113), (1, .int x), (2, .int (nI k))]) (st1 := [.int ((BA 1 k) + 1), .int (nI k), .ref 115]) (w1 := (WX pgC pgL stC stL PA PS (va_up (va_up (va_up BA 1 (rdM k (BS 11) (BA 0) (BA 1))) 2 (rdF k (BS 11) x (BA 0) (BA 1) (BA 2))) 3 (rdR k (BS 11) (BA 0) (BA 1) (BA 3))) (upd BS 12 (BS 12 ||| (1 <<< ((16 * BS 11 + BS 10) &&& 31)))) u)) (by decide +kernel) rfl ?_
          refine M.ast (n := 128) (f := rdM k (BS 11) (BA 0) (BA 1)) (j := k) (nx := 84) (by decide +kernel) rfl rfl (by omega) (by decide) ?_
          show g 0 0 84 [(0, .ref 113), (1, .int x), (2, .int (nI k))] [] (WX pgC pgL stC stL PA PS (va_up (va_up (va_up BA 2 (rdF k (BS 11) x (BA 0) (BA 1) (BA 2))) 3 (rdR k (BS 11) (BA 0) (BA 1) (BA 3))) 1 (upd (rdM k (BS 11) (BA 0) (BA 1)) k ((BA 1 k) + 1))) (upd BS 12 (BS 12 ||| (1 <<< ((16 * BS 11 + BS 10) &&& 31)))) u)
          refine M.blk (is := [(.iinc 2 1, 2, 0, 1), (.goto (-62), 25, 0, 0)]) (pc1 := 25) (lo1 := [(2, .int ((nI k) + 1)), (0, .ref 113), (1, .int x)]) (st1 := []) (w1 := (WX pgC pgL stC stL PA PS (va_up (va_up (va_up BA 2 (rdF k (BS 11) x (BA 0) (BA 1) (BA 2))) 3 (rdR k (BS 11) (BA 0) (BA 1) (BA 3))) 1 (upd (rdM k (BS 11) (BA 0) (BA 1)) k ((BA 1 k) + 1))) (upd BS 12 (BS 12 ||| (1 <<< ((16 * BS 11 + BS 10) &&& 31)))) u)) (by decide +kernel) rfl ?_
          refine M.lsub [1, 2, 0] (lo1 := [(0, .ref 113), (1, .int x), (2, .int ((nI k) + 1))]) rfl ?_
          rw [nI_1, rd_M z43, (rd_Fn (v := BS 11) (x := x) (B := BA 0) (F := BA 2) (R := BA 3) z52).1, (rd_Fn (v := BS 11) (x := x) (B := BA 0) (F := BA 2) (R := BA 3) z52).2]
          exact ih (k + 1) (by omega)
        · refine M.blk (is := [(.aload_n 0, 0, 0, 0), (.getfield 18, 0, 2, 0), (.iload_n 2, 2, 0, 0), (.iload_n 1, 1, 0, 0)]) (pc1 := 61) (lo1 := [(0, .ref 113), (1, .int x), (2, .int (nI k))]) (st1 := [.int x, .int (nI k), .ref 116]) (w1 := (WX pgC pgL stC stL PA PS (va_up (va_up (va_up BA 1 (rdM k (BS 11) (BA 0) (BA 1))) 2 (rdF k (BS 11) x (BA 0) (BA 1) (BA 2))) 3 (rdR k (BS 11) (BA 0) (BA 1) (BA 3))) (upd BS 12 (BS 12 ||| (1 <<< ((16 * BS 11 + BS 10) &&& 31)))) u)) (by decide +kernel) rfl ?_
          refine M.ast (n := 128) (f := rdF k (BS 11) x (BA 0) (BA 1) (BA 2)) (j := k) (nx := 62) (by decide +kernel) rfl rfl (by omega) (by decide) ?_
          show g 0 0 62 [(0, .ref 113), (1, .int x), (2, .int (nI k))] [] (WX pgC pgL stC stL PA PS (va_up (va_up (va_up BA 1 (rdM k (BS 11) (BA 0) (BA 1))) 3 (rdR k (BS 11) (BA 0) (BA 1) (BA 3))) 2 (upd (rdF k (BS 11) x (BA 0) (BA 1) (BA 2)) k x)) (upd BS 12 (BS 12 ||| (1 <<< ((16 * BS 11 + BS 10) &&& 31)))) u)
          refine M.blk (is := [(.aload_n 0, 0, 0, 0), (.getfield 21, 0, 3, 0), (.iload_n 2, 2, 0, 0), (.aload_n 0, 0, 0, 0), (.getfield 9, 0, 0, 0), (.iload_n 2, 2, 0, 0)]) (pc1 := 72) (lo1 := [(0, .ref 113), (1, .int x), (2, .int (nI k))]) (st1 := [.int (nI k), .ref 114, .int (nI k), .ref 117]) (w1 := (WX pgC pgL stC stL PA PS (va_up (va_up (va_up BA 1 (rdM k (BS 11) (BA 0) (BA 1))) 3 (rdR k (BS 11) (BA 0) (BA 1) (BA 3))) 2 (upd (rdF k (BS 11) x (BA 0) (BA 1) (BA 2)) k x)) (upd BS 12 (BS 12 ||| (1 <<< ((16 * BS 11 + BS 10) &&& 31)))) u)) (by decide +kernel) rfl ?_
          refine M.ald (n := 128) (f := BA 0) (j := k) (nx := 73) (by decide +kernel) rfl rfl (by omega) (by decide) ?_
          refine M.ast (n := 128) (f := rdR k (BS 11) (BA 0) (BA 1) (BA 3)) (j := k) (nx := 74) (by decide +kernel) rfl rfl (by omega) (by decide) ?_
          show g 0 0 74 [(0, .ref 113), (1, .int x), (2, .int (nI k))] [] (WX pgC pgL stC stL PA PS (va_up (va_up (va_up BA 1 (rdM k (BS 11) (BA 0) (BA 1))) 2 (upd (rdF k (BS 11) x (BA 0) (BA 1) (BA 2)) k x)) 3 (upd (rdR k (BS 11) (BA 0) (BA 1) (BA 3)) k ((BA 0) k))) (upd BS 12 (BS 12 ||| (1 <<< ((16 * BS 11 + BS 10) &&& 31)))) u)
          refine M.blk (is := [(.aload_n 0, 0, 0, 0), (.getfield 15, 0, 1, 0), (.iload_n 2, 2, 0, 0), (.dup2, 0, 0, 0)]) (pc1 := 80) (lo1 := [(0, .ref 113), (1, .int x), (2, .int (nI k))]) (st1 := [.int (nI k), .ref 115, .int (nI k), .ref 115]) (w1 := (WX pgC pgL stC stL PA PS (va_up (va_up (va_up BA 1 (rdM k (BS 11) (BA 0) (BA 1))) 2 (upd (rdF k (BS 11) x (BA 0) (BA 1) (BA 2)) k x)) 3 (upd (rdR k (BS 11) (BA 0) (BA 1) (BA 3)) k ((BA 0) k))) (upd BS 12 (BS 12 ||| (1 <<< ((16 * BS 11 + BS 10) &&& 31)))) u)) (by decide +kernel) rfl ?_
          refine M.ald (n := 128) (f := rdM k (BS 11) (BA 0) (BA 1)) (j := k) (nx := 81) (by decide +kernel) rfl rfl (by omega) (by decide) ?_
          rw [rd_self]
          refine M.blk (is := [(.iconst 1, 0, 0, 1), (.iadd, 0, 0, 0)]) (pc1 := 83) (lo1 := [(0, .ref 113), (1, .int x), (2, .int (nI k))]) (st1 := [.int ((BA 1 k) + 1), .int (nI k), .ref 115]) (w1 := (WX pgC pgL stC stL PA PS (va_up (va_up (va_up BA 1 (rdM k (BS 11) (BA 0) (BA 1))) 2 (upd (rdF k (BS 11) x (BA 0) (BA 1) (BA 2)) k x)) 3 (upd (rdR k (BS 11) (BA 0) (BA 1) (BA 3)) k ((BA 0) k))) (upd BS 12 (BS 12 ||| (1 <<< ((16 * BS 11 + BS 10) &&& 31)))) u)) (by decide +kernel) rfl ?_
          refine M.ast (n := 128) (f := rdM k (BS 11) (BA 0) (BA 1)) (j := k) (nx := 84) (by decide +kernel) rfl rfl (by omega) (by decide) ?_
          show g 0 0 84 [(0, .ref 113), (1, .int x), (2, .int (nI k))] [] (WX pgC pgL stC stL PA PS (va_up (va_up (va_up BA 2 (upd (rdF k (BS 11) x (BA 0) (BA 1) (BA 2)) k x)) 3 (upd (rdR k (BS 11) (BA 0) (BA 1) (BA 3)) k ((BA 0) k))) 1 (upd (rdM k (BS 11) (BA 0) (BA 1)) k ((BA 1 k) + 1))) (upd BS 12 (BS 12 ||| (1 <<< ((16 * BS 11 + BS 10) &&& 31)))) u)
          refine M.blk (is := [(.iinc 2 1, 2, 0, 1), (.goto (-62), 25, 0, 0)]) (pc1 := 25) (lo1 := [(2, .int ((nI k) + 1)), (0, .ref 113), (1, .int x)]) (st1 := []) (w1 := (WX pgC pgL stC stL PA PS (va_up (va_up (va_up BA 2 (upd (rdF k (BS 11) x (BA 0) (BA 1) (BA 2)) k x)) 3 (upd (rdR k (BS 11) (BA 0) (BA 1) (BA 3)) k ((BA 0) k))) 1 (upd (rdM k (BS 11) (BA 0) (BA 1)) k ((BA 1 k) + 1))) (upd BS 12 (BS 12 ||| (1 <<< ((16 * BS 11 + BS 10) &&& 31)))) u)) (by decide +kernel) rfl ?_
          refine M.lsub [1, 2, 0] (lo1 := [(0, .ref 113), (1, .int x), (2, .int ((nI k) + 1))]) rfl ?_
          rw [nI_1, rd_M z43, (rd_Ft (x := x) (F := BA 2) (R := BA 3) z43 z52).1, (rd_Ft (x := x) (F := BA 2) (R := BA 3) z43 z52).2]
          exact ih (k + 1) (by omega)
  show g 0 0 0 [(0, .ref 113), (1, .int x)] [] (WX pgC pgL stC stL PA PS BA BS u)
  refine M.blk (is := [(.aload_n 0, 0, 0, 0), (.dup, 0, 0, 0), (.getfield 86, 0, 12, 0), (.iconst 1, 0, 0, 1), (.bipush 16, 0, 0, 16), (.aload_n 0, 0, 0, 0), (.getfield 83, 0, 11, 0), (.imul, 0, 0, 0), (.aload_n 0, 0, 0, 0), (.getfield 80, 0, 10, 0), (.iadd, 0, 0, 0), (.ishl, 0, 0, 0), (.ior, 0, 0, 0), (.putfield 86, 0, 12, 0), (.iconst 0, 0, 0, 0), (.istore_n 2, 2, 0, 0)]) (pc1 := 25) (lo1 := [(2, .int 0), (0, .ref 113), (1, .int x)]) (st1 := []) (w1 := (WX pgC pgL stC stL PA PS BA (upd BS 12 ((BS 12) ||| ((1 : Int32) <<< (((16 * (BS 11)) + (BS 10)) &&& 31)))) u)) (by decide +kernel) rfl ?_
  refine M.lsub [1, 2, 0] (lo1 := [(0, .ref 113), (1, .int x), (2, .int 0)]) rfl ?_
  have e0 := lp P 0 (by omega)
  rw [(rd_0 (v := BS 11) (x := x) (B := BA 0) (M := BA 1) (F := BA 2) (R := BA 3)).1, (rd_0 (v := BS 11) (x := x) (B := BA 0) (M := BA 1) (F := BA 2) (R := BA 3)).2.1, (rd_0 (v := BS 11) (x := x) (B := BA 0) (M := BA 1) (F := BA 2) (R := BA 3)).2.2, va_up_id (f := BA) (k := 1) rfl, va_up_id (f := BA) (k := 2) rfl, va_up_id (f := BA) (k := 3) rfl] at e0
  exact e0
end BENCH
end
section
section WORK
variable {pgC : Nat → Int32} {pgL : Int32} {stC : Nat → Int32} {stL : Int32} {PA : Nat → Nat → Int32} {PS : Nat → Int32} {BA : Nat → Nat → Int32} {BS : Nat → Int32} {u : List Cl}
def trP (q p : Nat) (b : Int32) : Int32 := if p = q ∧ b = 0 then 1 else if p = q + 1 ∧ b = 1 then 0 else b
def itP (κ p pat v : Nat) (b : Int32) : Int32 := if ¬ (κ = 1 ∧ p = 2 * pat + 1 - v) then nI v else b
def hlP (κ pat p : Nat) (b : Int32) : Int32 := if κ = 0 ∧ p = 2 * pat then 0 else if κ = 0 ∧ p = 2 * pat + 1 then 1 else b
def mcB (κ p k : Nat) (s : Int32) (pat : Nat) (b : Int32) : Nat × Int32 := if wrN s (pat / 2 ^ k % 2) = pat / 2 ^ k % 2 then (pat, b) else (pat ^^^ 2 ^ k, if κ = 2 then trP (32 * k + 16 * wrN s (pat / 2 ^ k % 2) + 2 * rmB (pat ^^^ 2 ^ k) k) p b else b)
def mcr (κ p : Nat) (τ : Nat → Int32) (s : Int32) (d : Nat) (z : Nat × Nat × Int32) : Nat × Nat × Int32 := if isW (τ d) s = true then (if d = 4 then (z.1, wrN s z.2.1, hlP κ z.1 p (itP κ p z.1 (wrN s z.2.1) z.2.2)) else ((mcB κ p d s z.1 z.2.2).1, z.2.1, hlP κ (mcB κ p d s z.1 z.2.2).1 p (mcB κ p d s z.1 z.2.2).2)) else z
def wSt (κ p : Nat) (τ : Nat → Int32) (s : Int32) (z : Nat × Nat × Int32) : Nat × Nat × Int32 := mcr κ p τ s 2 (mcr κ p τ s 1 (mcr κ p τ s 4 (mcr κ p τ s 3 (mcr κ p τ s 0 z))))
theorem trn_P (q : Nat) (f : Nat → Int32) (p : Nat) : trnF q f p = trP q p (f p) := by
  unfold trnF trP
  by_cases e1 : p = q
  · subst e1
    have h : ¬ p = p + 1 := by omega
    simp [h]
  · by_cases e2 : p = q + 1
    · subst e2
      have h : ¬ q + 1 = q := by omega
      simp [h]
    · simp [e1, e2]
theorem besB_1 (κ k : Nat) (s : Int32) (pat : Nat) (f : Nat → Int32) (p : Nat) (b : Int32) : (besB κ k s pat f).1 = (mcB κ p k s pat b).1 := by
  unfold besB mcB
  split <;> rfl
theorem besB_2 (κ k : Nat) (s : Int32) (pat : Nat) (f : Nat → Int32) (p : Nat) : (besB κ k s pat f).2 p = (mcB κ p k s pat (f p)).2 := by
  unfold besB mcB
  split
  · rfl
  · dsimp only
    split
    · exact trn_P _ _ _
    · rfl
theorem mcB_lt {κ p k : Nat} {s : Int32} {pat : Nat} {b : Int32} (hk : k < 4) (hp : pat < 16) : (mcB κ p k s pat b).1 < 16 := by
  unfold mcB
  split
  · exact hp
  · exact (bs_xor ⟨pat, hp⟩ ⟨k, hk⟩).2
theorem mcr_lt {κ p : Nat} {τ : Nat → Int32} {s : Int32} {d : Nat} (hd : d < 5) {z : Nat × Nat × Int32} (h : z.1 < 16 ∧ z.2.1 < 2) : (mcr κ p τ s d z).1 < 16 ∧ (mcr κ p τ s d z).2.1 < 2 := by
  unfold mcr
  split
  · split
    · exact ⟨h.1, wrN_2 s _⟩
    · exact ⟨mcB_lt (by omega) h.1, h.2⟩
  · exact h
theorem wSt_lt {κ p : Nat} {τ : Nat → Int32} {s : Int32} {z : Nat × Nat × Int32} (h : z.1 < 16 ∧ z.2.1 < 2) : (wSt κ p τ s z).1 < 16 ∧ (wSt κ p τ s z).2.1 < 2 := mcr_lt (by decide) (mcr_lt (by decide) (mcr_lt (by decide) (mcr_lt (by decide) (mcr_lt (by decide) h))))
def BR (κ : Nat) (z : Nat → Nat × Nat × Int32) (BA : Nat → Nat → Int32) (BS : Nat → Int32) : Prop := (∀ p, BS 10 = nI (z p).1 ∧ (z p).1 < 16 ∧ BS 11 = nI (z p).2.1 ∧ (z p).2.1 < 2) ∧ ∀ p, p < ptsN κ → BA 0 p = (z p).2.2
theorem BR_same {κ : Nat} {z : Nat → Nat × Nat × Int32} {BA : Nat → Nat → Int32} {BS : Nat → Int32} (h : BR κ z BA BS) (p : Nat) : (z p).1 = (z 0).1 ∧ (z p).2.1 = (z 0).2.1 := by
  obtain ⟨a1, a2, a3, a4⟩ := h.1 p
  obtain ⟨b1, b2, b3, b4⟩ := h.1 0
  exact ⟨nI_inj (by omega) (by omega) (a1.symm.trans b1), nI_inj (by omega) (by omega) (a3.symm.trans b3)⟩
theorem BR_skip {κ : Nat} {z : Nat → Nat × Nat × Int32} {BA : Nat → Nat → Int32} {BS : Nat → Int32} {τ : Nat → Int32} {s : Int32} {d : Nat} (h : BR κ z BA BS) (hw : ¬ isW (τ d) s = true) : BR κ (fun p => mcr κ p τ s d (z p)) BA BS := by
  have e : (fun p => mcr κ p τ s d (z p)) = z := by funext p; unfold mcr; rw [if_neg hw]
  rw [e]
  exact h
theorem BR_bes {κ : Nat} {z : Nat → Nat × Nat × Int32} {BA BB : Nat → Nat → Int32} {BS BT : Nat → Int32} {τ : Nat → Int32} {s : Int32} {d : Nat} (h : BR κ z BA BS) (hw : isW (τ d) s = true) (hd : d < 4) (e0 : BB 0 = hldF κ (besB κ d s (z 0).1 (BA 0)).1 (besB κ d s (z 0).1 (BA 0)).2) (e10 : BT 10 = nI (besB κ d s (z 0).1 (BA 0)).1) (e11 : BT 11 = BS 11) : BR κ (fun p => mcr κ p τ s d (z p)) BB BT := by
  have hm : ∀ p, mcr κ p τ s d (z p) = ((mcB κ p d s (z p).1 (z p).2.2).1, (z p).2.1, hlP κ (mcB κ p d s (z p).1 (z p).2.2).1 p (mcB κ p d s (z p).1 (z p).2.2).2) := by
    intro p
    unfold mcr
    rw [if_pos hw, if_neg (by omega)]
  refine ⟨fun p => ?_, fun p hp => ?_⟩
  · dsimp only
    rw [hm]
    obtain ⟨a1, a2, a3, a4⟩ := h.1 p
    refine ⟨?_, mcB_lt hd a2, by rw [e11]; exact a3, a4⟩
    rw [e10, besB_1 κ d s (z 0).1 (BA 0) p (z p).2.2, (BR_same h p).1]
  · show _ = (mcr κ p τ s d (z p)).2.2
    rw [hm]
    dsimp only
    rw [e0]
    have h1 := besB_1 κ d s (z 0).1 (BA 0) p (z p).2.2
    have h2 := besB_2 κ d s (z 0).1 (BA 0) p
    rw [h.2 p hp] at h2
    unfold hldF hlP
    rw [h1, h2, (BR_same h p).1]
theorem BR_its {κ : Nat} {z : Nat → Nat × Nat × Int32} {BA BB : Nat → Nat → Int32} {BS BT : Nat → Int32} {τ : Nat → Int32} {s : Int32} (h : BR κ z BA BS) (hw : isW (τ 4) s = true) (e0 : BB 0 = hldF κ (z 0).1 (itsF κ (ptsN κ) (z 0).1 (wrN s (z 0).2.1) (BA 0))) (e10 : BT 10 = BS 10) (e11 : BT 11 = nI (wrN s (z 0).2.1)) : BR κ (fun p => mcr κ p τ s 4 (z p)) BB BT := by
  have hm : ∀ p, mcr κ p τ s 4 (z p) = ((z p).1, wrN s (z p).2.1, hlP κ (z p).1 p (itP κ p (z p).1 (wrN s (z p).2.1) (z p).2.2)) := by
    intro p
    unfold mcr
    rw [if_pos hw, if_pos rfl]
  refine ⟨fun p => ?_, fun p hp => ?_⟩
  · dsimp only
    rw [hm]
    obtain ⟨a1, a2, a3, a4⟩ := h.1 p
    exact ⟨by rw [e10]; exact a1, a2, by rw [e11, (BR_same h p).2], wrN_2 s _⟩
  · show _ = (mcr κ p τ s 4 (z p)).2.2
    rw [hm]
    dsimp only
    rw [e0, (BR_same h p).1, (BR_same h p).2]
    have ein : itsF κ (ptsN κ) (z 0).1 (wrN s (z 0).2.1) (BA 0) p = itP κ p (z 0).1 (wrN s (z 0).2.1) (z p).2.2 := by
      unfold itsF itP
      rw [h.2 p hp]
      by_cases e1 : κ = 1 ∧ p = 2 * (z 0).1 + 1 - wrN s (z 0).2.1
      · rw [if_neg (fun e => e.2 e1), if_neg (fun e => e e1)]
      · rw [if_pos ⟨hp, e1⟩, if_pos e1]
    unfold hldF hlP
    rw [ein]
theorem x_writeAll {κ : Nat} {z : Nat → Nat × Nat × Int32} (h7 : BS 7 = kI κ) (h8 : BS 8 = nI (ptsN κ)) (hbr : BR κ z BA BS) (s : Int32) : CC 2 mX0_writeAll 0 0 [.ref 113, .int s] (WX pgC pgL stC stL PA PS BA BS u) (fun r0 w1 => r0 = none ∧ ∃ BB BT, w1 = WX pgC pgL stC stL PA PS BB BT u ∧ BR κ (fun p => wSt κ p (BA 4) s (z p)) BB BT ∧ (∀ k, k ≠ 0 → BB k = BA k) ∧ (∀ i, i ≠ 10 → i ≠ 11 → BT i = BS i)) := by
  refine CC.of okX0_writeAll.1 (Nat.le_of_ble_eq_true rfl) (fun g M => ?_)
  have L5 : ∀ (y : Nat → Nat × Nat × Int32) BB BT, BR κ y BB BT → (∀ k, k ≠ 0 → BB k = BA k) ∧ (∀ i, i ≠ 10 → i ≠ 11 → BT i = BS i) → (∀ p, y p = wSt κ p (BA 4) s (z p)) → g 0 0 2 [(0, .ref 113), (1, .int s), (2, .int 5)] [] (WX pgC pgL stC stL PA PS BB BT u) := by
    intro y BB BT hy hf he
    have g7 : BT 7 = kI κ := (hf.2 7 (by decide) (by decide)).trans h7
    have g8 : BT 8 = nI (ptsN κ) := (hf.2 8 (by decide) (by decide)).trans h8
    have g4 : BB 4 = BA 4 := hf.1 4 (by decide)
    refine M.blk (is := [(.iload_n 2, 2, 0, 0)]) (pc1 := 3) (lo1 := [(0, .ref 113), (1, .int s), (2, .int 5)]) (st1 := [.int 5]) (w1 := (WX pgC pgL stC stL PA PS BB BT u)) (by decide +kernel) rfl ?_
    refine M.gord (idx := 95) (nx := 6) (by decide +kernel) (lw_in 375 (by decide +kernel) (by decide +kernel)) ?_
    refine M.lord (nx := 7) (by decide +kernel) ?_
    refine M.icmp_ge (off := 50) (tgt := 57) (nx := 10) (by decide +kernel) (fun _ => ?_) (fun h => absurd h (by decide))
    exact M.retv (nx := 58) (by decide +kernel) ⟨rfl, BB, BT, rfl, by rw [← funext he]; exact hy, hf⟩
  have L4 : ∀ (y : Nat → Nat × Nat × Int32) BB BT, BR κ y BB BT → (∀ k, k ≠ 0 → BB k = BA k) ∧ (∀ i, i ≠ 10 → i ≠ 11 → BT i = BS i) → (∀ p, mcr κ p (BA 4) s 2 (y p) = wSt κ p (BA 4) s (z p)) → g 0 0 2 [(0, .ref 113), (1, .int s), (2, .int 4)] [] (WX pgC pgL stC stL PA PS BB BT u) := by
    intro y BB BT hy hf he
    have g7 : BT 7 = kI κ := (hf.2 7 (by decide) (by decide)).trans h7
    have g8 : BT 8 = nI (ptsN κ) := (hf.2 8 (by decide) (by decide)).trans h8
    have g4 : BB 4 = BA 4 := hf.1 4 (by decide)
    refine M.blk (is := [(.iload_n 2, 2, 0, 0)]) (pc1 := 3) (lo1 := [(0, .ref 113), (1, .int s), (2, .int 4)]) (st1 := [.int 4]) (w1 := (WX pgC pgL stC stL PA PS BB BT u)) (by decide +kernel) rfl ?_
    refine M.gord (idx := 95) (nx := 6) (by decide +kernel) (lw_in 375 (by decide +kernel) (by decide +kernel)) ?_
    refine M.lord (nx := 7) (by decide +kernel) ?_
    refine M.icmp_ge (off := 50) (tgt := 57) (nx := 10) (by decide +kernel) (fun h => absurd h (by decide)) (fun _ => ?_)
    refine M.gord (idx := 95) (nx := 13) (by decide +kernel) (lw_in 375 (by decide +kernel) (by decide +kernel)) ?_
    refine M.blk (is := [(.iload_n 2, 2, 0, 0)]) (pc1 := 14) (lo1 := [(0, .ref 113), (1, .int s), (2, .int 4)]) (st1 := [.int 4, .ref 98]) (w1 := (WX pgC pgL stC stL PA PS BB BT u)) (by decide +kernel) rfl ?_
    refine M.aord (j := 4) (nx := 15) (by decide +kernel) rfl (by decide) ?_
    show g 0 0 15 [(0, .ref 113), (1, .int s), (2, .int 4)] [.int 2] (WX pgC pgL stC stL PA PS BB BT u)
    refine M.blk (is := [(.istore_n 3, 3, 0, 0), (.aload_n 0, 0, 0, 0), (.iload_n 3, 3, 0, 0), (.iload_n 1, 1, 0, 0)]) (pc1 := 19) (lo1 := [(3, .int 2), (0, .ref 113), (1, .int s), (2, .int 4)]) (st1 := [.int s, .int 2, .ref 113]) (w1 := (WX pgC pgL stC stL PA PS BB BT u)) (by decide +kernel) rfl ?_
    refine M.callVi (as := [.int 2, .int s]) (st := []) (nx := 22) okX0_isWritten lkX0_98 (x_isWritten (d := 2) (by decide) s) (by decide +kernel) (by decide) rfl (Nat.le_of_ble_eq_true rfl) rfl (by decide) ?_
    rw [g4]
    refine M.if_ne (off := 6) (tgt := 28) (nx := 25) (by decide +kernel) (fun z22 => ?_) (fun z22 => ?_)
    · refine M.blk (is := [(.iload_n 3, 3, 0, 0), (.iconst 4, 0, 0, 4)]) (pc1 := 30) (lo1 := [(3, .int 2), (0, .ref 113), (1, .int s), (2, .int 4)]) (st1 := [.int 4, .int 2]) (w1 := (WX pgC pgL stC stL PA PS BB BT u)) (by decide +kernel) rfl ?_
      refine M.icmp_ne (off := 11) (tgt := 41) (nx := 33) (by decide +kernel) (fun _ => ?_) (fun h => absurd h (by decide))
      refine M.blk (is := [(.aload_n 0, 0, 0, 0), (.iload_n 3, 3, 0, 0), (.iload_n 1, 1, 0, 0)]) (pc1 := 44) (lo1 := [(3, .int 2), (0, .ref 113), (1, .int s), (2, .int 4)]) (st1 := [.int s, .int 2, .ref 113]) (w1 := (WX pgC pgL stC stL PA PS BB BT u)) (by decide +kernel) rfl ?_
      refine M.callVv (as := [.int 2, .int s]) (st := []) (nx := 47) okX0_writeBeside lkX0_105 (x_writeBeside (κ := κ) (pat := (y 0).1) g7 g8 (hy.1 0).1 (hy.1 0).2.1 (k := 2) (by decide) s) (by decide +kernel) (by decide) rfl (Nat.le_of_ble_eq_true rfl) rfl (by decide) ?_
      show g 0 0 47 [(3, .int 2), (0, .ref 113), (1, .int s), (2, .int 4)] [] (WX pgC pgL stC stL PA PS (va_up BB 0 ((besB κ 2 s (y 0).1 (BB 0)).2)) (upd BT 10 (nI (besB κ 2 s (y 0).1 (BB 0)).1)) u)
      refine M.blk (is := [(.aload_n 0, 0, 0, 0)]) (pc1 := 48) (lo1 := [(3, .int 2), (0, .ref 113), (1, .int s), (2, .int 4)]) (st1 := [.ref 113]) (w1 := (WX pgC pgL stC stL PA PS (va_up BB 0 ((besB κ 2 s (y 0).1 (BB 0)).2)) (upd BT 10 (nI (besB κ 2 s (y 0).1 (BB 0)).1)) u)) (by decide +kernel) rfl ?_
      refine M.callVv (as := []) (st := []) (nx := 51) okX0_hold lkX0_42 (x_hold (κ := κ) (pat := (besB κ 2 s (y 0).1 (BB 0)).1) g7 g8 rfl (by rw [besB_1 κ 2 s (y 0).1 (BB 0) 0 0]; exact mcB_lt (by decide) (hy.1 0).2.1)) (by decide +kernel) (by decide) rfl (Nat.le_of_ble_eq_true rfl) rfl (by decide) ?_
      show g 0 0 51 [(3, .int 2), (0, .ref 113), (1, .int s), (2, .int 4)] [] (WX pgC pgL stC stL PA PS (va_up BB 0 (hldF κ ((besB κ 2 s (y 0).1 (BB 0)).1) ((besB κ 2 s (y 0).1 (BB 0)).2))) (upd BT 10 (nI (besB κ 2 s (y 0).1 (BB 0)).1)) u)
      refine M.blk (is := [(.iinc 2 1, 2, 0, 1), (.goto (-52), 2, 0, 0)]) (pc1 := 2) (lo1 := [(2, .int 5), (3, .int 2), (0, .ref 113), (1, .int s)]) (st1 := []) (w1 := (WX pgC pgL stC stL PA PS (va_up BB 0 (hldF κ ((besB κ 2 s (y 0).1 (BB 0)).1) ((besB κ 2 s (y 0).1 (BB 0)).2))) (upd BT 10 (nI (besB κ 2 s (y 0).1 (BB 0)).1)) u)) (by decide +kernel) rfl ?_
      refine M.lsub [2, 3, 0] (lo1 := [(0, .ref 113), (1, .int s), (2, .int 5)]) rfl ?_
      exact L5 _ _ _ (BR_bes hy (b2i_t z22) (by decide) rfl rfl rfl) ⟨fun k hk => (va_upN _ _ hk).trans (hf.1 k hk), fun i h1 h2 => (pk_un h1).trans (hf.2 i h1 h2)⟩ he
    · refine M.blk (is := [(.goto 26, 51, 0, 0), (.iinc 2 1, 2, 0, 1), (.goto (-52), 2, 0, 0)]) (pc1 := 2) (lo1 := [(2, .int 5), (3, .int 2), (0, .ref 113), (1, .int s)]) (st1 := []) (w1 := (WX pgC pgL stC stL PA PS BB BT u)) (by decide +kernel) rfl ?_
      refine M.lsub [2, 3, 0] (lo1 := [(0, .ref 113), (1, .int s), (2, .int 5)]) rfl ?_
      exact L5 _ BB BT (BR_skip hy (b2i_f z22)) hf he
  have L3 : ∀ (y : Nat → Nat × Nat × Int32) BB BT, BR κ y BB BT → (∀ k, k ≠ 0 → BB k = BA k) ∧ (∀ i, i ≠ 10 → i ≠ 11 → BT i = BS i) → (∀ p, mcr κ p (BA 4) s 2 (mcr κ p (BA 4) s 1 (y p)) = wSt κ p (BA 4) s (z p)) → g 0 0 2 [(0, .ref 113), (1, .int s), (2, .int 3)] [] (WX pgC pgL stC stL PA PS BB BT u) := by
    intro y BB BT hy hf he
    have g7 : BT 7 = kI κ := (hf.2 7 (by decide) (by decide)).trans h7
    have g8 : BT 8 = nI (ptsN κ) := (hf.2 8 (by decide) (by decide)).trans h8
    have g4 : BB 4 = BA 4 := hf.1 4 (by decide)
    refine M.blk (is := [(.iload_n 2, 2, 0, 0)]) (pc1 := 3) (lo1 := [(0, .ref 113), (1, .int s), (2, .int 3)]) (st1 := [.int 3]) (w1 := (WX pgC pgL stC stL PA PS BB BT u)) (by decide +kernel) rfl ?_
    refine M.gord (idx := 95) (nx := 6) (by decide +kernel) (lw_in 375 (by decide +kernel) (by decide +kernel)) ?_
    refine M.lord (nx := 7) (by decide +kernel) ?_
    refine M.icmp_ge (off := 50) (tgt := 57) (nx := 10) (by decide +kernel) (fun h => absurd h (by decide)) (fun _ => ?_)
    refine M.gord (idx := 95) (nx := 13) (by decide +kernel) (lw_in 375 (by decide +kernel) (by decide +kernel)) ?_
    refine M.blk (is := [(.iload_n 2, 2, 0, 0)]) (pc1 := 14) (lo1 := [(0, .ref 113), (1, .int s), (2, .int 3)]) (st1 := [.int 3, .ref 98]) (w1 := (WX pgC pgL stC stL PA PS BB BT u)) (by decide +kernel) rfl ?_
    refine M.aord (j := 3) (nx := 15) (by decide +kernel) rfl (by decide) ?_
    show g 0 0 15 [(0, .ref 113), (1, .int s), (2, .int 3)] [.int 1] (WX pgC pgL stC stL PA PS BB BT u)
    refine M.blk (is := [(.istore_n 3, 3, 0, 0), (.aload_n 0, 0, 0, 0), (.iload_n 3, 3, 0, 0), (.iload_n 1, 1, 0, 0)]) (pc1 := 19) (lo1 := [(3, .int 1), (0, .ref 113), (1, .int s), (2, .int 3)]) (st1 := [.int s, .int 1, .ref 113]) (w1 := (WX pgC pgL stC stL PA PS BB BT u)) (by decide +kernel) rfl ?_
    refine M.callVi (as := [.int 1, .int s]) (st := []) (nx := 22) okX0_isWritten lkX0_98 (x_isWritten (d := 1) (by decide) s) (by decide +kernel) (by decide) rfl (Nat.le_of_ble_eq_true rfl) rfl (by decide) ?_
    rw [g4]
    refine M.if_ne (off := 6) (tgt := 28) (nx := 25) (by decide +kernel) (fun z22 => ?_) (fun z22 => ?_)
    · refine M.blk (is := [(.iload_n 3, 3, 0, 0), (.iconst 4, 0, 0, 4)]) (pc1 := 30) (lo1 := [(3, .int 1), (0, .ref 113), (1, .int s), (2, .int 3)]) (st1 := [.int 4, .int 1]) (w1 := (WX pgC pgL stC stL PA PS BB BT u)) (by decide +kernel) rfl ?_
      refine M.icmp_ne (off := 11) (tgt := 41) (nx := 33) (by decide +kernel) (fun _ => ?_) (fun h => absurd h (by decide))
      refine M.blk (is := [(.aload_n 0, 0, 0, 0), (.iload_n 3, 3, 0, 0), (.iload_n 1, 1, 0, 0)]) (pc1 := 44) (lo1 := [(3, .int 1), (0, .ref 113), (1, .int s), (2, .int 3)]) (st1 := [.int s, .int 1, .ref 113]) (w1 := (WX pgC pgL stC stL PA PS BB BT u)) (by decide +kernel) rfl ?_
      refine M.callVv (as := [.int 1, .int s]) (st := []) (nx := 47) okX0_writeBeside lkX0_105 (x_writeBeside (κ := κ) (pat := (y 0).1) g7 g8 (hy.1 0).1 (hy.1 0).2.1 (k := 1) (by decide) s) (by decide +kernel) (by decide) rfl (Nat.le_of_ble_eq_true rfl) rfl (by decide) ?_
      show g 0 0 47 [(3, .int 1), (0, .ref 113), (1, .int s), (2, .int 3)] [] (WX pgC pgL stC stL PA PS (va_up BB 0 ((besB κ 1 s (y 0).1 (BB 0)).2)) (upd BT 10 (nI (besB κ 1 s (y 0).1 (BB 0)).1)) u)
      refine M.blk (is := [(.aload_n 0, 0, 0, 0)]) (pc1 := 48) (lo1 := [(3, .int 1), (0, .ref 113), (1, .int s), (2, .int 3)]) (st1 := [.ref 113]) (w1 := (WX pgC pgL stC stL PA PS (va_up BB 0 ((besB κ 1 s (y 0).1 (BB 0)).2)) (upd BT 10 (nI (besB κ 1 s (y 0).1 (BB 0)).1)) u)) (by decide +kernel) rfl ?_
      refine M.callVv (as := []) (st := []) (nx := 51) okX0_hold lkX0_42 (x_hold (κ := κ) (pat := (besB κ 1 s (y 0).1 (BB 0)).1) g7 g8 rfl (by rw [besB_1 κ 1 s (y 0).1 (BB 0) 0 0]; exact mcB_lt (by decide) (hy.1 0).2.1)) (by decide +kernel) (by decide) rfl (Nat.le_of_ble_eq_true rfl) rfl (by decide) ?_
      show g 0 0 51 [(3, .int 1), (0, .ref 113), (1, .int s), (2, .int 3)] [] (WX pgC pgL stC stL PA PS (va_up BB 0 (hldF κ ((besB κ 1 s (y 0).1 (BB 0)).1) ((besB κ 1 s (y 0).1 (BB 0)).2))) (upd BT 10 (nI (besB κ 1 s (y 0).1 (BB 0)).1)) u)
      refine M.blk (is := [(.iinc 2 1, 2, 0, 1), (.goto (-52), 2, 0, 0)]) (pc1 := 2) (lo1 := [(2, .int 4), (3, .int 1), (0, .ref 113), (1, .int s)]) (st1 := []) (w1 := (WX pgC pgL stC stL PA PS (va_up BB 0 (hldF κ ((besB κ 1 s (y 0).1 (BB 0)).1) ((besB κ 1 s (y 0).1 (BB 0)).2))) (upd BT 10 (nI (besB κ 1 s (y 0).1 (BB 0)).1)) u)) (by decide +kernel) rfl ?_
      refine M.lsub [2, 3, 0] (lo1 := [(0, .ref 113), (1, .int s), (2, .int 4)]) rfl ?_
      exact L4 _ _ _ (BR_bes hy (b2i_t z22) (by decide) rfl rfl rfl) ⟨fun k hk => (va_upN _ _ hk).trans (hf.1 k hk), fun i h1 h2 => (pk_un h1).trans (hf.2 i h1 h2)⟩ he
    · refine M.blk (is := [(.goto 26, 51, 0, 0), (.iinc 2 1, 2, 0, 1), (.goto (-52), 2, 0, 0)]) (pc1 := 2) (lo1 := [(2, .int 4), (3, .int 1), (0, .ref 113), (1, .int s)]) (st1 := []) (w1 := (WX pgC pgL stC stL PA PS BB BT u)) (by decide +kernel) rfl ?_
      refine M.lsub [2, 3, 0] (lo1 := [(0, .ref 113), (1, .int s), (2, .int 4)]) rfl ?_
      exact L4 _ BB BT (BR_skip hy (b2i_f z22)) hf he
  have L2 : ∀ (y : Nat → Nat × Nat × Int32) BB BT, BR κ y BB BT → (∀ k, k ≠ 0 → BB k = BA k) ∧ (∀ i, i ≠ 10 → i ≠ 11 → BT i = BS i) → (∀ p, mcr κ p (BA 4) s 2 (mcr κ p (BA 4) s 1 (mcr κ p (BA 4) s 4 (y p))) = wSt κ p (BA 4) s (z p)) → g 0 0 2 [(0, .ref 113), (1, .int s), (2, .int 2)] [] (WX pgC pgL stC stL PA PS BB BT u) := by
    intro y BB BT hy hf he
    have g7 : BT 7 = kI κ := (hf.2 7 (by decide) (by decide)).trans h7
    have g8 : BT 8 = nI (ptsN κ) := (hf.2 8 (by decide) (by decide)).trans h8
    have g4 : BB 4 = BA 4 := hf.1 4 (by decide)
    refine M.blk (is := [(.iload_n 2, 2, 0, 0)]) (pc1 := 3) (lo1 := [(0, .ref 113), (1, .int s), (2, .int 2)]) (st1 := [.int 2]) (w1 := (WX pgC pgL stC stL PA PS BB BT u)) (by decide +kernel) rfl ?_
    refine M.gord (idx := 95) (nx := 6) (by decide +kernel) (lw_in 375 (by decide +kernel) (by decide +kernel)) ?_
    refine M.lord (nx := 7) (by decide +kernel) ?_
    refine M.icmp_ge (off := 50) (tgt := 57) (nx := 10) (by decide +kernel) (fun h => absurd h (by decide)) (fun _ => ?_)
    refine M.gord (idx := 95) (nx := 13) (by decide +kernel) (lw_in 375 (by decide +kernel) (by decide +kernel)) ?_
    refine M.blk (is := [(.iload_n 2, 2, 0, 0)]) (pc1 := 14) (lo1 := [(0, .ref 113), (1, .int s), (2, .int 2)]) (st1 := [.int 2, .ref 98]) (w1 := (WX pgC pgL stC stL PA PS BB BT u)) (by decide +kernel) rfl ?_
    refine M.aord (j := 2) (nx := 15) (by decide +kernel) rfl (by decide) ?_
    show g 0 0 15 [(0, .ref 113), (1, .int s), (2, .int 2)] [.int 4] (WX pgC pgL stC stL PA PS BB BT u)
    refine M.blk (is := [(.istore_n 3, 3, 0, 0), (.aload_n 0, 0, 0, 0), (.iload_n 3, 3, 0, 0), (.iload_n 1, 1, 0, 0)]) (pc1 := 19) (lo1 := [(3, .int 4), (0, .ref 113), (1, .int s), (2, .int 2)]) (st1 := [.int s, .int 4, .ref 113]) (w1 := (WX pgC pgL stC stL PA PS BB BT u)) (by decide +kernel) rfl ?_
    refine M.callVi (as := [.int 4, .int s]) (st := []) (nx := 22) okX0_isWritten lkX0_98 (x_isWritten (d := 4) (by decide) s) (by decide +kernel) (by decide) rfl (Nat.le_of_ble_eq_true rfl) rfl (by decide) ?_
    rw [g4]
    refine M.if_ne (off := 6) (tgt := 28) (nx := 25) (by decide +kernel) (fun z22 => ?_) (fun z22 => ?_)
    · refine M.blk (is := [(.iload_n 3, 3, 0, 0), (.iconst 4, 0, 0, 4)]) (pc1 := 30) (lo1 := [(3, .int 4), (0, .ref 113), (1, .int s), (2, .int 2)]) (st1 := [.int 4, .int 4]) (w1 := (WX pgC pgL stC stL PA PS BB BT u)) (by decide +kernel) rfl ?_
      refine M.icmp_ne (off := 11) (tgt := 41) (nx := 33) (by decide +kernel) (fun h => absurd h (by decide)) (fun _ => ?_)
      refine M.blk (is := [(.aload_n 0, 0, 0, 0), (.iload_n 1, 1, 0, 0)]) (pc1 := 35) (lo1 := [(3, .int 4), (0, .ref 113), (1, .int s), (2, .int 2)]) (st1 := [.int s, .ref 113]) (w1 := (WX pgC pgL stC stL PA PS BB BT u)) (by decide +kernel) rfl ?_
      refine M.callVv (as := [.int s]) (st := []) (nx := 38) okX0_writeItself lkX0_102 (x_writeItself (κ := κ) (pat := (y 0).1) (sh := (y 0).2.1) g7 g8 (hy.1 0).1 (hy.1 0).2.1 (hy.1 0).2.2.1 (hy.1 0).2.2.2 s) (by decide +kernel) (by decide) rfl (Nat.le_of_ble_eq_true rfl) rfl (by decide) ?_
      show g 0 0 38 [(3, .int 4), (0, .ref 113), (1, .int s), (2, .int 2)] [] (WX pgC pgL stC stL PA PS (va_up BB 0 (itsF κ (ptsN κ) (y 0).1 (wrN s (y 0).2.1) (BB 0))) (upd BT 11 (nI (wrN s (y 0).2.1))) u)
      refine M.blk (is := [(.goto 9, 47, 0, 0), (.aload_n 0, 0, 0, 0)]) (pc1 := 48) (lo1 := [(3, .int 4), (0, .ref 113), (1, .int s), (2, .int 2)]) (st1 := [.ref 113]) (w1 := (WX pgC pgL stC stL PA PS (va_up BB 0 (itsF κ (ptsN κ) (y 0).1 (wrN s (y 0).2.1) (BB 0))) (upd BT 11 (nI (wrN s (y 0).2.1))) u)) (by decide +kernel) rfl ?_
      refine M.callVv (as := []) (st := []) (nx := 51) okX0_hold lkX0_42 (x_hold (κ := κ) (pat := (y 0).1) g7 g8 (hy.1 0).1 (hy.1 0).2.1) (by decide +kernel) (by decide) rfl (Nat.le_of_ble_eq_true rfl) rfl (by decide) ?_
      show g 0 0 51 [(3, .int 4), (0, .ref 113), (1, .int s), (2, .int 2)] [] (WX pgC pgL stC stL PA PS (va_up BB 0 (hldF κ ((y 0).1) (itsF κ (ptsN κ) (y 0).1 (wrN s (y 0).2.1) (BB 0)))) (upd BT 11 (nI (wrN s (y 0).2.1))) u)
      refine M.blk (is := [(.iinc 2 1, 2, 0, 1), (.goto (-52), 2, 0, 0)]) (pc1 := 2) (lo1 := [(2, .int 3), (3, .int 4), (0, .ref 113), (1, .int s)]) (st1 := []) (w1 := (WX pgC pgL stC stL PA PS (va_up BB 0 (hldF κ ((y 0).1) (itsF κ (ptsN κ) (y 0).1 (wrN s (y 0).2.1) (BB 0)))) (upd BT 11 (nI (wrN s (y 0).2.1))) u)) (by decide +kernel) rfl ?_
      refine M.lsub [2, 3, 0] (lo1 := [(0, .ref 113), (1, .int s), (2, .int 3)]) rfl ?_
      exact L3 _ _ _ (BR_its hy (b2i_t z22) rfl rfl rfl) ⟨fun k hk => (va_upN _ _ hk).trans (hf.1 k hk), fun i h1 h2 => (pk_un h2).trans (hf.2 i h1 h2)⟩ he
    · refine M.blk (is := [(.goto 26, 51, 0, 0), (.iinc 2 1, 2, 0, 1), (.goto (-52), 2, 0, 0)]) (pc1 := 2) (lo1 := [(2, .int 3), (3, .int 4), (0, .ref 113), (1, .int s)]) (st1 := []) (w1 := (WX pgC pgL stC stL PA PS BB BT u)) (by decide +kernel) rfl ?_
      refine M.lsub [2, 3, 0] (lo1 := [(0, .ref 113), (1, .int s), (2, .int 3)]) rfl ?_
      exact L3 _ BB BT (BR_skip hy (b2i_f z22)) hf he
  have L1 : ∀ (y : Nat → Nat × Nat × Int32) BB BT, BR κ y BB BT → (∀ k, k ≠ 0 → BB k = BA k) ∧ (∀ i, i ≠ 10 → i ≠ 11 → BT i = BS i) → (∀ p, mcr κ p (BA 4) s 2 (mcr κ p (BA 4) s 1 (mcr κ p (BA 4) s 4 (mcr κ p (BA 4) s 3 (y p)))) = wSt κ p (BA 4) s (z p)) → g 0 0 2 [(0, .ref 113), (1, .int s), (2, .int 1)] [] (WX pgC pgL stC stL PA PS BB BT u) := by
    intro y BB BT hy hf he
    have g7 : BT 7 = kI κ := (hf.2 7 (by decide) (by decide)).trans h7
    have g8 : BT 8 = nI (ptsN κ) := (hf.2 8 (by decide) (by decide)).trans h8
    have g4 : BB 4 = BA 4 := hf.1 4 (by decide)
    refine M.blk (is := [(.iload_n 2, 2, 0, 0)]) (pc1 := 3) (lo1 := [(0, .ref 113), (1, .int s), (2, .int 1)]) (st1 := [.int 1]) (w1 := (WX pgC pgL stC stL PA PS BB BT u)) (by decide +kernel) rfl ?_
    refine M.gord (idx := 95) (nx := 6) (by decide +kernel) (lw_in 375 (by decide +kernel) (by decide +kernel)) ?_
    refine M.lord (nx := 7) (by decide +kernel) ?_
    refine M.icmp_ge (off := 50) (tgt := 57) (nx := 10) (by decide +kernel) (fun h => absurd h (by decide)) (fun _ => ?_)
    refine M.gord (idx := 95) (nx := 13) (by decide +kernel) (lw_in 375 (by decide +kernel) (by decide +kernel)) ?_
    refine M.blk (is := [(.iload_n 2, 2, 0, 0)]) (pc1 := 14) (lo1 := [(0, .ref 113), (1, .int s), (2, .int 1)]) (st1 := [.int 1, .ref 98]) (w1 := (WX pgC pgL stC stL PA PS BB BT u)) (by decide +kernel) rfl ?_
    refine M.aord (j := 1) (nx := 15) (by decide +kernel) rfl (by decide) ?_
    show g 0 0 15 [(0, .ref 113), (1, .int s), (2, .int 1)] [.int 3] (WX pgC pgL stC stL PA PS BB BT u)
    refine M.blk (is := [(.istore_n 3, 3, 0, 0), (.aload_n 0, 0, 0, 0), (.iload_n 3, 3, 0, 0), (.iload_n 1, 1, 0, 0)]) (pc1 := 19) (lo1 := [(3, .int 3), (0, .ref 113), (1, .int s), (2, .int 1)]) (st1 := [.int s, .int 3, .ref 113]) (w1 := (WX pgC pgL stC stL PA PS BB BT u)) (by decide +kernel) rfl ?_
    refine M.callVi (as := [.int 3, .int s]) (st := []) (nx := 22) okX0_isWritten lkX0_98 (x_isWritten (d := 3) (by decide) s) (by decide +kernel) (by decide) rfl (Nat.le_of_ble_eq_true rfl) rfl (by decide) ?_
    rw [g4]
    refine M.if_ne (off := 6) (tgt := 28) (nx := 25) (by decide +kernel) (fun z22 => ?_) (fun z22 => ?_)
    · refine M.blk (is := [(.iload_n 3, 3, 0, 0), (.iconst 4, 0, 0, 4)]) (pc1 := 30) (lo1 := [(3, .int 3), (0, .ref 113), (1, .int s), (2, .int 1)]) (st1 := [.int 4, .int 3]) (w1 := (WX pgC pgL stC stL PA PS BB BT u)) (by decide +kernel) rfl ?_
      refine M.icmp_ne (off := 11) (tgt := 41) (nx := 33) (by decide +kernel) (fun _ => ?_) (fun h => absurd h (by decide))
      refine M.blk (is := [(.aload_n 0, 0, 0, 0), (.iload_n 3, 3, 0, 0), (.iload_n 1, 1, 0, 0)]) (pc1 := 44) (lo1 := [(3, .int 3), (0, .ref 113), (1, .int s), (2, .int 1)]) (st1 := [.int s, .int 3, .ref 113]) (w1 := (WX pgC pgL stC stL PA PS BB BT u)) (by decide +kernel) rfl ?_
      refine M.callVv (as := [.int 3, .int s]) (st := []) (nx := 47) okX0_writeBeside lkX0_105 (x_writeBeside (κ := κ) (pat := (y 0).1) g7 g8 (hy.1 0).1 (hy.1 0).2.1 (k := 3) (by decide) s) (by decide +kernel) (by decide) rfl (Nat.le_of_ble_eq_true rfl) rfl (by decide) ?_
      show g 0 0 47 [(3, .int 3), (0, .ref 113), (1, .int s), (2, .int 1)] [] (WX pgC pgL stC stL PA PS (va_up BB 0 ((besB κ 3 s (y 0).1 (BB 0)).2)) (upd BT 10 (nI (besB κ 3 s (y 0).1 (BB 0)).1)) u)
      refine M.blk (is := [(.aload_n 0, 0, 0, 0)]) (pc1 := 48) (lo1 := [(3, .int 3), (0, .ref 113), (1, .int s), (2, .int 1)]) (st1 := [.ref 113]) (w1 := (WX pgC pgL stC stL PA PS (va_up BB 0 ((besB κ 3 s (y 0).1 (BB 0)).2)) (upd BT 10 (nI (besB κ 3 s (y 0).1 (BB 0)).1)) u)) (by decide +kernel) rfl ?_
      refine M.callVv (as := []) (st := []) (nx := 51) okX0_hold lkX0_42 (x_hold (κ := κ) (pat := (besB κ 3 s (y 0).1 (BB 0)).1) g7 g8 rfl (by rw [besB_1 κ 3 s (y 0).1 (BB 0) 0 0]; exact mcB_lt (by decide) (hy.1 0).2.1)) (by decide +kernel) (by decide) rfl (Nat.le_of_ble_eq_true rfl) rfl (by decide) ?_
      show g 0 0 51 [(3, .int 3), (0, .ref 113), (1, .int s), (2, .int 1)] [] (WX pgC pgL stC stL PA PS (va_up BB 0 (hldF κ ((besB κ 3 s (y 0).1 (BB 0)).1) ((besB κ 3 s (y 0).1 (BB 0)).2))) (upd BT 10 (nI (besB κ 3 s (y 0).1 (BB 0)).1)) u)
      refine M.blk (is := [(.iinc 2 1, 2, 0, 1), (.goto (-52), 2, 0, 0)]) (pc1 := 2) (lo1 := [(2, .int 2), (3, .int 3), (0, .ref 113), (1, .int s)]) (st1 := []) (w1 := (WX pgC pgL stC stL PA PS (va_up BB 0 (hldF κ ((besB κ 3 s (y 0).1 (BB 0)).1) ((besB κ 3 s (y 0).1 (BB 0)).2))) (upd BT 10 (nI (besB κ 3 s (y 0).1 (BB 0)).1)) u)) (by decide +kernel) rfl ?_
      refine M.lsub [2, 3, 0] (lo1 := [(0, .ref 113), (1, .int s), (2, .int 2)]) rfl ?_
      exact L2 _ _ _ (BR_bes hy (b2i_t z22) (by decide) rfl rfl rfl) ⟨fun k hk => (va_upN _ _ hk).trans (hf.1 k hk), fun i h1 h2 => (pk_un h1).trans (hf.2 i h1 h2)⟩ he
    · refine M.blk (is := [(.goto 26, 51, 0, 0), (.iinc 2 1, 2, 0, 1), (.goto (-52), 2, 0, 0)]) (pc1 := 2) (lo1 := [(2, .int 2), (3, .int 3), (0, .ref 113), (1, .int s)]) (st1 := []) (w1 := (WX pgC pgL stC stL PA PS BB BT u)) (by decide +kernel) rfl ?_
      refine M.lsub [2, 3, 0] (lo1 := [(0, .ref 113), (1, .int s), (2, .int 2)]) rfl ?_
      exact L2 _ BB BT (BR_skip hy (b2i_f z22)) hf he
  have L0 : ∀ (y : Nat → Nat × Nat × Int32) BB BT, BR κ y BB BT → (∀ k, k ≠ 0 → BB k = BA k) ∧ (∀ i, i ≠ 10 → i ≠ 11 → BT i = BS i) → (∀ p, mcr κ p (BA 4) s 2 (mcr κ p (BA 4) s 1 (mcr κ p (BA 4) s 4 (mcr κ p (BA 4) s 3 (mcr κ p (BA 4) s 0 (y p))))) = wSt κ p (BA 4) s (z p)) → g 0 0 2 [(0, .ref 113), (1, .int s), (2, .int 0)] [] (WX pgC pgL stC stL PA PS BB BT u) := by
    intro y BB BT hy hf he
    have g7 : BT 7 = kI κ := (hf.2 7 (by decide) (by decide)).trans h7
    have g8 : BT 8 = nI (ptsN κ) := (hf.2 8 (by decide) (by decide)).trans h8
    have g4 : BB 4 = BA 4 := hf.1 4 (by decide)
    refine M.blk (is := [(.iload_n 2, 2, 0, 0)]) (pc1 := 3) (lo1 := [(0, .ref 113), (1, .int s), (2, .int 0)]) (st1 := [.int 0]) (w1 := (WX pgC pgL stC stL PA PS BB BT u)) (by decide +kernel) rfl ?_
    refine M.gord (idx := 95) (nx := 6) (by decide +kernel) (lw_in 375 (by decide +kernel) (by decide +kernel)) ?_
    refine M.lord (nx := 7) (by decide +kernel) ?_
    refine M.icmp_ge (off := 50) (tgt := 57) (nx := 10) (by decide +kernel) (fun h => absurd h (by decide)) (fun _ => ?_)
    refine M.gord (idx := 95) (nx := 13) (by decide +kernel) (lw_in 375 (by decide +kernel) (by decide +kernel)) ?_
    refine M.blk (is := [(.iload_n 2, 2, 0, 0)]) (pc1 := 14) (lo1 := [(0, .ref 113), (1, .int s), (2, .int 0)]) (st1 := [.int 0, .ref 98]) (w1 := (WX pgC pgL stC stL PA PS BB BT u)) (by decide +kernel) rfl ?_
    refine M.aord (j := 0) (nx := 15) (by decide +kernel) rfl (by decide) ?_
    show g 0 0 15 [(0, .ref 113), (1, .int s), (2, .int 0)] [.int 0] (WX pgC pgL stC stL PA PS BB BT u)
    refine M.blk (is := [(.istore_n 3, 3, 0, 0), (.aload_n 0, 0, 0, 0), (.iload_n 3, 3, 0, 0), (.iload_n 1, 1, 0, 0)]) (pc1 := 19) (lo1 := [(3, .int 0), (0, .ref 113), (1, .int s), (2, .int 0)]) (st1 := [.int s, .int 0, .ref 113]) (w1 := (WX pgC pgL stC stL PA PS BB BT u)) (by decide +kernel) rfl ?_
    refine M.callVi (as := [.int 0, .int s]) (st := []) (nx := 22) okX0_isWritten lkX0_98 (x_isWritten (d := 0) (by decide) s) (by decide +kernel) (by decide) rfl (Nat.le_of_ble_eq_true rfl) rfl (by decide) ?_
    rw [g4]
    refine M.if_ne (off := 6) (tgt := 28) (nx := 25) (by decide +kernel) (fun z22 => ?_) (fun z22 => ?_)
    · refine M.blk (is := [(.iload_n 3, 3, 0, 0), (.iconst 4, 0, 0, 4)]) (pc1 := 30) (lo1 := [(3, .int 0), (0, .ref 113), (1, .int s), (2, .int 0)]) (st1 := [.int 4, .int 0]) (w1 := (WX pgC pgL stC stL PA PS BB BT u)) (by decide +kernel) rfl ?_
      refine M.icmp_ne (off := 11) (tgt := 41) (nx := 33) (by decide +kernel) (fun _ => ?_) (fun h => absurd h (by decide))
      refine M.blk (is := [(.aload_n 0, 0, 0, 0), (.iload_n 3, 3, 0, 0), (.iload_n 1, 1, 0, 0)]) (pc1 := 44) (lo1 := [(3, .int 0), (0, .ref 113), (1, .int s), (2, .int 0)]) (st1 := [.int s, .int 0, .ref 113]) (w1 := (WX pgC pgL stC stL PA PS BB BT u)) (by decide +kernel) rfl ?_
      refine M.callVv (as := [.int 0, .int s]) (st := []) (nx := 47) okX0_writeBeside lkX0_105 (x_writeBeside (κ := κ) (pat := (y 0).1) g7 g8 (hy.1 0).1 (hy.1 0).2.1 (k := 0) (by decide) s) (by decide +kernel) (by decide) rfl (Nat.le_of_ble_eq_true rfl) rfl (by decide) ?_
      show g 0 0 47 [(3, .int 0), (0, .ref 113), (1, .int s), (2, .int 0)] [] (WX pgC pgL stC stL PA PS (va_up BB 0 ((besB κ 0 s (y 0).1 (BB 0)).2)) (upd BT 10 (nI (besB κ 0 s (y 0).1 (BB 0)).1)) u)
      refine M.blk (is := [(.aload_n 0, 0, 0, 0)]) (pc1 := 48) (lo1 := [(3, .int 0), (0, .ref 113), (1, .int s), (2, .int 0)]) (st1 := [.ref 113]) (w1 := (WX pgC pgL stC stL PA PS (va_up BB 0 ((besB κ 0 s (y 0).1 (BB 0)).2)) (upd BT 10 (nI (besB κ 0 s (y 0).1 (BB 0)).1)) u)) (by decide +kernel) rfl ?_
      refine M.callVv (as := []) (st := []) (nx := 51) okX0_hold lkX0_42 (x_hold (κ := κ) (pat := (besB κ 0 s (y 0).1 (BB 0)).1) g7 g8 rfl (by rw [besB_1 κ 0 s (y 0).1 (BB 0) 0 0]; exact mcB_lt (by decide) (hy.1 0).2.1)) (by decide +kernel) (by decide) rfl (Nat.le_of_ble_eq_true rfl) rfl (by decide) ?_
      show g 0 0 51 [(3, .int 0), (0, .ref 113), (1, .int s), (2, .int 0)] [] (WX pgC pgL stC stL PA PS (va_up BB 0 (hldF κ ((besB κ 0 s (y 0).1 (BB 0)).1) ((besB κ 0 s (y 0).1 (BB 0)).2))) (upd BT 10 (nI (besB κ 0 s (y 0).1 (BB 0)).1)) u)
      refine M.blk (is := [(.iinc 2 1, 2, 0, 1), (.goto (-52), 2, 0, 0)]) (pc1 := 2) (lo1 := [(2, .int 1), (3, .int 0), (0, .ref 113), (1, .int s)]) (st1 := []) (w1 := (WX pgC pgL stC stL PA PS (va_up BB 0 (hldF κ ((besB κ 0 s (y 0).1 (BB 0)).1) ((besB κ 0 s (y 0).1 (BB 0)).2))) (upd BT 10 (nI (besB κ 0 s (y 0).1 (BB 0)).1)) u)) (by decide +kernel) rfl ?_
      refine M.lsub [2, 3, 0] (lo1 := [(0, .ref 113), (1, .int s), (2, .int 1)]) rfl ?_
      exact L1 _ _ _ (BR_bes hy (b2i_t z22) (by decide) rfl rfl rfl) ⟨fun k hk => (va_upN _ _ hk).trans (hf.1 k hk), fun i h1 h2 => (pk_un h1).trans (hf.2 i h1 h2)⟩ he
    · refine M.blk (is := [(.goto 26, 51, 0, 0), (.iinc 2 1, 2, 0, 1), (.goto (-52), 2, 0, 0)]) (pc1 := 2) (lo1 := [(2, .int 1), (3, .int 0), (0, .ref 113), (1, .int s)]) (st1 := []) (w1 := (WX pgC pgL stC stL PA PS BB BT u)) (by decide +kernel) rfl ?_
      refine M.lsub [2, 3, 0] (lo1 := [(0, .ref 113), (1, .int s), (2, .int 1)]) rfl ?_
      exact L1 _ BB BT (BR_skip hy (b2i_f z22)) hf he
  show g 0 0 0 [(0, .ref 113), (1, .int s)] [] (WX pgC pgL stC stL PA PS BA BS u)
  refine M.blk (is := [(.iconst 0, 0, 0, 0), (.istore_n 2, 2, 0, 0)]) (pc1 := 2) (lo1 := [(2, .int 0), (0, .ref 113), (1, .int s)]) (st1 := []) (w1 := (WX pgC pgL stC stL PA PS BA BS u)) (by decide +kernel) rfl ?_
  refine M.lsub [1, 2, 0] (lo1 := [(0, .ref 113), (1, .int s), (2, .int 0)]) rfl ?_
  exact L0 z BA BS hbr ⟨fun _ _ => rfl, fun _ _ _ => rfl⟩ (fun p => rfl)
theorem min_parts (κ : Nat) : (if (128 : Int32) < partsI (kI κ) then 128 else partsI (kI κ)) = nI (ptsN κ) := by
  rw [parts_kI]
  have h := ptsN_le κ
  rw [if_neg (show ¬ (128 : Int32) < nI (ptsN κ) from nI_nlt (a := 128) h (by decide))]
theorem x_begin {κ : Nat} (h7 : BS 7 = kI κ) : CC 2 mX0_begin 0 0 [.ref 113, .ref 105] (WX pgC pgL stC stL PA PS BA BS u) (fun r0 w1 => r0 = none ∧ ∃ BB, w1 = (WX pgC pgL stC stL PA PS BB (upd (upd (upd (upd (upd BS 8 (nI (ptsN κ))) 9 (thF PA PS (BS 6))) 10 0) 11 0) 12 0) u) ∧ (∀ p, p < ptsN κ → BB 0 p = 0 ∧ BB 1 p = 0) ∧ (∀ d, d < 4 → BB 4 d = tyF PA PS (beF PA PS (BS 6) (nI d))) ∧ BB 4 4 = tyF PA PS (BS 6)) := by
  have hP := ptsN_le κ
  refine CC.of okX0_begin.1 (Nat.le_of_ble_eq_true rfl) (fun g M => ?_)
  have lp2 : ∀ m k BB, k + m = 4 → (∀ p, p < ptsN κ → BB 0 p = 0 ∧ BB 1 p = 0) → (∀ d, d < k → BB 4 d = tyF PA PS (beF PA PS (BS 6) (nI d))) → g 0 0 76 [(0, .ref 113), (1, .ref 105), (2, .int (nI k))] [] (WX pgC pgL stC stL PA PS BB (upd (upd (upd (upd (upd BS 8 (nI (ptsN κ))) 9 (thF PA PS (BS 6))) 10 0) 11 0) 12 0) u) := by
    intro m
    induction m with
    | zero =>
      intro k BB hk h0 ht
      have ek : k = 4 := by omega
      subst ek
      refine M.blk (is := [(.iload_n 2, 2, 0, 0), (.iconst 4, 0, 0, 4)]) (pc1 := 78) (lo1 := [(0, .ref 113), (1, .ref 105), (2, .int (nI 4))]) (st1 := [.int 4, .int (nI 4)]) (w1 := (WX pgC pgL stC stL PA PS BB (upd (upd (upd (upd (upd BS 8 (nI (ptsN κ))) 9 (thF PA PS (BS 6))) 10 0) 11 0) 12 0) u)) (by decide +kernel) rfl ?_
      refine M.icmp_ge (off := 28) (tgt := 106) (nx := 81) (by decide +kernel) (fun z78 => ?_) (fun z78 => by exfalso; exact z78 (by decide))
      refine M.blk (is := [(.aload_n 0, 0, 0, 0), (.getfield 24, 0, 4, 0), (.iconst 4, 0, 0, 4), (.aload_n 1, 1, 0, 0), (.aload_n 0, 0, 0, 0), (.getfield 31, 0, 6, 0)]) (pc1 := 116) (lo1 := [(0, .ref 113), (1, .ref 105), (2, .int (nI 4))]) (st1 := [.int (BS 6), .ref 105, .int 4, .ref 118]) (w1 := (WX pgC pgL stC stL PA PS BB (upd (upd (upd (upd (upd BS 8 (nI (ptsN κ))) 9 (thF PA PS (BS 6))) 10 0) 11 0) 12 0) u)) (by decide +kernel) rfl ?_
      refine M.callVi (as := [.int (BS 6)]) (st := [.int 4, .ref 118]) (nx := 119) okX1_typeOf lkX0_92 (x_typeOf (BS 6)) (by decide +kernel) (by decide) rfl (Nat.le_of_ble_eq_true rfl) rfl (by decide) ?_
      refine M.ast (n := 5) (f := BB 4) (j := 4) (nx := 120) (by decide +kernel) rfl rfl (by decide) (by decide) ?_
      show g 0 0 120 [(0, .ref 113), (1, .ref 105), (2, .int (nI 4))] [] (WX pgC pgL stC stL PA PS (va_up BB 4 (upd (BB 4) 4 (tyF PA PS (BS 6)))) (upd (upd (upd (upd (upd BS 8 (nI (ptsN κ))) 9 (thF PA PS (BS 6))) 10 0) 11 0) 12 0) u)
      exact M.retv (nx := 121) (by decide +kernel) ⟨rfl, _, rfl, h0, fun d hd => by rw [va_upS, pk_un (by omega)]; exact ht d hd, by rw [va_upS, pk_us]⟩
    | succ m ih =>
      intro k BB hk h0 ht
      refine M.blk (is := [(.iload_n 2, 2, 0, 0), (.iconst 4, 0, 0, 4)]) (pc1 := 78) (lo1 := [(0, .ref 113), (1, .ref 105), (2, .int (nI k))]) (st1 := [.int 4, .int (nI k)]) (w1 := (WX pgC pgL stC stL PA PS BB (upd (upd (upd (upd (upd BS 8 (nI (ptsN κ))) 9 (thF PA PS (BS 6))) 10 0) 11 0) 12 0) u)) (by decide +kernel) rfl ?_
      refine M.icmp_ge (off := 28) (tgt := 106) (nx := 81) (by decide +kernel) (fun z78 => by exfalso; exact nI_ge (a := k) (b := 4) (by omega) (by decide) z78) (fun z78 => ?_)
      refine M.blk (is := [(.aload_n 0, 0, 0, 0), (.getfield 24, 0, 4, 0), (.iload_n 2, 2, 0, 0), (.aload_n 1, 1, 0, 0), (.aload_n 1, 1, 0, 0), (.aload_n 0, 0, 0, 0), (.getfield 31, 0, 6, 0), (.iload_n 2, 2, 0, 0)]) (pc1 := 93) (lo1 := [(0, .ref 113), (1, .ref 105), (2, .int (nI k))]) (st1 := [.int (nI k), .int (BS 6), .ref 105, .ref 105, .int (nI k), .ref 118]) (w1 := (WX pgC pgL stC stL PA PS BB (upd (upd (upd (upd (upd BS 8 (nI (ptsN κ))) 9 (thF PA PS (BS 6))) 10 0) 11 0) 12 0) u)) (by decide +kernel) rfl ?_
      refine M.callVi (as := [.int (BS 6), .int (nI k)]) (st := [.ref 105, .int (nI k), .ref 118]) (nx := 96) okX1_beside lkX0_89 (x_beside (BS 6) (nI k)) (by decide +kernel) (by decide) rfl (Nat.le_of_ble_eq_true rfl) rfl (by decide) ?_
      refine M.callVi (as := [.int (beF PA PS (BS 6) (nI k))]) (st := [.int (nI k), .ref 118]) (nx := 99) okX1_typeOf lkX0_92 (x_typeOf (beF PA PS (BS 6) (nI k))) (by decide +kernel) (by decide) rfl (Nat.le_of_ble_eq_true rfl) rfl (by decide) ?_
      refine M.ast (n := 5) (f := BB 4) (j := k) (nx := 100) (by decide +kernel) rfl rfl (by omega) (by decide) ?_
      show g 0 0 100 [(0, .ref 113), (1, .ref 105), (2, .int (nI k))] [] (WX pgC pgL stC stL PA PS (va_up BB 4 (upd (BB 4) k (tyF PA PS (beF PA PS (BS 6) (nI k))))) (upd (upd (upd (upd (upd BS 8 (nI (ptsN κ))) 9 (thF PA PS (BS 6))) 10 0) 11 0) 12 0) u)
      refine M.blk (is := [(.iinc 2 1, 2, 0, 1), (.goto (-27), 76, 0, 0)]) (pc1 := 76) (lo1 := [(2, .int ((nI k) + 1)), (0, .ref 113), (1, .ref 105)]) (st1 := []) (w1 := (WX pgC pgL stC stL PA PS (va_up BB 4 (upd (BB 4) k (tyF PA PS (beF PA PS (BS 6) (nI k))))) (upd (upd (upd (upd (upd BS 8 (nI (ptsN κ))) 9 (thF PA PS (BS 6))) 10 0) 11 0) 12 0) u)) (by decide +kernel) rfl ?_
      refine M.lsub [1, 2, 0] (lo1 := [(0, .ref 113), (1, .ref 105), (2, .int ((nI k) + 1))]) rfl ?_
      rw [nI_1]
      refine ih (k + 1) _ (by omega) h0 (fun d hd => ?_)
      by_cases e : d = k
      · subst e; exact pk_us
      · exact (pk_un e).trans (ht d (by omega))
  have lp1 : ∀ m k BB, k + m = ptsN κ → (∀ p, p < k → BB 0 p = 0 ∧ BB 1 p = 0) → g 0 0 46 [(0, .ref 113), (1, .ref 105), (2, .int (nI k))] [] (WX pgC pgL stC stL PA PS BB (upd (upd (upd (upd (upd BS 8 (nI (ptsN κ))) 9 (thF PA PS (BS 6))) 10 0) 11 0) 12 0) u) := by
    intro m
    induction m with
    | zero =>
      intro k BB hk h0
      have ek : ptsN κ = k := by omega
      rw [← ek] at h0 ⊢
      refine M.blk (is := [(.iload_n 2, 2, 0, 0), (.aload_n 0, 0, 0, 0), (.getfield 70, 0, 8, 0)]) (pc1 := 51) (lo1 := [(0, .ref 113), (1, .ref 105), (2, .int (nI (ptsN κ)))]) (st1 := [.int (nI (ptsN κ)), .int (nI (ptsN κ))]) (w1 := (WX pgC pgL stC stL PA PS BB (upd (upd (upd (upd (upd BS 8 (nI (ptsN κ))) 9 (thF PA PS (BS 6))) 10 0) 11 0) 12 0) u)) (by decide +kernel) rfl ?_
      refine M.icmp_ge (off := 23) (tgt := 74) (nx := 54) (by decide +kernel) (fun z51 => ?_) (fun z51 => by exfalso; exact z51 (nI_le (Nat.le_refl _) (by omega)))
      refine M.blk (is := [(.iconst 0, 0, 0, 0), (.istore_n 2, 2, 0, 0)]) (pc1 := 76) (lo1 := [(2, .int 0), (0, .ref 113), (1, .ref 105)]) (st1 := []) (w1 := (WX pgC pgL stC stL PA PS BB (upd (upd (upd (upd (upd BS 8 (nI (ptsN κ))) 9 (thF PA PS (BS 6))) 10 0) 11 0) 12 0) u)) (by decide +kernel) rfl ?_
      refine M.lsub [1, 2, 0] (lo1 := [(0, .ref 113), (1, .ref 105), (2, .int 0)]) rfl ?_
      exact lp2 4 0 BB (by omega) h0 (fun d hd => absurd hd (Nat.not_lt_zero _))
    | succ m ih =>
      intro k BB hk h0
      refine M.blk (is := [(.iload_n 2, 2, 0, 0), (.aload_n 0, 0, 0, 0), (.getfield 70, 0, 8, 0)]) (pc1 := 51) (lo1 := [(0, .ref 113), (1, .ref 105), (2, .int (nI k))]) (st1 := [.int (nI (ptsN κ)), .int (nI k)]) (w1 := (WX pgC pgL stC stL PA PS BB (upd (upd (upd (upd (upd BS 8 (nI (ptsN κ))) 9 (thF PA PS (BS 6))) 10 0) 11 0) 12 0) u)) (by decide +kernel) rfl ?_
      refine M.icmp_ge (off := 23) (tgt := 74) (nx := 54) (by decide +kernel) (fun z51 => by exfalso; exact nI_ge (show k < ptsN κ by omega) (by omega) z51) (fun z51 => ?_)
      refine M.blk (is := [(.aload_n 0, 0, 0, 0), (.getfield 9, 0, 0, 0), (.iload_n 2, 2, 0, 0), (.iconst 0, 0, 0, 0)]) (pc1 := 60) (lo1 := [(0, .ref 113), (1, .ref 105), (2, .int (nI k))]) (st1 := [.int 0, .int (nI k), .ref 114]) (w1 := (WX pgC pgL stC stL PA PS BB (upd (upd (upd (upd (upd BS 8 (nI (ptsN κ))) 9 (thF PA PS (BS 6))) 10 0) 11 0) 12 0) u)) (by decide +kernel) rfl ?_
      refine M.ast (n := 128) (f := BB 0) (j := k) (nx := 61) (by decide +kernel) rfl rfl (by omega) (by decide) ?_
      show g 0 0 61 [(0, .ref 113), (1, .ref 105), (2, .int (nI k))] [] (WX pgC pgL stC stL PA PS (va_up BB 0 (upd (BB 0) k 0)) (upd (upd (upd (upd (upd BS 8 (nI (ptsN κ))) 9 (thF PA PS (BS 6))) 10 0) 11 0) 12 0) u)
      refine M.blk (is := [(.aload_n 0, 0, 0, 0), (.getfield 15, 0, 1, 0), (.iload_n 2, 2, 0, 0), (.iconst 0, 0, 0, 0)]) (pc1 := 67) (lo1 := [(0, .ref 113), (1, .ref 105), (2, .int (nI k))]) (st1 := [.int 0, .int (nI k), .ref 115]) (w1 := (WX pgC pgL stC stL PA PS (va_up BB 0 (upd (BB 0) k 0)) (upd (upd (upd (upd (upd BS 8 (nI (ptsN κ))) 9 (thF PA PS (BS 6))) 10 0) 11 0) 12 0) u)) (by decide +kernel) rfl ?_
      refine M.ast (n := 128) (f := BB 1) (j := k) (nx := 68) (by decide +kernel) rfl rfl (by omega) (by decide) ?_
      show g 0 0 68 [(0, .ref 113), (1, .ref 105), (2, .int (nI k))] [] (WX pgC pgL stC stL PA PS (va_up (va_up BB 0 (upd (BB 0) k 0)) 1 (upd (BB 1) k 0)) (upd (upd (upd (upd (upd BS 8 (nI (ptsN κ))) 9 (thF PA PS (BS 6))) 10 0) 11 0) 12 0) u)
      refine M.blk (is := [(.iinc 2 1, 2, 0, 1), (.goto (-25), 46, 0, 0)]) (pc1 := 46) (lo1 := [(2, .int ((nI k) + 1)), (0, .ref 113), (1, .ref 105)]) (st1 := []) (w1 := (WX pgC pgL stC stL PA PS (va_up (va_up BB 0 (upd (BB 0) k 0)) 1 (upd (BB 1) k 0)) (upd (upd (upd (upd (upd BS 8 (nI (ptsN κ))) 9 (thF PA PS (BS 6))) 10 0) 11 0) 12 0) u)) (by decide +kernel) rfl ?_
      refine M.lsub [1, 2, 0] (lo1 := [(0, .ref 113), (1, .ref 105), (2, .int ((nI k) + 1))]) rfl ?_
      rw [nI_1]
      refine ih (k + 1) _ (by omega) (fun p hp => ?_)
      by_cases e : p = k
      · subst e; exact ⟨pk_us, pk_us⟩
      · exact ⟨(pk_un e).trans (h0 p (by omega)).1, (pk_un e).trans (h0 p (by omega)).2⟩
  show g 0 0 0 [(0, .ref 113), (1, .ref 105)] [] (WX pgC pgL stC stL PA PS BA BS u)
  refine M.blk (is := [(.aload_n 0, 0, 0, 0), (.aload_n 0, 0, 0, 0), (.getfield 35, 0, 7, 0)]) (pc1 := 5) (lo1 := [(0, .ref 113), (1, .ref 105)]) (st1 := [.int (BS 7), .ref 113]) (w1 := (WX pgC pgL stC stL PA PS BA BS u)) (by decide +kernel) rfl ?_
  refine M.callSi (as := [.int (BS 7)]) (st := [.ref 113]) (nx := 8) okX3_partsOf lkX0_61 (s_partsOf (WX pgC pgL stC stL PA PS BA BS u) (BS 7)) (by decide +kernel) (by decide) rfl (Nat.le_of_ble_eq_true rfl) ?_
  refine M.blk (is := [(.sipush 128, 0, 0, 128)]) (pc1 := 11) (lo1 := [(0, .ref 113), (1, .ref 105)]) (st1 := [.int 128, .int (partsI (BS 7)), .ref 113]) (w1 := (WX pgC pgL stC stL PA PS BA BS u)) (by decide +kernel) rfl ?_
  refine M.mmin (idx := 64) (nx := 14) (by decide +kernel) (lw_in 356 (by decide +kernel) (by decide +kernel)) (lw_in 357 (by decide +kernel) (by decide +kernel)) (lw_in 60 (by decide +kernel) (by decide +kernel)) (lw_in 358 (by decide +kernel) (by decide +kernel)) (by decide) (Nat.le_of_ble_eq_true rfl) (by decide) (by decide) ?_
  rw [h7, min_parts]
  refine M.blk (is := [(.putfield 70, 0, 8, 0), (.aload_n 0, 0, 0, 0), (.aload_n 1, 1, 0, 0), (.aload_n 0, 0, 0, 0), (.getfield 31, 0, 6, 0)]) (pc1 := 23) (lo1 := [(0, .ref 113), (1, .ref 105)]) (st1 := [.int (BS 6), .ref 105, .ref 113]) (w1 := (WX pgC pgL stC stL PA PS BA (upd BS 8 (nI (ptsN κ))) u)) (by decide +kernel) rfl ?_
  refine M.callVi (as := [.int (BS 6)]) (st := [.ref 113]) (nx := 26) okX1_there lkX0_73 (x_there (BS 6)) (by decide +kernel) (by decide) rfl (Nat.le_of_ble_eq_true rfl) rfl (by decide) ?_
  refine M.blk (is := [(.putfield 78, 0, 9, 0), (.aload_n 0, 0, 0, 0), (.iconst 0, 0, 0, 0), (.putfield 80, 0, 10, 0), (.aload_n 0, 0, 0, 0), (.iconst 0, 0, 0, 0), (.putfield 83, 0, 11, 0), (.aload_n 0, 0, 0, 0), (.iconst 0, 0, 0, 0), (.putfield 86, 0, 12, 0), (.iconst 0, 0, 0, 0), (.istore_n 2, 2, 0, 0)]) (pc1 := 46) (lo1 := [(2, .int 0), (0, .ref 113), (1, .ref 105)]) (st1 := []) (w1 := (WX pgC pgL stC stL PA PS BA (upd (upd (upd (upd (upd BS 8 (nI (ptsN κ))) 9 (thF PA PS (BS 6))) 10 0) 11 0) 12 0) u)) (by decide +kernel) rfl ?_
  refine M.lsub [1, 2, 0] (lo1 := [(0, .ref 113), (1, .ref 105), (2, .int 0)]) rfl ?_
  exact lp1 (ptsN κ) 0 BA (by omega) (fun p hp => absurd hp (Nat.not_lt_zero _))
def smT (PA : Nat → Nat → Int32) (PS : Nat → Int32) (x : Int32) : Nat → Int32 := fun d => if d < 4 then tyF PA PS (beF PA PS x (nI d)) else tyF PA PS x
/-- one FAULT's course: pattern, should, sights, bit, misses, first step, first read -/
def smS (κ p : Nat) (τ C : Nat → Int32) (j : Nat) : Nat × Nat × Int32 × Int32 × Int32 × Int32 × Int32 := match j with
  | 0 => (0, 0, 0, hlP κ 0 p 0, 0, 0, 0)
  | j + 1 => if C j = 114 then
      ((smS κ p τ C j).1, (smS κ p τ C j).2.1, (smS κ p τ C j).2.2.1 ||| (1 <<< ((16 * nI (smS κ p τ C j).2.1 + nI (smS κ p τ C j).1) &&& 31)), (smS κ p τ C j).2.2.2.1,
        (if (smS κ p τ C j).2.2.2.1 = nI (smS κ p τ C j).2.1 then (smS κ p τ C j).2.2.2.2.1 else (smS κ p τ C j).2.2.2.2.1 + 1),
        (if ¬ (smS κ p τ C j).2.2.2.1 = nI (smS κ p τ C j).2.1 ∧ (smS κ p τ C j).2.2.2.2.1 = 0 then nI j else (smS κ p τ C j).2.2.2.2.2.1),
        (if ¬ (smS κ p τ C j).2.2.2.1 = nI (smS κ p τ C j).2.1 ∧ (smS κ p τ C j).2.2.2.2.1 = 0 then (smS κ p τ C j).2.2.2.1 else (smS κ p τ C j).2.2.2.2.2.2))
    else ((wSt κ p τ (C j) ((smS κ p τ C j).1, (smS κ p τ C j).2.1, (smS κ p τ C j).2.2.2.1)).1, (wSt κ p τ (C j) ((smS κ p τ C j).1, (smS κ p τ C j).2.1, (smS κ p τ C j).2.2.2.1)).2.1, (smS κ p τ C j).2.2.1, (wSt κ p τ (C j) ((smS κ p τ C j).1, (smS κ p τ C j).2.1, (smS κ p τ C j).2.2.2.1)).2.2, (smS κ p τ C j).2.2.2.2.1, (smS κ p τ C j).2.2.2.2.2.1, (smS κ p τ C j).2.2.2.2.2.2)
def smZ (κ p : Nat) (τ C : Nat → Int32) (j : Nat) : Nat × Nat × Int32 := ((smS κ p τ C j).1, (smS κ p τ C j).2.1, (smS κ p τ C j).2.2.2.1)
theorem smZ_lt (κ p : Nat) (τ C : Nat → Int32) (j : Nat) : (smZ κ p τ C j).1 < 16 ∧ (smZ κ p τ C j).2.1 < 2 := by
  induction j with
  | zero => exact ⟨show 0 < 16 by decide, show 0 < 2 by decide⟩
  | succ j ih =>
    unfold smZ smS
    split
    · exact ih
    · exact wSt_lt ih
def WI (κ : Nat) (τ C : Nat → Int32) (x th : Int32) (j : Nat) (BA : Nat → Nat → Int32) (BS : Nat → Int32) : Prop := (BS 6 = x ∧ BS 7 = kI κ ∧ BS 8 = nI (ptsN κ) ∧ BS 9 = th) ∧ BR κ (fun p => smZ κ p τ C j) BA BS ∧ (∀ p, BS 12 = (smS κ p τ C j).2.2.1) ∧ (∀ d, d < 5 → BA 4 d = τ d) ∧ ∀ p, p < ptsN κ → BA 1 p = (smS κ p τ C j).2.2.2.2.1 ∧ (¬ (smS κ p τ C j).2.2.2.2.1 = 0 → BA 2 p = (smS κ p τ C j).2.2.2.2.2.1 ∧ BA 3 p = (smS κ p τ C j).2.2.2.2.2.2)
theorem mcr_congr {κ p : Nat} {τ τ2 : Nat → Int32} {s : Int32} {d : Nat} (h : τ d = τ2 d) (z : Nat × Nat × Int32) : mcr κ p τ s d z = mcr κ p τ2 s d z := by unfold mcr; rw [h]
theorem wSt_congr {κ p : Nat} {τ τ2 : Nat → Int32} {s : Int32} (h : ∀ d, d < 5 → τ d = τ2 d) (z : Nat × Nat × Int32) : wSt κ p τ s z = wSt κ p τ2 s z := by
  unfold wSt
  rw [mcr_congr (h 0 (by decide)), mcr_congr (h 3 (by decide)), mcr_congr (h 4 (by decide)), mcr_congr (h 1 (by decide)), mcr_congr (h 2 (by decide))]
theorem WI_write {κ : Nat} {τ C : Nat → Int32} {x th : Int32} {j : Nat} {BA BB : Nat → Nat → Int32} {BS BT : Nat → Int32} (h : WI κ τ C x th j BA BS) (hs : ¬ C j = 114) (hb : BR κ (fun p => wSt κ p (BA 4) (C j) (smZ κ p τ C j)) BB BT) (hf : (∀ k, k ≠ 0 → BB k = BA k) ∧ (∀ i, i ≠ 10 → i ≠ 11 → BT i = BS i)) : WI κ τ C x th (j + 1) BB BT := by
  obtain ⟨⟨a1, a2, a3, a4⟩, hbr, h12, ht, hp⟩ := h
  have e : ∀ p, smS κ p τ C (j + 1) = ((wSt κ p τ (C j) (smZ κ p τ C j)).1, (wSt κ p τ (C j) (smZ κ p τ C j)).2.1, (smS κ p τ C j).2.2.1, (wSt κ p τ (C j) (smZ κ p τ C j)).2.2, (smS κ p τ C j).2.2.2.2.1, (smS κ p τ C j).2.2.2.2.2.1, (smS κ p τ C j).2.2.2.2.2.2) := by
    intro p
    show (if C j = 114 then _ else _) = _
    rw [if_neg hs]
    rfl
  have ez : (fun p => smZ κ p τ C (j + 1)) = fun p => wSt κ p (BA 4) (C j) (smZ κ p τ C j) := by
    funext p
    unfold smZ
    rw [e p, wSt_congr (τ := BA 4) (τ2 := τ) ht]
    rfl
  refine ⟨⟨by rw [hf.2 6 (by decide) (by decide)]; exact a1, by rw [hf.2 7 (by decide) (by decide)]; exact a2, by rw [hf.2 8 (by decide) (by decide)]; exact a3, by rw [hf.2 9 (by decide) (by decide)]; exact a4⟩, by rw [ez]; exact hb, fun p => ?_, fun d hd => by rw [hf.1 4 (by decide)]; exact ht d hd, fun p hp2 => ?_⟩
  · rw [e p, hf.2 12 (by decide) (by decide)]
    exact h12 p
  · rw [e p, hf.1 1 (by decide), hf.1 2 (by decide), hf.1 3 (by decide)]
    exact hp p hp2
theorem WI_read {κ : Nat} {τ C : Nat → Int32} {x th : Int32} {j : Nat} {BA BB : Nat → Nat → Int32} {BS BT : Nat → Int32} (h : WI κ τ C x th j BA BS) (hs : C j = 114) (e0 : BB 0 = BA 0) (e1 : BB 1 = rdM (ptsN κ) (BS 11) (BA 0) (BA 1)) (e2 : BB 2 = rdF (ptsN κ) (BS 11) (nI j) (BA 0) (BA 1) (BA 2)) (e3 : BB 3 = rdR (ptsN κ) (BS 11) (BA 0) (BA 1) (BA 3)) (e4 : BB 4 = BA 4) (f12 : BT 12 = BS 12 ||| (1 <<< ((16 * BS 11 + BS 10) &&& 31))) (hf : ∀ i, i ≠ 12 → BT i = BS i) : WI κ τ C x th (j + 1) BB BT := by
  obtain ⟨⟨a1, a2, a3, a4⟩, hbr, h12, ht, hp⟩ := h
  have e : ∀ p, smS κ p τ C (j + 1) = ((smS κ p τ C j).1, (smS κ p τ C j).2.1, (smS κ p τ C j).2.2.1 ||| (1 <<< ((16 * nI (smS κ p τ C j).2.1 + nI (smS κ p τ C j).1) &&& 31)), (smS κ p τ C j).2.2.2.1,
        (if (smS κ p τ C j).2.2.2.1 = nI (smS κ p τ C j).2.1 then (smS κ p τ C j).2.2.2.2.1 else (smS κ p τ C j).2.2.2.2.1 + 1),
        (if ¬ (smS κ p τ C j).2.2.2.1 = nI (smS κ p τ C j).2.1 ∧ (smS κ p τ C j).2.2.2.2.1 = 0 then nI j else (smS κ p τ C j).2.2.2.2.2.1),
        (if ¬ (smS κ p τ C j).2.2.2.1 = nI (smS κ p τ C j).2.1 ∧ (smS κ p τ C j).2.2.2.2.1 = 0 then (smS κ p τ C j).2.2.2.1 else (smS κ p τ C j).2.2.2.2.2.2)) := by
    intro p
    show (if C j = 114 then _ else _) = _
    rw [if_pos hs]
  have ez : (fun p => smZ κ p τ C (j + 1)) = fun p => smZ κ p τ C j := by
    funext p
    unfold smZ
    rw [e p]
  refine ⟨⟨by rw [hf 6 (by decide)]; exact a1, by rw [hf 7 (by decide)]; exact a2, by rw [hf 8 (by decide)]; exact a3, by rw [hf 9 (by decide)]; exact a4⟩, ?_, fun p => ?_, fun d hd => by rw [e4]; exact ht d hd, fun p hp2 => ?_⟩
  · rw [ez]
    exact ⟨fun p => by rw [hf 10 (by decide), hf 11 (by decide)]; exact hbr.1 p, fun p hp => by rw [e0]; exact hbr.2 p hp⟩
  · rw [e p, f12, h12 p, (hbr.1 p).1, (hbr.1 p).2.2.1]
    rfl
  · have hB := hbr.2 p hp2
    have h11 := (hbr.1 p).2.2.1
    obtain ⟨hm, hfr⟩ := hp p hp2
    dsimp only [smZ] at hB h11
    rw [e p, e1, e2, e3]
    dsimp only
    unfold rdM rdF rdR
    rw [hB, h11, hm]
    generalize smS κ p τ C j = z at *
    by_cases c1 : z.2.2.2.1 = nI z.2.1
    · simp only [c1, not_true_eq_false, false_and, and_false, if_false, if_true]
      exact ⟨trivial, hfr⟩
    · by_cases c2 : z.2.2.2.2.1 = 0
      · simp only [c1, c2, hp2, not_false_eq_true, true_and, and_true, and_self, if_true, if_false]
        exact fun _ => trivial
      · simp only [c1, c2, hp2, not_false_eq_true, true_and, and_true, and_false, and_self, if_true, if_false]
        exact fun _ => hfr c2
def BnR (PA : Nat → Nat → Int32) (PS : Nat → Int32) (C : Nat → Int32) (sl κ : Nat) (x : Int32) (BA : Nat → Nat → Int32) (BS : Nat → Int32) : Prop := WI κ (smT PA PS x) C x (thF PA PS x) sl BA BS
def BnOk (PA : Nat → Nat → Int32) (PS : Nat → Int32) (C : Nat → Int32) (sl : Nat) (BA : Nat → Nat → Int32) (BS : Nat → Int32) : Prop := BS 5 = 0 ∨ ∃ κ, κ ≤ 3 ∧ BnR PA PS C sl κ (BS 6) BA BS
theorem kI_inj {a b : Nat} (ha : a ≤ 3) (hb : b ≤ 3) (h : kI a = kI b) : a = b := by
  have key : ∀ a b : Fin 4, kI a.val = kI b.val → a = b := by decide
  have := key ⟨a, by omega⟩ ⟨b, by omega⟩ h
  exact congrArg Fin.val this
theorem WI_0 {κ : Nat} {τ C : Nat → Int32} {x th : Int32} {BA BB : Nat → Nat → Int32} {BS : Nat → Int32} (h6 : BS 6 = x) (h7 : BS 7 = kI κ) (h8 : BS 8 = nI (ptsN κ)) (h9 : BS 9 = th) (h10 : BS 10 = 0) (h11 : BS 11 = 0) (h12 : BS 12 = 0) (h0 : ∀ p, p < ptsN κ → BB 0 p = 0 ∧ BB 1 p = 0) (ht : ∀ d, d < 5 → BB 4 d = τ d) (e0 : BA 0 = hldF κ 0 (BB 0)) (e1 : ∀ k, k ≠ 0 → BA k = BB k) : WI κ τ C x th 0 BA BS := by
  refine ⟨⟨h6, h7, h8, h9⟩, ⟨fun p => ⟨h10, show 0 < 16 by decide, h11, show 0 < 2 by decide⟩, fun p hp => ?_⟩, fun p => h12, fun d hd => by rw [e1 4 (by decide)]; exact ht d hd, fun p hp => ?_⟩
  · rw [e0]
    show hldF κ 0 (BB 0) p = hlP κ 0 p 0
    unfold hldF hlP
    rw [(h0 p hp).1]
  · rw [e1 1 (by decide)]
    exact ⟨(h0 p hp).2, fun h => absurd rfl h⟩
theorem work_same {PA : Nat → Nat → Int32} {PS C : Nat → Int32} {sl κ : Nat} {x : Int32} {BA : Nat → Nat → Int32} {BS : Nat → Int32} (hκ : κ ≤ 3) (hbn : BnOk PA PS C sl BA BS) (h5 : ¬ BS 5 = 0) (h6 : BS 6 = x) (h7 : BS 7 = kI κ) : BnR PA PS C sl κ x BA BS := by
  rcases hbn with h | ⟨κ2, hk2, h⟩
  · exact absurd h h5
  · have e := kI_inj hk2 hκ (h.1.2.1.symm.trans h7)
    subst e
    rw [h6] at h
    exact h
theorem WI_5 {κ : Nat} {τ C : Nat → Int32} {x th : Int32} {j : Nat} {BA : Nat → Nat → Int32} {BS : Nat → Int32} {v : Int32} (h : WI κ τ C x th j BA BS) : WI κ τ C x th j BA (upd BS 5 v) := h
theorem x_work {sl κ : Nat} (hsl : sl ≤ 64) (hκ : κ ≤ 3) (hbn : BnOk PA PS stC sl BA BS) (x : Int32) : CC 3 mX0_work 0 0 [.ref 113, .ref 105, .ref 103, .int x, .int (kI κ)] (WX pgC pgL stC (nI sl) PA PS BA BS u) (fun r0 w1 => r0 = none ∧ ∃ BB BT, w1 = WX pgC pgL stC (nI sl) PA PS BB BT u ∧ BnR PA PS stC sl κ x BB BT) := by
  refine CC.of okX0_work.1 (Nat.le_of_ble_eq_true rfl) (fun g M => ?_)
  have lp : ∀ m j BB BT, j + m = sl → WI κ (smT PA PS x) stC x (thF PA PS x) j BB BT → g 0 0 48 [(0, .ref 113), (2, .ref 103), (5, .int (nI j))] [] (WX pgC pgL stC (nI sl) PA PS BB BT u) := by
    intro m
    induction m with
    | zero =>
      intro j BB BT hj hw
      have ej : sl = j := by omega
      subst ej
      refine M.blk (is := [(.iload 5, 5, 0, 0), (.aload_n 2, 2, 0, 0), (.getfield 45, 2, 1, 0)]) (pc1 := 54) (lo1 := [(0, .ref 113), (2, .ref 103), (5, .int (nI sl))]) (st1 := [.int (nI sl), .int (nI sl)]) (w1 := (WX pgC pgL stC (nI sl) PA PS BB BT u)) (by decide +kernel) rfl ?_
      refine M.icmp_ge (off := 39) (tgt := 93) (nx := 57) (by decide +kernel) (fun z54 => ?_) (fun z54 => by exfalso; exact z54 (nI_le (Nat.le_refl _) (by omega)))
      refine M.blk (is := [(.aload_n 0, 0, 0, 0), (.iconst 1, 0, 0, 1)]) (pc1 := 95) (lo1 := [(0, .ref 113), (2, .ref 103), (5, .int (nI sl))]) (st1 := [.int 1, .ref 113]) (w1 := (WX pgC pgL stC (nI sl) PA PS BB BT u)) (by decide +kernel) rfl ?_
      refine M.putz (idx := 27) (a := 0) (b := 5) (nx := 98) (by decide +kernel) rfl (Nat.le_of_ble_eq_true rfl) (by decide) ?_
      show g 0 0 98 [(0, .ref 113), (2, .ref 103), (5, .int (nI sl))] [] (WX pgC pgL stC (nI sl) PA PS BB (upd BT 5 1) u)
      exact M.retv (nx := 99) (by decide +kernel) ⟨rfl, BB, upd BT 5 1, rfl, WI_5 hw⟩
    | succ m ih =>
      intro j BB BT hj hw
      refine M.blk (is := [(.iload 5, 5, 0, 0), (.aload_n 2, 2, 0, 0), (.getfield 45, 2, 1, 0)]) (pc1 := 54) (lo1 := [(0, .ref 113), (2, .ref 103), (5, .int (nI j))]) (st1 := [.int (nI sl), .int (nI j)]) (w1 := (WX pgC pgL stC (nI sl) PA PS BB BT u)) (by decide +kernel) rfl ?_
      refine M.icmp_ge (off := 39) (tgt := 93) (nx := 57) (by decide +kernel) (fun z54 => by exfalso; exact nI_ge (show j < sl by omega) (by omega) z54) (fun z54 => ?_)
      refine M.blk (is := [(.aload_n 2, 2, 0, 0), (.iload 5, 5, 0, 0)]) (pc1 := 60) (lo1 := [(0, .ref 113), (2, .ref 103), (5, .int (nI j))]) (st1 := [.int (nI j), .ref 103]) (w1 := (WX pgC pgL stC (nI sl) PA PS BB BT u)) (by decide +kernel) rfl ?_
      refine M.callVi (as := [.int (nI j)]) (st := []) (nx := 63) okX2_get lkX0_50 (x_get3 (nI j)) (by decide +kernel) (by decide) rfl (Nat.le_of_ble_eq_true rfl) rfl (by decide) ?_
      rw [sGet_nI hsl (show j < sl by omega)]
      refine M.blk (is := [(.istore 6, 6, 0, 0), (.iload 6, 6, 0, 0), (.bipush 114, 0, 0, 114)]) (pc1 := 69) (lo1 := [(6, .int (stC j)), (0, .ref 113), (2, .ref 103), (5, .int (nI j))]) (st1 := [.int 114, .int (stC j)]) (w1 := (WX pgC pgL stC (nI sl) PA PS BB BT u)) (by decide +kernel) rfl ?_
      refine M.icmp_ne (off := 12) (tgt := 81) (nx := 72) (by decide +kernel) (fun z69 => ?_) (fun z69 => ?_)
      · refine M.blk (is := [(.aload_n 0, 0, 0, 0), (.iload 6, 6, 0, 0)]) (pc1 := 84) (lo1 := [(6, .int (stC j)), (0, .ref 113), (2, .ref 103), (5, .int (nI j))]) (st1 := [.int (stC j), .ref 113]) (w1 := (WX pgC pgL stC (nI sl) PA PS BB BT u)) (by decide +kernel) rfl ?_
        refine M.callV (as := [.int (stC j)]) (st := []) (nx := 87) okX0_writeAll lkX0_58 (x_writeAll (κ := κ) (z := fun p => smZ κ p (smT PA PS x) stC j) hw.1.2.1 hw.1.2.2.1 hw.2.1 (stC j)) (by decide +kernel) (by decide) rfl (Nat.le_of_ble_eq_true rfl) rfl (by decide) ⟨by decide, by decide⟩ ?_
        intro r0 w1 hq
        obtain ⟨rfl, BC, BV, rfl, hb2, hf2⟩ := hq
        show g 0 0 87 [(6, .int (stC j)), (0, .ref 113), (2, .ref 103), (5, .int (nI j))] [] (WX pgC pgL stC (nI sl) PA PS BC BV u)
        refine M.blk (is := [(.iinc 5 1, 5, 0, 1), (.goto (-42), 48, 0, 0)]) (pc1 := 48) (lo1 := [(5, .int ((nI j) + 1)), (6, .int (stC j)), (0, .ref 113), (2, .ref 103)]) (st1 := []) (w1 := (WX pgC pgL stC (nI sl) PA PS BC BV u)) (by decide +kernel) rfl ?_
        refine M.lsub [2, 3, 0] (lo1 := [(0, .ref 113), (2, .ref 103), (5, .int ((nI j) + 1))]) rfl ?_
        rw [nI_1]
        exact ih (j + 1) BC BV (by omega) (WI_write hw z69 hb2 hf2)
      · refine M.blk (is := [(.aload_n 0, 0, 0, 0), (.iload 5, 5, 0, 0)]) (pc1 := 75) (lo1 := [(6, .int (stC j)), (0, .ref 113), (2, .ref 103), (5, .int (nI j))]) (st1 := [.int (nI j), .ref 113]) (w1 := (WX pgC pgL stC (nI sl) PA PS BB BT u)) (by decide +kernel) rfl ?_
        refine M.callVv (as := [.int (nI j)]) (st := []) (nx := 78) okX0_readAll lkX0_54 (x_readAll (P := ptsN κ) hw.1.2.2.1 (ptsN_le κ) (nI j)) (by decide +kernel) (by decide) rfl (Nat.le_of_ble_eq_true rfl) rfl (by decide) ?_
        show g 0 0 78 [(6, .int (stC j)), (0, .ref 113), (2, .ref 103), (5, .int (nI j))] [] (WX pgC pgL stC (nI sl) PA PS (va_up (va_up (va_up BB 1 (rdM (ptsN κ) (BT 11) (BB 0) (BB 1))) 2 (rdF (ptsN κ) (BT 11) (nI j) (BB 0) (BB 1) (BB 2))) 3 (rdR (ptsN κ) (BT 11) (BB 0) (BB 1) (BB 3))) (upd BT 12 (BT 12 ||| (1 <<< ((16 * BT 11 + BT 10) &&& 31)))) u)
        refine M.blk (is := [(.goto 9, 87, 0, 0), (.iinc 5 1, 5, 0, 1), (.goto (-42), 48, 0, 0)]) (pc1 := 48) (lo1 := [(5, .int ((nI j) + 1)), (6, .int (stC j)), (0, .ref 113), (2, .ref 103)]) (st1 := []) (w1 := (WX pgC pgL stC (nI sl) PA PS (va_up (va_up (va_up BB 1 (rdM (ptsN κ) (BT 11) (BB 0) (BB 1))) 2 (rdF (ptsN κ) (BT 11) (nI j) (BB 0) (BB 1) (BB 2))) 3 (rdR (ptsN κ) (BT 11) (BB 0) (BB 1) (BB 3))) (upd BT 12 (BT 12 ||| (1 <<< ((16 * BT 11 + BT 10) &&& 31)))) u)) (by decide +kernel) rfl ?_
        refine M.lsub [2, 3, 0] (lo1 := [(0, .ref 113), (2, .ref 103), (5, .int ((nI j) + 1))]) rfl ?_
        rw [nI_1]
        exact ih (j + 1) _ _ (by omega) (WI_read hw z69 rfl rfl rfl rfl rfl rfl (fun i hi => pk_un hi))
  show g 0 0 0 [(0, .ref 113), (1, .ref 105), (2, .ref 103), (3, .int x), (4, .int (kI κ))] [] (WX pgC pgL stC (nI sl) PA PS BA BS u)
  refine M.blk (is := [(.aload_n 0, 0, 0, 0), (.getfield 27, 0, 5, 0)]) (pc1 := 4) (lo1 := [(0, .ref 113), (1, .ref 105), (2, .ref 103), (3, .int x), (4, .int (kI κ))]) (st1 := [.int (BS 5)]) (w1 := (WX pgC pgL stC (nI sl) PA PS BA BS u)) (by decide +kernel) rfl ?_
  refine M.if_eq (off := 21) (tgt := 25) (nx := 7) (by decide +kernel) (fun z4 => ?_) (fun z4 => ?_)
  · refine M.blk (is := [(.aload_n 0, 0, 0, 0), (.iload_n 3, 3, 0, 0), (.putfield 31, 0, 6, 0), (.aload_n 0, 0, 0, 0), (.iload 4, 4, 0, 0), (.putfield 35, 0, 7, 0), (.aload_n 0, 0, 0, 0), (.aload_n 1, 1, 0, 0)]) (pc1 := 38) (lo1 := [(0, .ref 113), (1, .ref 105), (2, .ref 103), (3, .int x), (4, .int (kI κ))]) (st1 := [.ref 105, .ref 113]) (w1 := (WX pgC pgL stC (nI sl) PA PS BA (upd (upd BS 6 x) 7 (kI κ)) u)) (by decide +kernel) rfl ?_
    refine M.callV (as := [.ref 105]) (st := []) (nx := 41) okX0_begin lkX0_38 (x_begin (κ := κ) (BS := (upd (upd BS 6 x) 7 (kI κ))) rfl) (by decide +kernel) (by decide) rfl (Nat.le_of_ble_eq_true rfl) rfl (by decide) ⟨by decide, by decide⟩ ?_
    intro r0 w1 hq
    obtain ⟨rfl, BB, rfl, hb0, hb4, hb5⟩ := hq
    show g 0 0 41 [(0, .ref 113), (1, .ref 105), (2, .ref 103), (3, .int x), (4, .int (kI κ))] [] (WX pgC pgL stC (nI sl) PA PS BB (upd (upd (upd (upd (upd (upd (upd BS 6 x) 7 (kI κ)) 8 (nI (ptsN κ))) 9 (thF PA PS x)) 10 0) 11 0) 12 0) u)
    refine M.blk (is := [(.aload_n 0, 0, 0, 0)]) (pc1 := 42) (lo1 := [(0, .ref 113), (1, .ref 105), (2, .ref 103), (3, .int x), (4, .int (kI κ))]) (st1 := [.ref 113]) (w1 := (WX pgC pgL stC (nI sl) PA PS BB (upd (upd (upd (upd (upd (upd (upd BS 6 x) 7 (kI κ)) 8 (nI (ptsN κ))) 9 (thF PA PS x)) 10 0) 11 0) 12 0) u)) (by decide +kernel) rfl ?_
    refine M.callVv (as := []) (st := []) (nx := 45) okX0_hold lkX0_42 (x_hold (κ := κ) (pat := 0) (BS := (upd (upd (upd (upd (upd (upd (upd BS 6 x) 7 (kI κ)) 8 (nI (ptsN κ))) 9 (thF PA PS x)) 10 0) 11 0) 12 0)) rfl rfl rfl (by decide)) (by decide +kernel) (by decide) rfl (Nat.le_of_ble_eq_true rfl) rfl (by decide) ?_
    show g 0 0 45 [(0, .ref 113), (1, .ref 105), (2, .ref 103), (3, .int x), (4, .int (kI κ))] [] (WX pgC pgL stC (nI sl) PA PS (va_up BB 0 (hldF κ 0 (BB 0))) (upd (upd (upd (upd (upd (upd (upd BS 6 x) 7 (kI κ)) 8 (nI (ptsN κ))) 9 (thF PA PS x)) 10 0) 11 0) 12 0) u)
    refine M.blk (is := [(.iconst 0, 0, 0, 0), (.istore 5, 5, 0, 0)]) (pc1 := 48) (lo1 := [(5, .int 0), (0, .ref 113), (1, .ref 105), (2, .ref 103), (3, .int x), (4, .int (kI κ))]) (st1 := []) (w1 := (WX pgC pgL stC (nI sl) PA PS (va_up BB 0 (hldF κ 0 (BB 0))) (upd (upd (upd (upd (upd (upd (upd BS 6 x) 7 (kI κ)) 8 (nI (ptsN κ))) 9 (thF PA PS x)) 10 0) 11 0) 12 0) u)) (by decide +kernel) rfl ?_
    refine M.lsub [1, 3, 0] (lo1 := [(0, .ref 113), (2, .ref 103), (5, .int 0)]) rfl ?_
    exact lp sl 0 _ _ (by omega) (WI_0 (BB := BB) rfl rfl rfl rfl rfl rfl rfl hb0 (fun d hd => by unfold smT; split; exact hb4 d (by assumption); rw [show d = 4 by omega]; exact hb5) rfl (fun k hk => va_upN _ _ hk))
  · refine M.blk (is := [(.aload_n 0, 0, 0, 0), (.getfield 31, 0, 6, 0), (.iload_n 3, 3, 0, 0)]) (pc1 := 12) (lo1 := [(0, .ref 113), (1, .ref 105), (2, .ref 103), (3, .int x), (4, .int (kI κ))]) (st1 := [.int x, .int (BS 6)]) (w1 := (WX pgC pgL stC (nI sl) PA PS BA BS u)) (by decide +kernel) rfl ?_
    refine M.icmp_ne (off := 13) (tgt := 25) (nx := 15) (by decide +kernel) (fun z12 => ?_) (fun z12 => ?_)
    · refine M.blk (is := [(.aload_n 0, 0, 0, 0), (.iload_n 3, 3, 0, 0), (.putfield 31, 0, 6, 0), (.aload_n 0, 0, 0, 0), (.iload 4, 4, 0, 0), (.putfield 35, 0, 7, 0), (.aload_n 0, 0, 0, 0), (.aload_n 1, 1, 0, 0)]) (pc1 := 38) (lo1 := [(0, .ref 113), (1, .ref 105), (2, .ref 103), (3, .int x), (4, .int (kI κ))]) (st1 := [.ref 105, .ref 113]) (w1 := (WX pgC pgL stC (nI sl) PA PS BA (upd (upd BS 6 x) 7 (kI κ)) u)) (by decide +kernel) rfl ?_
      refine M.callV (as := [.ref 105]) (st := []) (nx := 41) okX0_begin lkX0_38 (x_begin (κ := κ) (BS := (upd (upd BS 6 x) 7 (kI κ))) rfl) (by decide +kernel) (by decide) rfl (Nat.le_of_ble_eq_true rfl) rfl (by decide) ⟨by decide, by decide⟩ ?_
      intro r0 w1 hq
      obtain ⟨rfl, BB, rfl, hb0, hb4, hb5⟩ := hq
      show g 0 0 41 [(0, .ref 113), (1, .ref 105), (2, .ref 103), (3, .int x), (4, .int (kI κ))] [] (WX pgC pgL stC (nI sl) PA PS BB (upd (upd (upd (upd (upd (upd (upd BS 6 x) 7 (kI κ)) 8 (nI (ptsN κ))) 9 (thF PA PS x)) 10 0) 11 0) 12 0) u)
      refine M.blk (is := [(.aload_n 0, 0, 0, 0)]) (pc1 := 42) (lo1 := [(0, .ref 113), (1, .ref 105), (2, .ref 103), (3, .int x), (4, .int (kI κ))]) (st1 := [.ref 113]) (w1 := (WX pgC pgL stC (nI sl) PA PS BB (upd (upd (upd (upd (upd (upd (upd BS 6 x) 7 (kI κ)) 8 (nI (ptsN κ))) 9 (thF PA PS x)) 10 0) 11 0) 12 0) u)) (by decide +kernel) rfl ?_
      refine M.callVv (as := []) (st := []) (nx := 45) okX0_hold lkX0_42 (x_hold (κ := κ) (pat := 0) (BS := (upd (upd (upd (upd (upd (upd (upd BS 6 x) 7 (kI κ)) 8 (nI (ptsN κ))) 9 (thF PA PS x)) 10 0) 11 0) 12 0)) rfl rfl rfl (by decide)) (by decide +kernel) (by decide) rfl (Nat.le_of_ble_eq_true rfl) rfl (by decide) ?_
      show g 0 0 45 [(0, .ref 113), (1, .ref 105), (2, .ref 103), (3, .int x), (4, .int (kI κ))] [] (WX pgC pgL stC (nI sl) PA PS (va_up BB 0 (hldF κ 0 (BB 0))) (upd (upd (upd (upd (upd (upd (upd BS 6 x) 7 (kI κ)) 8 (nI (ptsN κ))) 9 (thF PA PS x)) 10 0) 11 0) 12 0) u)
      refine M.blk (is := [(.iconst 0, 0, 0, 0), (.istore 5, 5, 0, 0)]) (pc1 := 48) (lo1 := [(5, .int 0), (0, .ref 113), (1, .ref 105), (2, .ref 103), (3, .int x), (4, .int (kI κ))]) (st1 := []) (w1 := (WX pgC pgL stC (nI sl) PA PS (va_up BB 0 (hldF κ 0 (BB 0))) (upd (upd (upd (upd (upd (upd (upd BS 6 x) 7 (kI κ)) 8 (nI (ptsN κ))) 9 (thF PA PS x)) 10 0) 11 0) 12 0) u)) (by decide +kernel) rfl ?_
      refine M.lsub [1, 3, 0] (lo1 := [(0, .ref 113), (2, .ref 103), (5, .int 0)]) rfl ?_
      exact lp sl 0 _ _ (by omega) (WI_0 (BB := BB) rfl rfl rfl rfl rfl rfl rfl hb0 (fun d hd => by unfold smT; split; exact hb4 d (by assumption); rw [show d = 4 by omega]; exact hb5) rfl (fun k hk => va_upN _ _ hk))
    · refine M.blk (is := [(.aload_n 0, 0, 0, 0), (.getfield 35, 0, 7, 0), (.iload 4, 4, 0, 0)]) (pc1 := 21) (lo1 := [(0, .ref 113), (1, .ref 105), (2, .ref 103), (3, .int x), (4, .int (kI κ))]) (st1 := [.int (kI κ), .int (BS 7)]) (w1 := (WX pgC pgL stC (nI sl) PA PS BA BS u)) (by decide +kernel) rfl ?_
      refine M.icmp_ne (off := 4) (tgt := 25) (nx := 24) (by decide +kernel) (fun z21 => ?_) (fun z21 => ?_)
      · refine M.blk (is := [(.aload_n 0, 0, 0, 0), (.iload_n 3, 3, 0, 0), (.putfield 31, 0, 6, 0), (.aload_n 0, 0, 0, 0), (.iload 4, 4, 0, 0), (.putfield 35, 0, 7, 0), (.aload_n 0, 0, 0, 0), (.aload_n 1, 1, 0, 0)]) (pc1 := 38) (lo1 := [(0, .ref 113), (1, .ref 105), (2, .ref 103), (3, .int x), (4, .int (kI κ))]) (st1 := [.ref 105, .ref 113]) (w1 := (WX pgC pgL stC (nI sl) PA PS BA (upd (upd BS 6 x) 7 (kI κ)) u)) (by decide +kernel) rfl ?_
        refine M.callV (as := [.ref 105]) (st := []) (nx := 41) okX0_begin lkX0_38 (x_begin (κ := κ) (BS := (upd (upd BS 6 x) 7 (kI κ))) rfl) (by decide +kernel) (by decide) rfl (Nat.le_of_ble_eq_true rfl) rfl (by decide) ⟨by decide, by decide⟩ ?_
        intro r0 w1 hq
        obtain ⟨rfl, BB, rfl, hb0, hb4, hb5⟩ := hq
        show g 0 0 41 [(0, .ref 113), (1, .ref 105), (2, .ref 103), (3, .int x), (4, .int (kI κ))] [] (WX pgC pgL stC (nI sl) PA PS BB (upd (upd (upd (upd (upd (upd (upd BS 6 x) 7 (kI κ)) 8 (nI (ptsN κ))) 9 (thF PA PS x)) 10 0) 11 0) 12 0) u)
        refine M.blk (is := [(.aload_n 0, 0, 0, 0)]) (pc1 := 42) (lo1 := [(0, .ref 113), (1, .ref 105), (2, .ref 103), (3, .int x), (4, .int (kI κ))]) (st1 := [.ref 113]) (w1 := (WX pgC pgL stC (nI sl) PA PS BB (upd (upd (upd (upd (upd (upd (upd BS 6 x) 7 (kI κ)) 8 (nI (ptsN κ))) 9 (thF PA PS x)) 10 0) 11 0) 12 0) u)) (by decide +kernel) rfl ?_
        refine M.callVv (as := []) (st := []) (nx := 45) okX0_hold lkX0_42 (x_hold (κ := κ) (pat := 0) (BS := (upd (upd (upd (upd (upd (upd (upd BS 6 x) 7 (kI κ)) 8 (nI (ptsN κ))) 9 (thF PA PS x)) 10 0) 11 0) 12 0)) rfl rfl rfl (by decide)) (by decide +kernel) (by decide) rfl (Nat.le_of_ble_eq_true rfl) rfl (by decide) ?_
        show g 0 0 45 [(0, .ref 113), (1, .ref 105), (2, .ref 103), (3, .int x), (4, .int (kI κ))] [] (WX pgC pgL stC (nI sl) PA PS (va_up BB 0 (hldF κ 0 (BB 0))) (upd (upd (upd (upd (upd (upd (upd BS 6 x) 7 (kI κ)) 8 (nI (ptsN κ))) 9 (thF PA PS x)) 10 0) 11 0) 12 0) u)
        refine M.blk (is := [(.iconst 0, 0, 0, 0), (.istore 5, 5, 0, 0)]) (pc1 := 48) (lo1 := [(5, .int 0), (0, .ref 113), (1, .ref 105), (2, .ref 103), (3, .int x), (4, .int (kI κ))]) (st1 := []) (w1 := (WX pgC pgL stC (nI sl) PA PS (va_up BB 0 (hldF κ 0 (BB 0))) (upd (upd (upd (upd (upd (upd (upd BS 6 x) 7 (kI κ)) 8 (nI (ptsN κ))) 9 (thF PA PS x)) 10 0) 11 0) 12 0) u)) (by decide +kernel) rfl ?_
        refine M.lsub [1, 3, 0] (lo1 := [(0, .ref 113), (2, .ref 103), (5, .int 0)]) rfl ?_
        exact lp sl 0 _ _ (by omega) (WI_0 (BB := BB) rfl rfl rfl rfl rfl rfl rfl hb0 (fun d hd => by unfold smT; split; exact hb4 d (by assumption); rw [show d = 4 by omega]; exact hb5) rfl (fun k hk => va_upN _ _ hk))
      · exact M.retv (nx := 25) (by decide +kernel) ⟨rfl, BA, BS, rfl, work_same hκ hbn z4 z12 z21⟩
end WORK
end
section
section FOUND
variable {pgC : Nat → Int32} {pgL : Int32} {stC : Nat → Int32} {stL : Int32} {PA : Nat → Nat → Int32} {PS : Nat → Int32} {BA : Nat → Nat → Int32} {BS : Nat → Int32} {u : List Cl}
def wdB (q k : Nat) : Nat := q % 2 ^ k + (q / 2 ^ k) * 2 ^ (k + 1)
def isPt (κ p th : Nat) : Bool := decide (p < ptsN κ) && (if κ = 2 then decide (th / 2 ^ (p / 32) % 2 = 1) && decide (wdB (p / 2 % 8) (p / 32) &&& th = wdB (p / 2 % 8) (p / 32)) else decide (p / 2 &&& th = p / 2))
theorem ip_a : ∀ (p : Fin 32) (th : Fin 16), ((nI p.val >>> ((1 : Int32) &&& 31)) &&& (nI th.val ^^^ (-1)) = 0) ↔ (p.val / 2 &&& th.val = p.val / 2) := by decide +kernel
theorem ip_b : ∀ (p : Fin 128) (th : Fin 16), ((nI th.val >>> ((nI p.val >>> ((5 : Int32) &&& 31)) &&& 31)) &&& 1 = 1) ↔ (th.val / 2 ^ (p.val / 32) % 2 = 1) := by decide +kernel
theorem ip_c : ∀ (p : Fin 128) (th : Fin 16), (((((nI p.val >>> ((1 : Int32) &&& 31)) &&& 7) &&& (((1 : Int32) <<< ((nI p.val >>> ((5 : Int32) &&& 31)) &&& 31)) - 1)) ||| ((((nI p.val >>> ((1 : Int32) &&& 31)) &&& 7) &&& ((((1 : Int32) <<< ((nI p.val >>> ((5 : Int32) &&& 31)) &&& 31)) - 1) ^^^ (-1))) <<< ((1 : Int32) &&& 31))) &&& (nI th.val ^^^ (-1)) = 0) ↔ (wdB (p.val / 2 % 8) (p.val / 32) &&& th.val = wdB (p.val / 2 % 8) (p.val / 32)) := by decide +kernel
theorem parts_nI {κ : Nat} (h : κ ≤ 3) : partsI (nI κ) = nI (ptsN κ) := by
  rcases (show κ = 0 ∨ κ = 1 ∨ κ = 2 ∨ κ = 3 by omega) with rfl | rfl | rfl | rfl <;> rfl
theorem isPt_no {κ p th : Nat} (h : ¬ p < ptsN κ) : isPt κ p th = false := by unfold isPt; rw [decide_eq_false h]; rfl
theorem isP_n {κ p th : Nat} (hlt : p < ptsN κ) (ht : th < 16) (h2 : ¬ κ = 2) (h : ¬ (nI p >>> ((1 : Int32) &&& 31)) &&& (nI th ^^^ (-1)) = 0) : some (Value.int 0) = some (.int (b2i (isPt κ p th))) := by
  have hp : p < 32 := by unfold ptsN at hlt; split at hlt <;> (try split at hlt) <;> (try split at hlt) <;> omega
  unfold isPt
  rw [decide_eq_true hlt, if_neg h2, decide_eq_false (fun e => h ((ip_a ⟨p, hp⟩ ⟨th, ht⟩).mpr e))]
  rfl
theorem isP_y {κ p th : Nat} (hlt : p < ptsN κ) (ht : th < 16) (h2 : ¬ κ = 2) (hk : κ ≤ 3) (h : (nI p >>> ((1 : Int32) &&& 31)) &&& (nI th ^^^ (-1)) = 0) : some (Value.int 1) = some (.int (b2i (isPt κ p th))) := by
  have hp : p < 32 := by unfold ptsN at hlt; split at hlt <;> (try split at hlt) <;> (try split at hlt) <;> omega
  unfold isPt
  rw [decide_eq_true hlt, if_neg h2, decide_eq_true ((ip_a ⟨p, hp⟩ ⟨th, ht⟩).mp h)]
  rfl
theorem isP_2a {κ p th : Nat} (hlt : p < ptsN κ) (h2 : κ = 2) (ht : th < 16) (h : ¬ (nI th >>> ((nI p >>> ((5 : Int32) &&& 31)) &&& 31)) &&& 1 = 1) : some (Value.int 0) = some (.int (b2i (isPt κ p th))) := by
  subst h2
  have hp : p < 128 := hlt
  unfold isPt
  rw [decide_eq_true hlt, if_pos rfl, decide_eq_false (fun e => h ((ip_b ⟨p, hp⟩ ⟨th, ht⟩).mpr e))]
  rfl
theorem isP_2b {κ p th : Nat} (hlt : p < ptsN κ) (h2 : κ = 2) (ht : th < 16) (h : (nI th >>> ((nI p >>> ((5 : Int32) &&& 31)) &&& 31)) &&& 1 = 1) (h3 : ¬ ((((nI p >>> ((1 : Int32) &&& 31)) &&& 7) &&& (((1 : Int32) <<< ((nI p >>> ((5 : Int32) &&& 31)) &&& 31)) - 1)) ||| ((((nI p >>> ((1 : Int32) &&& 31)) &&& 7) &&& ((((1 : Int32) <<< ((nI p >>> ((5 : Int32) &&& 31)) &&& 31)) - 1) ^^^ (-1))) <<< ((1 : Int32) &&& 31))) &&& (nI th ^^^ (-1)) = 0) : some (Value.int 0) = some (.int (b2i (isPt κ p th))) := by
  subst h2
  have hp : p < 128 := hlt
  unfold isPt
  rw [decide_eq_true hlt, if_pos rfl, decide_eq_true ((ip_b ⟨p, hp⟩ ⟨th, ht⟩).mp h), decide_eq_false (fun e => h3 ((ip_c ⟨p, hp⟩ ⟨th, ht⟩).mpr e))]
  rfl
theorem isP_2c {κ p th : Nat} (hlt : p < ptsN κ) (h2 : κ = 2) (ht : th < 16) (h : (nI th >>> ((nI p >>> ((5 : Int32) &&& 31)) &&& 31)) &&& 1 = 1) (h3 : ((((nI p >>> ((1 : Int32) &&& 31)) &&& 7) &&& (((1 : Int32) <<< ((nI p >>> ((5 : Int32) &&& 31)) &&& 31)) - 1)) ||| ((((nI p >>> ((1 : Int32) &&& 31)) &&& 7) &&& ((((1 : Int32) <<< ((nI p >>> ((5 : Int32) &&& 31)) &&& 31)) - 1) ^^^ (-1))) <<< ((1 : Int32) &&& 31))) &&& (nI th ^^^ (-1)) = 0) : some (Value.int 1) = some (.int (b2i (isPt κ p th))) := by
  subst h2
  have hp : p < 128 := hlt
  unfold isPt
  rw [decide_eq_true hlt, if_pos rfl, decide_eq_true ((ip_b ⟨p, hp⟩ ⟨th, ht⟩).mp h), decide_eq_true ((ip_c ⟨p, hp⟩ ⟨th, ht⟩).mp h3)]
  rfl
theorem s_isPart (w0 : Wd) {κ p th : Nat} (hk : κ ≤ 3) (hp : p < 300) (ht : th < 16) : CC 1 mX3_isPart 0 0 [.int (nI κ), .int (nI p), .int (nI th)] w0 (Rt (b2i (isPt κ p th)) w0) := by
  have hpl := ptsN_le κ
  refine CC.of okX3_isPart.1 (Nat.le_of_ble_eq_true rfl) (fun g M => ?_)
  show g 0 0 0 [(0, .int (nI κ)), (1, .int (nI p)), (2, .int (nI th))] [] w0
  refine M.blk (is := [(.iload_n 1, 1, 0, 0)]) (pc1 := 1) (lo1 := [(0, .int (nI κ)), (1, .int (nI p)), (2, .int (nI th))]) (st1 := [.int (nI p)]) (w1 := w0) (by decide +kernel) rfl ?_
  refine M.if_lt (off := 11) (tgt := 12) (nx := 4) (by decide +kernel) (fun z1 => by exfalso; exact nI_pos (by omega) z1) (fun z1 => ?_)
  refine M.blk (is := [(.iload_n 1, 1, 0, 0), (.iload_n 0, 0, 0, 0)]) (pc1 := 6) (lo1 := [(0, .int (nI κ)), (1, .int (nI p)), (2, .int (nI th))]) (st1 := [.int (nI κ), .int (nI p)]) (w1 := w0) (by decide +kernel) rfl ?_
  refine M.callSi (as := [.int (nI κ)]) (st := [.int (nI p)]) (nx := 9) okX3_partsOf lkX3_194 (s_partsOf w0 (nI κ)) (by decide +kernel) (by decide) rfl (Nat.le_of_ble_eq_true rfl) ?_
  rw [parts_nI hk]
  refine M.icmp_lt (off := 5) (tgt := 14) (nx := 12) (by decide +kernel) (fun z9 => ?_) (fun z9 => ?_)
  · have hlt : p < ptsN κ := (nI_ltI (by omega) (by omega)).mp z9
    refine M.blk (is := [(.iload_n 0, 0, 0, 0), (.iconst 2, 0, 0, 2)]) (pc1 := 16) (lo1 := [(0, .int (nI κ)), (1, .int (nI p)), (2, .int (nI th))]) (st1 := [.int 2, .int (nI κ)]) (w1 := w0) (by decide +kernel) rfl ?_
    refine M.icmp_eq (off := 19) (tgt := 35) (nx := 19) (by decide +kernel) (fun z16 => ?_) (fun z16 => ?_)
    · have hk2 : κ = 2 := nI_inj (by omega) (by decide) z16
      refine M.blk (is := [(.iload_n 1, 1, 0, 0), (.iconst 5, 0, 0, 5), (.ishr, 0, 0, 0), (.istore_n 3, 3, 0, 0), (.iload_n 1, 1, 0, 0), (.iconst 1, 0, 0, 1), (.ishr, 0, 0, 0), (.bipush 7, 0, 0, 7), (.iand, 0, 0, 0), (.istore 4, 4, 0, 0), (.iconst 1, 0, 0, 1), (.iload_n 3, 3, 0, 0), (.ishl, 0, 0, 0), (.iconst 1, 0, 0, 1), (.isub, 0, 0, 0), (.istore 5, 5, 0, 0), (.iload 4, 4, 0, 0), (.iload 5, 5, 0, 0), (.iand, 0, 0, 0), (.iload 4, 4, 0, 0), (.iload 5, 5, 0, 0), (.iconst (-1), 0, 0, (-1)), (.ixor, 0, 0, 0), (.iand, 0, 0, 0), (.iconst 1, 0, 0, 1), (.ishl, 0, 0, 0), (.ior, 0, 0, 0), (.istore 6, 6, 0, 0), (.iload_n 2, 2, 0, 0), (.iload_n 3, 3, 0, 0), (.ishr, 0, 0, 0), (.iconst 1, 0, 0, 1), (.iand, 0, 0, 0), (.iconst 1, 0, 0, 1)]) (pc1 := 77) (lo1 := [(6, .int (((((nI p) >>> ((1 : Int32) &&& 31)) &&& 7) &&& (((1 : Int32) <<< (((nI p) >>> ((5 : Int32) &&& 31)) &&& 31)) - 1)) ||| (((((nI p) >>> ((1 : Int32) &&& 31)) &&& 7) &&& ((((1 : Int32) <<< (((nI p) >>> ((5 : Int32) &&& 31)) &&& 31)) - 1) ^^^ (-1))) <<< ((1 : Int32) &&& 31)))), (5, .int (((1 : Int32) <<< (((nI p) >>> ((5 : Int32) &&& 31)) &&& 31)) - 1)), (4, .int (((nI p) >>> ((1 : Int32) &&& 31)) &&& 7)), (3, .int ((nI p) >>> ((5 : Int32) &&& 31))), (0, .int (nI κ)), (1, .int (nI p)), (2, .int (nI th))]) (st1 := [.int 1, .int (((nI th) >>> (((nI p) >>> ((5 : Int32) &&& 31)) &&& 31)) &&& 1)]) (w1 := w0) (by decide +kernel) rfl ?_
      refine M.icmp_ne (off := 16) (tgt := 93) (nx := 80) (by decide +kernel) (fun z77 => ?_) (fun z77 => ?_)
      · refine M.blk (is := [(.iconst 0, 0, 0, 0)]) (pc1 := 94) (lo1 := [(6, .int (((((nI p) >>> ((1 : Int32) &&& 31)) &&& 7) &&& (((1 : Int32) <<< (((nI p) >>> ((5 : Int32) &&& 31)) &&& 31)) - 1)) ||| (((((nI p) >>> ((1 : Int32) &&& 31)) &&& 7) &&& ((((1 : Int32) <<< (((nI p) >>> ((5 : Int32) &&& 31)) &&& 31)) - 1) ^^^ (-1))) <<< ((1 : Int32) &&& 31)))), (5, .int (((1 : Int32) <<< (((nI p) >>> ((5 : Int32) &&& 31)) &&& 31)) - 1)), (4, .int (((nI p) >>> ((1 : Int32) &&& 31)) &&& 7)), (3, .int ((nI p) >>> ((5 : Int32) &&& 31))), (0, .int (nI κ)), (1, .int (nI p)), (2, .int (nI th))]) (st1 := [.int 0]) (w1 := w0) (by decide +kernel) rfl ?_
        exact M.retz (nx := 95) (by decide +kernel) (by decide) ⟨isP_2a hlt hk2 ht z77, rfl⟩
      · refine M.blk (is := [(.iload 6, 6, 0, 0), (.iload_n 2, 2, 0, 0), (.iconst (-1), 0, 0, (-1)), (.ixor, 0, 0, 0), (.iand, 0, 0, 0)]) (pc1 := 86) (lo1 := [(6, .int (((((nI p) >>> ((1 : Int32) &&& 31)) &&& 7) &&& (((1 : Int32) <<< (((nI p) >>> ((5 : Int32) &&& 31)) &&& 31)) - 1)) ||| (((((nI p) >>> ((1 : Int32) &&& 31)) &&& 7) &&& ((((1 : Int32) <<< (((nI p) >>> ((5 : Int32) &&& 31)) &&& 31)) - 1) ^^^ (-1))) <<< ((1 : Int32) &&& 31)))), (5, .int (((1 : Int32) <<< (((nI p) >>> ((5 : Int32) &&& 31)) &&& 31)) - 1)), (4, .int (((nI p) >>> ((1 : Int32) &&& 31)) &&& 7)), (3, .int ((nI p) >>> ((5 : Int32) &&& 31))), (0, .int (nI κ)), (1, .int (nI p)), (2, .int (nI th))]) (st1 := [.int ((((((nI p) >>> ((1 : Int32) &&& 31)) &&& 7) &&& (((1 : Int32) <<< (((nI p) >>> ((5 : Int32) &&& 31)) &&& 31)) - 1)) ||| (((((nI p) >>> ((1 : Int32) &&& 31)) &&& 7) &&& ((((1 : Int32) <<< (((nI p) >>> ((5 : Int32) &&& 31)) &&& 31)) - 1) ^^^ (-1))) <<< ((1 : Int32) &&& 31))) &&& ((nI th) ^^^ (-1)))]) (w1 := w0) (by decide +kernel) rfl ?_
        refine M.if_ne (off := 7) (tgt := 93) (nx := 89) (by decide +kernel) (fun z86 => ?_) (fun z86 => ?_)
        · refine M.blk (is := [(.iconst 0, 0, 0, 0)]) (pc1 := 94) (lo1 := [(6, .int (((((nI p) >>> ((1 : Int32) &&& 31)) &&& 7) &&& (((1 : Int32) <<< (((nI p) >>> ((5 : Int32) &&& 31)) &&& 31)) - 1)) ||| (((((nI p) >>> ((1 : Int32) &&& 31)) &&& 7) &&& ((((1 : Int32) <<< (((nI p) >>> ((5 : Int32) &&& 31)) &&& 31)) - 1) ^^^ (-1))) <<< ((1 : Int32) &&& 31)))), (5, .int (((1 : Int32) <<< (((nI p) >>> ((5 : Int32) &&& 31)) &&& 31)) - 1)), (4, .int (((nI p) >>> ((1 : Int32) &&& 31)) &&& 7)), (3, .int ((nI p) >>> ((5 : Int32) &&& 31))), (0, .int (nI κ)), (1, .int (nI p)), (2, .int (nI th))]) (st1 := [.int 0]) (w1 := w0) (by decide +kernel) rfl ?_
          exact M.retz (nx := 95) (by decide +kernel) (by decide) ⟨isP_2b hlt hk2 ht z77 z86, rfl⟩
        · refine M.blk (is := [(.iconst 1, 0, 0, 1), (.goto 4, 94, 0, 0)]) (pc1 := 94) (lo1 := [(6, .int (((((nI p) >>> ((1 : Int32) &&& 31)) &&& 7) &&& (((1 : Int32) <<< (((nI p) >>> ((5 : Int32) &&& 31)) &&& 31)) - 1)) ||| (((((nI p) >>> ((1 : Int32) &&& 31)) &&& 7) &&& ((((1 : Int32) <<< (((nI p) >>> ((5 : Int32) &&& 31)) &&& 31)) - 1) ^^^ (-1))) <<< ((1 : Int32) &&& 31)))), (5, .int (((1 : Int32) <<< (((nI p) >>> ((5 : Int32) &&& 31)) &&& 31)) - 1)), (4, .int (((nI p) >>> ((1 : Int32) &&& 31)) &&& 7)), (3, .int ((nI p) >>> ((5 : Int32) &&& 31))), (0, .int (nI κ)), (1, .int (nI p)), (2, .int (nI th))]) (st1 := [.int 1]) (w1 := w0) (by decide +kernel) rfl ?_
          exact M.retz (nx := 95) (by decide +kernel) (by decide) ⟨isP_2c hlt hk2 ht z77 z86, rfl⟩
    · refine M.blk (is := [(.iload_n 1, 1, 0, 0), (.iconst 1, 0, 0, 1), (.ishr, 0, 0, 0), (.iload_n 2, 2, 0, 0), (.iconst (-1), 0, 0, (-1)), (.ixor, 0, 0, 0), (.iand, 0, 0, 0)]) (pc1 := 26) (lo1 := [(0, .int (nI κ)), (1, .int (nI p)), (2, .int (nI th))]) (st1 := [.int (((nI p) >>> ((1 : Int32) &&& 31)) &&& ((nI th) ^^^ (-1)))]) (w1 := w0) (by decide +kernel) rfl ?_
      refine M.if_ne (off := 7) (tgt := 33) (nx := 29) (by decide +kernel) (fun z26 => ?_) (fun z26 => ?_)
      · refine M.blk (is := [(.iconst 0, 0, 0, 0)]) (pc1 := 34) (lo1 := [(0, .int (nI κ)), (1, .int (nI p)), (2, .int (nI th))]) (st1 := [.int 0]) (w1 := w0) (by decide +kernel) rfl ?_
        exact M.retz (nx := 35) (by decide +kernel) (by decide) ⟨isP_n hlt ht (fun e => z16 (by rw [e]; rfl)) z26, rfl⟩
      · refine M.blk (is := [(.iconst 1, 0, 0, 1), (.goto 4, 34, 0, 0)]) (pc1 := 34) (lo1 := [(0, .int (nI κ)), (1, .int (nI p)), (2, .int (nI th))]) (st1 := [.int 1]) (w1 := w0) (by decide +kernel) rfl ?_
        exact M.retz (nx := 35) (by decide +kernel) (by decide) ⟨isP_y hlt ht (fun e => z16 (by rw [e]; rfl)) hk z26, rfl⟩
  · refine M.blk (is := [(.iconst 0, 0, 0, 0)]) (pc1 := 13) (lo1 := [(0, .int (nI κ)), (1, .int (nI p)), (2, .int (nI th))]) (st1 := [.int 0]) (w1 := w0) (by decide +kernel) rfl ?_
    exact M.retz (nx := 14) (by decide +kernel) (by decide) ⟨by rw [isPt_no (fun h => z9 (nI_lt h (by omega)))]; rfl, rfl⟩
theorem x_missesOf {p n : Nat} (h8 : BS 8 = nI n) (hn : n ≤ 128) (hp : p < n) : CC 0 mX0_missesOf 0 0 [.ref 113, .int (nI p)] (WX pgC pgL stC stL PA PS BA BS u) (Rt (BA 1 p) (WX pgC pgL stC stL PA PS BA BS u)) := by
  refine CC.of okX0_missesOf.1 (Nat.le_of_ble_eq_true rfl) (fun g M => ?_)
  show g 0 0 0 [(0, .ref 113), (1, .int (nI p))] [] (WX pgC pgL stC stL PA PS BA BS u)
  refine M.blk (is := [(.iload_n 1, 1, 0, 0)]) (pc1 := 1) (lo1 := [(0, .ref 113), (1, .int (nI p))]) (st1 := [.int (nI p)]) (w1 := (WX pgC pgL stC stL PA PS BA BS u)) (by decide +kernel) rfl ?_
  refine M.if_lt (off := 20) (tgt := 21) (nx := 4) (by decide +kernel) (fun z1 => by exfalso; exact nI_pos (by omega) z1) (fun z1 => ?_)
  refine M.blk (is := [(.iload_n 1, 1, 0, 0), (.aload_n 0, 0, 0, 0), (.getfield 70, 0, 8, 0)]) (pc1 := 9) (lo1 := [(0, .ref 113), (1, .int (nI p))]) (st1 := [.int (BS 8), .int (nI p)]) (w1 := (WX pgC pgL stC stL PA PS BA BS u)) (by decide +kernel) rfl ?_
  refine M.icmp_ge (off := 12) (tgt := 21) (nx := 12) (by decide +kernel) (fun z9 => by exfalso; rw [h8] at z9; exact nI_ge hp (by omega) z9) (fun z9 => ?_)
  refine M.blk (is := [(.aload_n 0, 0, 0, 0), (.getfield 15, 0, 1, 0), (.iload_n 1, 1, 0, 0)]) (pc1 := 17) (lo1 := [(0, .ref 113), (1, .int (nI p))]) (st1 := [.int (nI p), .ref 115]) (w1 := (WX pgC pgL stC stL PA PS BA BS u)) (by decide +kernel) rfl ?_
  refine M.ald (n := 128) (f := BA 1) (j := p) (nx := 18) (by decide +kernel) rfl rfl (by omega) (by decide) ?_
  refine M.blk (is := [(.goto 4, 22, 0, 0)]) (pc1 := 22) (lo1 := [(0, .ref 113), (1, .int (nI p))]) (st1 := [.int ((BA 1) p)]) (w1 := (WX pgC pgL stC stL PA PS BA BS u)) (by decide +kernel) rfl ?_
  exact M.reti (nx := 23) (by decide +kernel) ⟨rfl, rfl⟩
theorem x_firstStepOf {p n : Nat} (h8 : BS 8 = nI n) (hn : n ≤ 128) (hp : p < n) : CC 0 mX0_firstStepOf 0 0 [.ref 113, .int (nI p)] (WX pgC pgL stC stL PA PS BA BS u) (Rt (BA 2 p) (WX pgC pgL stC stL PA PS BA BS u)) := by
  refine CC.of okX0_firstStepOf.1 (Nat.le_of_ble_eq_true rfl) (fun g M => ?_)
  show g 0 0 0 [(0, .ref 113), (1, .int (nI p))] [] (WX pgC pgL stC stL PA PS BA BS u)
  refine M.blk (is := [(.iload_n 1, 1, 0, 0)]) (pc1 := 1) (lo1 := [(0, .ref 113), (1, .int (nI p))]) (st1 := [.int (nI p)]) (w1 := (WX pgC pgL stC stL PA PS BA BS u)) (by decide +kernel) rfl ?_
  refine M.if_lt (off := 20) (tgt := 21) (nx := 4) (by decide +kernel) (fun z1 => by exfalso; exact nI_pos (by omega) z1) (fun z1 => ?_)
  refine M.blk (is := [(.iload_n 1, 1, 0, 0), (.aload_n 0, 0, 0, 0), (.getfield 70, 0, 8, 0)]) (pc1 := 9) (lo1 := [(0, .ref 113), (1, .int (nI p))]) (st1 := [.int (BS 8), .int (nI p)]) (w1 := (WX pgC pgL stC stL PA PS BA BS u)) (by decide +kernel) rfl ?_
  refine M.icmp_ge (off := 12) (tgt := 21) (nx := 12) (by decide +kernel) (fun z9 => by exfalso; rw [h8] at z9; exact nI_ge hp (by omega) z9) (fun z9 => ?_)
  refine M.blk (is := [(.aload_n 0, 0, 0, 0), (.getfield 18, 0, 2, 0), (.iload_n 1, 1, 0, 0)]) (pc1 := 17) (lo1 := [(0, .ref 113), (1, .int (nI p))]) (st1 := [.int (nI p), .ref 116]) (w1 := (WX pgC pgL stC stL PA PS BA BS u)) (by decide +kernel) rfl ?_
  refine M.ald (n := 128) (f := BA 2) (j := p) (nx := 18) (by decide +kernel) rfl rfl (by omega) (by decide) ?_
  refine M.blk (is := [(.goto 4, 22, 0, 0)]) (pc1 := 22) (lo1 := [(0, .ref 113), (1, .int (nI p))]) (st1 := [.int ((BA 2) p)]) (w1 := (WX pgC pgL stC stL PA PS BA BS u)) (by decide +kernel) rfl ?_
  exact M.reti (nx := 23) (by decide +kernel) ⟨rfl, rfl⟩
theorem x_firstReadOf {p n : Nat} (h8 : BS 8 = nI n) (hn : n ≤ 128) (hp : p < n) : CC 0 mX0_firstReadOf 0 0 [.ref 113, .int (nI p)] (WX pgC pgL stC stL PA PS BA BS u) (Rt (BA 3 p) (WX pgC pgL stC stL PA PS BA BS u)) := by
  refine CC.of okX0_firstReadOf.1 (Nat.le_of_ble_eq_true rfl) (fun g M => ?_)
  show g 0 0 0 [(0, .ref 113), (1, .int (nI p))] [] (WX pgC pgL stC stL PA PS BA BS u)
  refine M.blk (is := [(.iload_n 1, 1, 0, 0)]) (pc1 := 1) (lo1 := [(0, .ref 113), (1, .int (nI p))]) (st1 := [.int (nI p)]) (w1 := (WX pgC pgL stC stL PA PS BA BS u)) (by decide +kernel) rfl ?_
  refine M.if_lt (off := 20) (tgt := 21) (nx := 4) (by decide +kernel) (fun z1 => by exfalso; exact nI_pos (by omega) z1) (fun z1 => ?_)
  refine M.blk (is := [(.iload_n 1, 1, 0, 0), (.aload_n 0, 0, 0, 0), (.getfield 70, 0, 8, 0)]) (pc1 := 9) (lo1 := [(0, .ref 113), (1, .int (nI p))]) (st1 := [.int (BS 8), .int (nI p)]) (w1 := (WX pgC pgL stC stL PA PS BA BS u)) (by decide +kernel) rfl ?_
  refine M.icmp_ge (off := 12) (tgt := 21) (nx := 12) (by decide +kernel) (fun z9 => by exfalso; rw [h8] at z9; exact nI_ge hp (by omega) z9) (fun z9 => ?_)
  refine M.blk (is := [(.aload_n 0, 0, 0, 0), (.getfield 21, 0, 3, 0), (.iload_n 1, 1, 0, 0)]) (pc1 := 17) (lo1 := [(0, .ref 113), (1, .int (nI p))]) (st1 := [.int (nI p), .ref 117]) (w1 := (WX pgC pgL stC stL PA PS BA BS u)) (by decide +kernel) rfl ?_
  refine M.ald (n := 128) (f := BA 3) (j := p) (nx := 18) (by decide +kernel) rfl rfl (by omega) (by decide) ?_
  refine M.blk (is := [(.goto 4, 22, 0, 0)]) (pc1 := 22) (lo1 := [(0, .ref 113), (1, .int (nI p))]) (st1 := [.int ((BA 3) p)]) (w1 := (WX pgC pgL stC stL PA PS BA BS u)) (by decide +kernel) rfl ?_
  exact M.reti (nx := 23) (by decide +kernel) ⟨rfl, rfl⟩
theorem x_lastBitOf {p n : Nat} (h8 : BS 8 = nI n) (hn : n ≤ 128) (hp : p < n) : CC 0 mX0_lastBitOf 0 0 [.ref 113, .int (nI p)] (WX pgC pgL stC stL PA PS BA BS u) (Rt (BA 0 p) (WX pgC pgL stC stL PA PS BA BS u)) := by
  refine CC.of okX0_lastBitOf.1 (Nat.le_of_ble_eq_true rfl) (fun g M => ?_)
  show g 0 0 0 [(0, .ref 113), (1, .int (nI p))] [] (WX pgC pgL stC stL PA PS BA BS u)
  refine M.blk (is := [(.iload_n 1, 1, 0, 0)]) (pc1 := 1) (lo1 := [(0, .ref 113), (1, .int (nI p))]) (st1 := [.int (nI p)]) (w1 := (WX pgC pgL stC stL PA PS BA BS u)) (by decide +kernel) rfl ?_
  refine M.if_lt (off := 20) (tgt := 21) (nx := 4) (by decide +kernel) (fun z1 => by exfalso; exact nI_pos (by omega) z1) (fun z1 => ?_)
  refine M.blk (is := [(.iload_n 1, 1, 0, 0), (.aload_n 0, 0, 0, 0), (.getfield 70, 0, 8, 0)]) (pc1 := 9) (lo1 := [(0, .ref 113), (1, .int (nI p))]) (st1 := [.int (BS 8), .int (nI p)]) (w1 := (WX pgC pgL stC stL PA PS BA BS u)) (by decide +kernel) rfl ?_
  refine M.icmp_ge (off := 12) (tgt := 21) (nx := 12) (by decide +kernel) (fun z9 => by exfalso; rw [h8] at z9; exact nI_ge hp (by omega) z9) (fun z9 => ?_)
  refine M.blk (is := [(.aload_n 0, 0, 0, 0), (.getfield 9, 0, 0, 0), (.iload_n 1, 1, 0, 0)]) (pc1 := 17) (lo1 := [(0, .ref 113), (1, .int (nI p))]) (st1 := [.int (nI p), .ref 114]) (w1 := (WX pgC pgL stC stL PA PS BA BS u)) (by decide +kernel) rfl ?_
  refine M.ald (n := 128) (f := BA 0) (j := p) (nx := 18) (by decide +kernel) rfl rfl (by omega) (by decide) ?_
  refine M.blk (is := [(.goto 4, 22, 0, 0)]) (pc1 := 22) (lo1 := [(0, .ref 113), (1, .int (nI p))]) (st1 := [.int ((BA 0) p)]) (w1 := (WX pgC pgL stC stL PA PS BA BS u)) (by decide +kernel) rfl ?_
  exact M.reti (nx := 23) (by decide +kernel) ⟨rfl, rfl⟩
def hmC (κ th k : Nat) : Nat := match k with
  | 0 => 0
  | k + 1 => hmC κ th k + (if isPt κ k th = true then 1 else 0)
def hmM (κ th : Nat) (M : Nat → Int32) (k : Nat) : Nat := match k with
  | 0 => 0
  | k + 1 => hmM κ th M k + (if 0 < M k ∧ isPt κ k th = true then 1 else 0)
def lhS (κ th : Nat) (M : Nat → Int32) (m k : Nat) : Option Nat := match m with
  | 0 => none
  | m + 1 => if M k = 0 ∧ isPt κ k th = true then some k else lhS κ th M m (k + 1)
def ltF (κ th : Nat) (M F : Nat → Int32) (k : Nat) : Int32 := match k with
  | 0 => -1
  | k + 1 => if 0 < M k ∧ isPt κ k th = true then (if ltF κ th M F k < F k then F k else ltF κ th M F k) else ltF κ th M F k
theorem isPt_lt {κ p th : Nat} (h : isPt κ p th = true) : p < ptsN κ := by
  unfold isPt at h
  rw [Bool.and_eq_true] at h
  exact of_decide_eq_true h.1
theorem lhS_succ (κ th : Nat) (M : Nat → Int32) (m k : Nat) : lhS κ th M (m + 1) k = if M k = 0 ∧ isPt κ k th = true then some k else lhS κ th M m (k + 1) := rfl
theorem pts_lt3 {κ k : Nat} (h : k < ptsN κ) (h3 : κ ≤ 3) : κ < 3 := by
  rcases (show κ < 3 ∨ κ = 3 by omega) with e | e
  · exact e
  · subst e; exact absurd h (Nat.not_lt_zero _)
theorem kI_nI {κ : Nat} (h : κ < 3) : kI κ = nI κ := by
  rcases (show κ = 0 ∨ κ = 1 ∨ κ = 2 by omega) with rfl | rfl | rfl <;> rfl
theorem x_howMany {κ th : Nat} {Mf : Nat → Int32} (h7 : BS 7 = kI κ) (hκ : κ ≤ 3) (h8 : BS 8 = nI (ptsN κ)) (h9 : BS 9 = nI th) (ht : th < 16) (hM : ∀ p, p < ptsN κ → BA 1 p = Mf p) : CC 2 mX0_howMany 0 0 [.ref 113] (WX pgC pgL stC stL PA PS BA BS u) (Rt (nI (hmC κ th (ptsN κ))) (WX pgC pgL stC stL PA PS BA BS u)) := by
  have hP := ptsN_le κ
  refine CC.of okX0_howMany.1 (Nat.le_of_ble_eq_true rfl) (fun g M => ?_)
  have lp : ∀ m k, k + m = ptsN κ → g 0 0 4 [(0, .ref 113), (1, .int (nI (hmC κ th k))), (2, .int (nI k))] [] (WX pgC pgL stC stL PA PS BA BS u) := by
    intro m
    induction m with
    | zero =>
      intro k hk
      have ek : ptsN κ = k := by omega
      rw [← ek]
      refine M.blk (is := [(.iload_n 2, 2, 0, 0), (.aload_n 0, 0, 0, 0), (.getfield 70, 0, 8, 0)]) (pc1 := 9) (lo1 := [(0, .ref 113), (1, .int (nI (hmC κ th (ptsN κ)))), (2, .int (nI (ptsN κ)))]) (st1 := [.int (BS 8), .int (nI (ptsN κ))]) (w1 := (WX pgC pgL stC stL PA PS BA BS u)) (by decide +kernel) rfl ?_
      refine M.icmp_ge (off := 27) (tgt := 36) (nx := 12) (by decide +kernel) (fun z9 => ?_) (fun z9 => by exfalso; exact z9 (by rw [h8]; exact nI_le (Nat.le_refl _) (by omega)))
      refine M.blk (is := [(.iload_n 1, 1, 0, 0)]) (pc1 := 37) (lo1 := [(0, .ref 113), (1, .int (nI (hmC κ th (ptsN κ)))), (2, .int (nI (ptsN κ)))]) (st1 := [.int (nI (hmC κ th (ptsN κ)))]) (w1 := (WX pgC pgL stC stL PA PS BA BS u)) (by decide +kernel) rfl ?_
      exact M.reti (nx := 38) (by decide +kernel) ⟨rfl, rfl⟩
    | succ m ih =>
      intro k hk
      have hkp : k < ptsN κ := by omega
      have hk7 := h7.trans (kI_nI (pts_lt3 hkp hκ))
      have hMk := hM k hkp
      refine M.blk (is := [(.iload_n 2, 2, 0, 0), (.aload_n 0, 0, 0, 0), (.getfield 70, 0, 8, 0)]) (pc1 := 9) (lo1 := [(0, .ref 113), (1, .int (nI (hmC κ th k))), (2, .int (nI k))]) (st1 := [.int (BS 8), .int (nI k)]) (w1 := (WX pgC pgL stC stL PA PS BA BS u)) (by decide +kernel) rfl ?_
      refine M.icmp_ge (off := 27) (tgt := 36) (nx := 12) (by decide +kernel) (fun z9 => by exfalso; rw [h8] at z9; exact nI_ge hkp (by omega) z9) (fun z9 => ?_)
      refine M.blk (is := [(.aload_n 0, 0, 0, 0), (.getfield 35, 0, 7, 0), (.iload_n 2, 2, 0, 0), (.aload_n 0, 0, 0, 0), (.getfield 78, 0, 9, 0)]) (pc1 := 21) (lo1 := [(0, .ref 113), (1, .int (nI (hmC κ th k))), (2, .int (nI k))]) (st1 := [.int (BS 9), .int (nI k), .int (BS 7)]) (w1 := (WX pgC pgL stC stL PA PS BA BS u)) (by decide +kernel) rfl ?_
      rw [hk7, h9]
      refine M.callSi (as := [.int (nI κ), .int (nI k), .int (nI th)]) (st := []) (nx := 24) okX3_isPart lkX0_119 (s_isPart (WX pgC pgL stC stL PA PS BA BS u) (κ := κ) (p := k) (th := th) hκ (by omega) ht) (by decide +kernel) (by decide) rfl (Nat.le_of_ble_eq_true rfl) ?_
      refine M.if_eq (off := 6) (tgt := 30) (nx := 27) (by decide +kernel) (fun z24 => ?_) (fun z24 => ?_)
      · refine M.blk (is := [(.iinc 2 1, 2, 0, 1), (.goto (-29), 4, 0, 0)]) (pc1 := 4) (lo1 := [(2, .int ((nI k) + 1)), (0, .ref 113), (1, .int (nI (hmC κ th k)))]) (st1 := []) (w1 := (WX pgC pgL stC stL PA PS BA BS u)) (by decide +kernel) rfl ?_
        refine M.lsub [1, 2, 0] (lo1 := [(0, .ref 113), (1, .int (nI (hmC κ th k))), (2, .int ((nI k) + 1))]) rfl ?_
        rw [nI_1]
        have e := ih (k + 1) (by omega)
        rw [show hmC κ th (k + 1) = hmC κ th k + (if isPt κ k th = true then 1 else 0) from rfl, if_neg (b2i_f z24)] at e
        exact e
      · refine M.blk (is := [(.iinc 1 1, 1, 0, 1), (.iinc 2 1, 2, 0, 1), (.goto (-29), 4, 0, 0)]) (pc1 := 4) (lo1 := [(2, .int ((nI k) + 1)), (1, .int ((nI (hmC κ th k)) + 1)), (0, .ref 113)]) (st1 := []) (w1 := (WX pgC pgL stC stL PA PS BA BS u)) (by decide +kernel) rfl ?_
        refine M.lsub [2, 1, 0] (lo1 := [(0, .ref 113), (1, .int ((nI (hmC κ th k)) + 1)), (2, .int ((nI k) + 1))]) rfl ?_
        rw [nI_1, nI_1]
        have e := ih (k + 1) (by omega)
        rw [show hmC κ th (k + 1) = hmC κ th k + (if isPt κ k th = true then 1 else 0) from rfl, if_pos (b2i_t z24)] at e
        exact e
  show g 0 0 0 [(0, .ref 113)] [] (WX pgC pgL stC stL PA PS BA BS u)
  refine M.blk (is := [(.iconst 0, 0, 0, 0), (.istore_n 1, 1, 0, 0), (.iconst 0, 0, 0, 0), (.istore_n 2, 2, 0, 0)]) (pc1 := 4) (lo1 := [(2, .int 0), (1, .int 0), (0, .ref 113)]) (st1 := []) (w1 := (WX pgC pgL stC stL PA PS BA BS u)) (by decide +kernel) rfl ?_
  refine M.lsub [2, 1, 0] (lo1 := [(0, .ref 113), (1, .int 0), (2, .int 0)]) rfl ?_
  exact lp (ptsN κ) 0 (by omega)
theorem x_howManyMissed {κ th : Nat} {Mf : Nat → Int32} (h7 : BS 7 = kI κ) (hκ : κ ≤ 3) (h8 : BS 8 = nI (ptsN κ)) (h9 : BS 9 = nI th) (ht : th < 16) (hM : ∀ p, p < ptsN κ → BA 1 p = Mf p) : CC 2 mX0_howManyMissed 0 0 [.ref 113] (WX pgC pgL stC stL PA PS BA BS u) (Rt (nI (hmM κ th Mf (ptsN κ))) (WX pgC pgL stC stL PA PS BA BS u)) := by
  have hP := ptsN_le κ
  refine CC.of okX0_howManyMissed.1 (Nat.le_of_ble_eq_true rfl) (fun g M => ?_)
  have lp : ∀ m k, k + m = ptsN κ → g 0 0 4 [(0, .ref 113), (1, .int (nI (hmM κ th Mf k))), (2, .int (nI k))] [] (WX pgC pgL stC stL PA PS BA BS u) := by
    intro m
    induction m with
    | zero =>
      intro k hk
      have ek : ptsN κ = k := by omega
      rw [← ek]
      refine M.blk (is := [(.iload_n 2, 2, 0, 0), (.aload_n 0, 0, 0, 0), (.getfield 70, 0, 8, 0)]) (pc1 := 9) (lo1 := [(0, .ref 113), (1, .int (nI (hmM κ th Mf (ptsN κ)))), (2, .int (nI (ptsN κ)))]) (st1 := [.int (BS 8), .int (nI (ptsN κ))]) (w1 := (WX pgC pgL stC stL PA PS BA BS u)) (by decide +kernel) rfl ?_
      refine M.icmp_ge (off := 36) (tgt := 45) (nx := 12) (by decide +kernel) (fun z9 => ?_) (fun z9 => by exfalso; exact z9 (by rw [h8]; exact nI_le (Nat.le_refl _) (by omega)))
      refine M.blk (is := [(.iload_n 1, 1, 0, 0)]) (pc1 := 46) (lo1 := [(0, .ref 113), (1, .int (nI (hmM κ th Mf (ptsN κ)))), (2, .int (nI (ptsN κ)))]) (st1 := [.int (nI (hmM κ th Mf (ptsN κ)))]) (w1 := (WX pgC pgL stC stL PA PS BA BS u)) (by decide +kernel) rfl ?_
      exact M.reti (nx := 47) (by decide +kernel) ⟨rfl, rfl⟩
    | succ m ih =>
      intro k hk
      have hkp : k < ptsN κ := by omega
      have hk7 := h7.trans (kI_nI (pts_lt3 hkp hκ))
      have hMk := hM k hkp
      refine M.blk (is := [(.iload_n 2, 2, 0, 0), (.aload_n 0, 0, 0, 0), (.getfield 70, 0, 8, 0)]) (pc1 := 9) (lo1 := [(0, .ref 113), (1, .int (nI (hmM κ th Mf k))), (2, .int (nI k))]) (st1 := [.int (BS 8), .int (nI k)]) (w1 := (WX pgC pgL stC stL PA PS BA BS u)) (by decide +kernel) rfl ?_
      refine M.icmp_ge (off := 36) (tgt := 45) (nx := 12) (by decide +kernel) (fun z9 => by exfalso; rw [h8] at z9; exact nI_ge hkp (by omega) z9) (fun z9 => ?_)
      refine M.blk (is := [(.aload_n 0, 0, 0, 0), (.getfield 15, 0, 1, 0), (.iload_n 2, 2, 0, 0)]) (pc1 := 17) (lo1 := [(0, .ref 113), (1, .int (nI (hmM κ th Mf k))), (2, .int (nI k))]) (st1 := [.int (nI k), .ref 115]) (w1 := (WX pgC pgL stC stL PA PS BA BS u)) (by decide +kernel) rfl ?_
      refine M.ald (n := 128) (f := BA 1) (j := k) (nx := 18) (by decide +kernel) rfl rfl (by omega) (by decide) ?_
      rw [hMk]
      refine M.if_le (off := 21) (tgt := 39) (nx := 21) (by decide +kernel) (fun z18 => ?_) (fun z18 => ?_)
      · refine M.blk (is := [(.iinc 2 1, 2, 0, 1), (.goto (-38), 4, 0, 0)]) (pc1 := 4) (lo1 := [(2, .int ((nI k) + 1)), (0, .ref 113), (1, .int (nI (hmM κ th Mf k)))]) (st1 := []) (w1 := (WX pgC pgL stC stL PA PS BA BS u)) (by decide +kernel) rfl ?_
        refine M.lsub [1, 2, 0] (lo1 := [(0, .ref 113), (1, .int (nI (hmM κ th Mf k))), (2, .int ((nI k) + 1))]) rfl ?_
        rw [nI_1]
        have e := ih (k + 1) (by omega)
        rw [show hmM κ th Mf (k + 1) = hmM κ th Mf k + (if 0 < Mf k ∧ isPt κ k th = true then 1 else 0) from rfl, if_neg (fun h => i32_nlt h.1 z18)] at e
        exact e
      · refine M.blk (is := [(.aload_n 0, 0, 0, 0), (.getfield 35, 0, 7, 0), (.iload_n 2, 2, 0, 0), (.aload_n 0, 0, 0, 0), (.getfield 78, 0, 9, 0)]) (pc1 := 30) (lo1 := [(0, .ref 113), (1, .int (nI (hmM κ th Mf k))), (2, .int (nI k))]) (st1 := [.int (BS 9), .int (nI k), .int (BS 7)]) (w1 := (WX pgC pgL stC stL PA PS BA BS u)) (by decide +kernel) rfl ?_
        rw [hk7, h9]
        refine M.callSi (as := [.int (nI κ), .int (nI k), .int (nI th)]) (st := []) (nx := 33) okX3_isPart lkX0_119 (s_isPart (WX pgC pgL stC stL PA PS BA BS u) (κ := κ) (p := k) (th := th) hκ (by omega) ht) (by decide +kernel) (by decide) rfl (Nat.le_of_ble_eq_true rfl) ?_
        refine M.if_eq (off := 6) (tgt := 39) (nx := 36) (by decide +kernel) (fun z33 => ?_) (fun z33 => ?_)
        · refine M.blk (is := [(.iinc 2 1, 2, 0, 1), (.goto (-38), 4, 0, 0)]) (pc1 := 4) (lo1 := [(2, .int ((nI k) + 1)), (0, .ref 113), (1, .int (nI (hmM κ th Mf k)))]) (st1 := []) (w1 := (WX pgC pgL stC stL PA PS BA BS u)) (by decide +kernel) rfl ?_
          refine M.lsub [1, 2, 0] (lo1 := [(0, .ref 113), (1, .int (nI (hmM κ th Mf k))), (2, .int ((nI k) + 1))]) rfl ?_
          rw [nI_1]
          have e := ih (k + 1) (by omega)
          rw [show hmM κ th Mf (k + 1) = hmM κ th Mf k + (if 0 < Mf k ∧ isPt κ k th = true then 1 else 0) from rfl, if_neg (fun h => b2i_f z33 h.2)] at e
          exact e
        · refine M.blk (is := [(.iinc 1 1, 1, 0, 1), (.iinc 2 1, 2, 0, 1), (.goto (-38), 4, 0, 0)]) (pc1 := 4) (lo1 := [(2, .int ((nI k) + 1)), (1, .int ((nI (hmM κ th Mf k)) + 1)), (0, .ref 113)]) (st1 := []) (w1 := (WX pgC pgL stC stL PA PS BA BS u)) (by decide +kernel) rfl ?_
          refine M.lsub [2, 1, 0] (lo1 := [(0, .ref 113), (1, .int ((nI (hmM κ th Mf k)) + 1)), (2, .int ((nI k) + 1))]) rfl ?_
          rw [nI_1, nI_1]
          have e := ih (k + 1) (by omega)
          rw [show hmM κ th Mf (k + 1) = hmM κ th Mf k + (if 0 < Mf k ∧ isPt κ k th = true then 1 else 0) from rfl, if_pos ⟨i32_nle z18, b2i_t z33⟩] at e
          exact e
  show g 0 0 0 [(0, .ref 113)] [] (WX pgC pgL stC stL PA PS BA BS u)
  refine M.blk (is := [(.iconst 0, 0, 0, 0), (.istore_n 1, 1, 0, 0), (.iconst 0, 0, 0, 0), (.istore_n 2, 2, 0, 0)]) (pc1 := 4) (lo1 := [(2, .int 0), (1, .int 0), (0, .ref 113)]) (st1 := []) (w1 := (WX pgC pgL stC stL PA PS BA BS u)) (by decide +kernel) rfl ?_
  refine M.lsub [2, 1, 0] (lo1 := [(0, .ref 113), (1, .int 0), (2, .int 0)]) rfl ?_
  exact lp (ptsN κ) 0 (by omega)
def lhI (x : Int32) (κ : Nat) (r : Option Nat) : Int32 := match r with | none => -1 | some p => 1000 * x + 300 * nI κ + nI p
theorem x_leastHidden {κ th : Nat} {Mf : Nat → Int32} (h7 : BS 7 = kI κ) (hκ : κ ≤ 3) (h8 : BS 8 = nI (ptsN κ)) (h9 : BS 9 = nI th) (ht : th < 16) (hM : ∀ p, p < ptsN κ → BA 1 p = Mf p) : CC 2 mX0_leastHidden 0 0 [.ref 113] (WX pgC pgL stC stL PA PS BA BS u) (Rt (lhI (BS 6) κ (lhS κ th Mf (ptsN κ) 0)) (WX pgC pgL stC stL PA PS BA BS u)) := by
  have hP := ptsN_le κ
  refine CC.of okX0_leastHidden.1 (Nat.le_of_ble_eq_true rfl) (fun g M => ?_)
  have lp : ∀ m k, k + m = ptsN κ → lhS κ th Mf (ptsN κ) 0 = lhS κ th Mf m k → g 0 0 2 [(0, .ref 113), (1, .int (nI k))] [] (WX pgC pgL stC stL PA PS BA BS u) := by
    intro m
    induction m with
    | zero =>
      intro k hk he
      have ek : ptsN κ = k := by omega
      rw [← ek]
      refine M.blk (is := [(.iload_n 1, 1, 0, 0), (.aload_n 0, 0, 0, 0), (.getfield 70, 0, 8, 0)]) (pc1 := 7) (lo1 := [(0, .ref 113), (1, .int (nI (ptsN κ)))]) (st1 := [.int (BS 8), .int (nI (ptsN κ))]) (w1 := (WX pgC pgL stC stL PA PS BA BS u)) (by decide +kernel) rfl ?_
      refine M.icmp_ge (off := 53) (tgt := 60) (nx := 10) (by decide +kernel) (fun z7 => ?_) (fun z7 => by exfalso; exact z7 (by rw [h8]; exact nI_le (Nat.le_refl _) (by omega)))
      refine M.blk (is := [(.iconst (-1), 0, 0, (-1))]) (pc1 := 61) (lo1 := [(0, .ref 113), (1, .int (nI (ptsN κ)))]) (st1 := [.int (-1)]) (w1 := (WX pgC pgL stC stL PA PS BA BS u)) (by decide +kernel) rfl ?_
      exact M.reti (nx := 62) (by decide +kernel) ⟨by rw [he]; rfl, rfl⟩
    | succ m ih =>
      intro k hk he
      have hkp : k < ptsN κ := by omega
      have hk7 := h7.trans (kI_nI (pts_lt3 hkp hκ))
      have hMk := hM k hkp
      refine M.blk (is := [(.iload_n 1, 1, 0, 0), (.aload_n 0, 0, 0, 0), (.getfield 70, 0, 8, 0)]) (pc1 := 7) (lo1 := [(0, .ref 113), (1, .int (nI k))]) (st1 := [.int (BS 8), .int (nI k)]) (w1 := (WX pgC pgL stC stL PA PS BA BS u)) (by decide +kernel) rfl ?_
      refine M.icmp_ge (off := 53) (tgt := 60) (nx := 10) (by decide +kernel) (fun z7 => by exfalso; rw [h8] at z7; exact nI_ge hkp (by omega) z7) (fun z7 => ?_)
      refine M.blk (is := [(.aload_n 0, 0, 0, 0), (.getfield 15, 0, 1, 0), (.iload_n 1, 1, 0, 0)]) (pc1 := 15) (lo1 := [(0, .ref 113), (1, .int (nI k))]) (st1 := [.int (nI k), .ref 115]) (w1 := (WX pgC pgL stC stL PA PS BA BS u)) (by decide +kernel) rfl ?_
      refine M.ald (n := 128) (f := BA 1) (j := k) (nx := 16) (by decide +kernel) rfl rfl (by omega) (by decide) ?_
      rw [hMk]
      refine M.if_ne (off := 38) (tgt := 54) (nx := 19) (by decide +kernel) (fun z16 => ?_) (fun z16 => ?_)
      · refine M.blk (is := [(.iinc 1 1, 1, 0, 1), (.goto (-55), 2, 0, 0)]) (pc1 := 2) (lo1 := [(1, .int ((nI k) + 1)), (0, .ref 113)]) (st1 := []) (w1 := (WX pgC pgL stC stL PA PS BA BS u)) (by decide +kernel) rfl ?_
        refine M.lsub [1, 0] (lo1 := [(0, .ref 113), (1, .int ((nI k) + 1))]) rfl ?_
        rw [nI_1]
        exact ih (k + 1) (by omega) (by rw [he, lhS_succ, if_neg (fun h => z16 h.1)])
      · refine M.blk (is := [(.aload_n 0, 0, 0, 0), (.getfield 35, 0, 7, 0), (.iload_n 1, 1, 0, 0), (.aload_n 0, 0, 0, 0), (.getfield 78, 0, 9, 0)]) (pc1 := 28) (lo1 := [(0, .ref 113), (1, .int (nI k))]) (st1 := [.int (BS 9), .int (nI k), .int (BS 7)]) (w1 := (WX pgC pgL stC stL PA PS BA BS u)) (by decide +kernel) rfl ?_
        rw [hk7, h9]
        refine M.callSi (as := [.int (nI κ), .int (nI k), .int (nI th)]) (st := []) (nx := 31) okX3_isPart lkX0_119 (s_isPart (WX pgC pgL stC stL PA PS BA BS u) (κ := κ) (p := k) (th := th) hκ (by omega) ht) (by decide +kernel) (by decide) rfl (Nat.le_of_ble_eq_true rfl) ?_
        refine M.if_eq (off := 23) (tgt := 54) (nx := 34) (by decide +kernel) (fun z31 => ?_) (fun z31 => ?_)
        · refine M.blk (is := [(.iinc 1 1, 1, 0, 1), (.goto (-55), 2, 0, 0)]) (pc1 := 2) (lo1 := [(1, .int ((nI k) + 1)), (0, .ref 113)]) (st1 := []) (w1 := (WX pgC pgL stC stL PA PS BA BS u)) (by decide +kernel) rfl ?_
          refine M.lsub [1, 0] (lo1 := [(0, .ref 113), (1, .int ((nI k) + 1))]) rfl ?_
          rw [nI_1]
          exact ih (k + 1) (by omega) (by rw [he, lhS_succ, if_neg (fun h => b2i_f z31 h.2)])
        · refine M.blk (is := [(.sipush 1000, 0, 0, 1000), (.aload_n 0, 0, 0, 0), (.getfield 31, 0, 6, 0), (.imul, 0, 0, 0), (.sipush 300, 0, 0, 300), (.aload_n 0, 0, 0, 0), (.getfield 35, 0, 7, 0), (.imul, 0, 0, 0), (.iadd, 0, 0, 0), (.iload_n 1, 1, 0, 0), (.iadd, 0, 0, 0)]) (pc1 := 53) (lo1 := [(0, .ref 113), (1, .int (nI k))]) (st1 := [.int (((1000 * (BS 6)) + (300 * (BS 7))) + (nI k))]) (w1 := (WX pgC pgL stC stL PA PS BA BS u)) (by decide +kernel) rfl ?_
          exact M.reti (nx := 54) (by decide +kernel) ⟨by rw [he, lhS_succ, if_pos ⟨z16, b2i_t z31⟩, hk7]; rfl, rfl⟩
  show g 0 0 0 [(0, .ref 113)] [] (WX pgC pgL stC stL PA PS BA BS u)
  refine M.blk (is := [(.iconst 0, 0, 0, 0), (.istore_n 1, 1, 0, 0)]) (pc1 := 2) (lo1 := [(1, .int 0), (0, .ref 113)]) (st1 := []) (w1 := (WX pgC pgL stC stL PA PS BA BS u)) (by decide +kernel) rfl ?_
  refine M.lsub [1, 0] (lo1 := [(0, .ref 113), (1, .int 0)]) rfl ?_
  exact lp (ptsN κ) 0 (by omega) rfl
theorem x_latestFirst {κ th : Nat} {Mf : Nat → Int32} (h7 : BS 7 = kI κ) (hκ : κ ≤ 3) (h8 : BS 8 = nI (ptsN κ)) (h9 : BS 9 = nI th) (ht : th < 16) (hM : ∀ p, p < ptsN κ → BA 1 p = Mf p) {Ff : Nat → Int32} (hF : ∀ p, p < ptsN κ → ¬ Mf p = 0 → BA 2 p = Ff p) : CC 2 mX0_latestFirst 0 0 [.ref 113] (WX pgC pgL stC stL PA PS BA BS u) (Rt (ltF κ th Mf Ff (ptsN κ)) (WX pgC pgL stC stL PA PS BA BS u)) := by
  have hP := ptsN_le κ
  refine CC.of okX0_latestFirst.1 (Nat.le_of_ble_eq_true rfl) (fun g M => ?_)
  have lp : ∀ m k, k + m = ptsN κ → g 0 0 4 [(0, .ref 113), (1, .int (ltF κ th Mf Ff k)), (2, .int (nI k))] [] (WX pgC pgL stC stL PA PS BA BS u) := by
    intro m
    induction m with
    | zero =>
      intro k hk
      have ek : ptsN κ = k := by omega
      rw [← ek]
      refine M.blk (is := [(.iload_n 2, 2, 0, 0), (.aload_n 0, 0, 0, 0), (.getfield 70, 0, 8, 0)]) (pc1 := 9) (lo1 := [(0, .ref 113), (1, .int (ltF κ th Mf Ff (ptsN κ))), (2, .int (nI (ptsN κ)))]) (st1 := [.int (BS 8), .int (nI (ptsN κ))]) (w1 := (WX pgC pgL stC stL PA PS BA BS u)) (by decide +kernel) rfl ?_
      refine M.icmp_ge (off := 44) (tgt := 53) (nx := 12) (by decide +kernel) (fun z9 => ?_) (fun z9 => by exfalso; exact z9 (by rw [h8]; exact nI_le (Nat.le_refl _) (by omega)))
      refine M.blk (is := [(.iload_n 1, 1, 0, 0)]) (pc1 := 54) (lo1 := [(0, .ref 113), (1, .int (ltF κ th Mf Ff (ptsN κ))), (2, .int (nI (ptsN κ)))]) (st1 := [.int (ltF κ th Mf Ff (ptsN κ))]) (w1 := (WX pgC pgL stC stL PA PS BA BS u)) (by decide +kernel) rfl ?_
      exact M.reti (nx := 55) (by decide +kernel) ⟨rfl, rfl⟩
    | succ m ih =>
      intro k hk
      have hkp : k < ptsN κ := by omega
      have hk7 := h7.trans (kI_nI (pts_lt3 hkp hκ))
      have hMk := hM k hkp
      refine M.blk (is := [(.iload_n 2, 2, 0, 0), (.aload_n 0, 0, 0, 0), (.getfield 70, 0, 8, 0)]) (pc1 := 9) (lo1 := [(0, .ref 113), (1, .int (ltF κ th Mf Ff k)), (2, .int (nI k))]) (st1 := [.int (BS 8), .int (nI k)]) (w1 := (WX pgC pgL stC stL PA PS BA BS u)) (by decide +kernel) rfl ?_
      refine M.icmp_ge (off := 44) (tgt := 53) (nx := 12) (by decide +kernel) (fun z9 => by exfalso; rw [h8] at z9; exact nI_ge hkp (by omega) z9) (fun z9 => ?_)
      refine M.blk (is := [(.aload_n 0, 0, 0, 0), (.getfield 15, 0, 1, 0), (.iload_n 2, 2, 0, 0)]) (pc1 := 17) (lo1 := [(0, .ref 113), (1, .int (ltF κ th Mf Ff k)), (2, .int (nI k))]) (st1 := [.int (nI k), .ref 115]) (w1 := (WX pgC pgL stC stL PA PS BA BS u)) (by decide +kernel) rfl ?_
      refine M.ald (n := 128) (f := BA 1) (j := k) (nx := 18) (by decide +kernel) rfl rfl (by omega) (by decide) ?_
      rw [hMk]
      refine M.if_le (off := 29) (tgt := 47) (nx := 21) (by decide +kernel) (fun z18 => ?_) (fun z18 => ?_)
      · refine M.blk (is := [(.iinc 2 1, 2, 0, 1), (.goto (-46), 4, 0, 0)]) (pc1 := 4) (lo1 := [(2, .int ((nI k) + 1)), (0, .ref 113), (1, .int (ltF κ th Mf Ff k))]) (st1 := []) (w1 := (WX pgC pgL stC stL PA PS BA BS u)) (by decide +kernel) rfl ?_
        refine M.lsub [1, 2, 0] (lo1 := [(0, .ref 113), (1, .int (ltF κ th Mf Ff k)), (2, .int ((nI k) + 1))]) rfl ?_
        rw [nI_1]
        have e := ih (k + 1) (by omega)
        rw [show ltF κ th Mf Ff (k + 1) = if 0 < Mf k ∧ isPt κ k th = true then (if ltF κ th Mf Ff k < Ff k then Ff k else ltF κ th Mf Ff k) else ltF κ th Mf Ff k from rfl, if_neg (fun h => i32_nlt h.1 z18)] at e
        exact e
      · refine M.blk (is := [(.aload_n 0, 0, 0, 0), (.getfield 35, 0, 7, 0), (.iload_n 2, 2, 0, 0), (.aload_n 0, 0, 0, 0), (.getfield 78, 0, 9, 0)]) (pc1 := 30) (lo1 := [(0, .ref 113), (1, .int (ltF κ th Mf Ff k)), (2, .int (nI k))]) (st1 := [.int (BS 9), .int (nI k), .int (BS 7)]) (w1 := (WX pgC pgL stC stL PA PS BA BS u)) (by decide +kernel) rfl ?_
        rw [hk7, h9]
        refine M.callSi (as := [.int (nI κ), .int (nI k), .int (nI th)]) (st := []) (nx := 33) okX3_isPart lkX0_119 (s_isPart (WX pgC pgL stC stL PA PS BA BS u) (κ := κ) (p := k) (th := th) hκ (by omega) ht) (by decide +kernel) (by decide) rfl (Nat.le_of_ble_eq_true rfl) ?_
        refine M.if_eq (off := 14) (tgt := 47) (nx := 36) (by decide +kernel) (fun z33 => ?_) (fun z33 => ?_)
        · refine M.blk (is := [(.iinc 2 1, 2, 0, 1), (.goto (-46), 4, 0, 0)]) (pc1 := 4) (lo1 := [(2, .int ((nI k) + 1)), (0, .ref 113), (1, .int (ltF κ th Mf Ff k))]) (st1 := []) (w1 := (WX pgC pgL stC stL PA PS BA BS u)) (by decide +kernel) rfl ?_
          refine M.lsub [1, 2, 0] (lo1 := [(0, .ref 113), (1, .int (ltF κ th Mf Ff k)), (2, .int ((nI k) + 1))]) rfl ?_
          rw [nI_1]
          have e := ih (k + 1) (by omega)
          rw [show ltF κ th Mf Ff (k + 1) = if 0 < Mf k ∧ isPt κ k th = true then (if ltF κ th Mf Ff k < Ff k then Ff k else ltF κ th Mf Ff k) else ltF κ th Mf Ff k from rfl, if_neg (fun h => b2i_f z33 h.2)] at e
          exact e
        · refine M.blk (is := [(.iload_n 1, 1, 0, 0), (.aload_n 0, 0, 0, 0), (.getfield 18, 0, 2, 0), (.iload_n 2, 2, 0, 0)]) (pc1 := 42) (lo1 := [(0, .ref 113), (1, .int (ltF κ th Mf Ff k)), (2, .int (nI k))]) (st1 := [.int (nI k), .ref 116, .int (ltF κ th Mf Ff k)]) (w1 := (WX pgC pgL stC stL PA PS BA BS u)) (by decide +kernel) rfl ?_
          refine M.ald (n := 128) (f := BA 2) (j := k) (nx := 43) (by decide +kernel) rfl rfl (by omega) (by decide) ?_
          rw [hF k hkp (fun e => i32_nlt (i32_nle z18) (by rw [e]; decide))]
          refine M.mmax (idx := 123) (nx := 46) (by decide +kernel) (lw_in 438 (by decide +kernel) (by decide +kernel)) (lw_in 439 (by decide +kernel) (by decide +kernel)) (lw_in 60 (by decide +kernel) (by decide +kernel)) (lw_in 440 (by decide +kernel) (by decide +kernel)) (by decide) (Nat.le_of_ble_eq_true rfl) (by decide) (by decide) ?_
          refine M.blk (is := [(.istore_n 1, 1, 0, 0), (.iinc 2 1, 2, 0, 1), (.goto (-46), 4, 0, 0)]) (pc1 := 4) (lo1 := [(2, .int ((nI k) + 1)), (1, .int (if ltF κ th Mf Ff k < Ff k then Ff k else ltF κ th Mf Ff k)), (0, .ref 113)]) (st1 := []) (w1 := (WX pgC pgL stC stL PA PS BA BS u)) (by decide +kernel) rfl ?_
          refine M.lsub [2, 1, 0] (lo1 := [(0, .ref 113), (1, .int (if ltF κ th Mf Ff k < Ff k then Ff k else ltF κ th Mf Ff k)), (2, .int ((nI k) + 1))]) rfl ?_
          rw [nI_1]
          have e := ih (k + 1) (by omega)
          rw [show ltF κ th Mf Ff (k + 1) = if 0 < Mf k ∧ isPt κ k th = true then (if ltF κ th Mf Ff k < Ff k then Ff k else ltF κ th Mf Ff k) else ltF κ th Mf Ff k from rfl, if_pos ⟨i32_nle z18, b2i_t z33⟩] at e
          exact e
  show g 0 0 0 [(0, .ref 113)] [] (WX pgC pgL stC stL PA PS BA BS u)
  refine M.blk (is := [(.iconst (-1), 0, 0, (-1)), (.istore_n 1, 1, 0, 0), (.iconst 0, 0, 0, 0), (.istore_n 2, 2, 0, 0)]) (pc1 := 4) (lo1 := [(2, .int 0), (1, .int (-1)), (0, .ref 113)]) (st1 := []) (w1 := (WX pgC pgL stC stL PA PS BA BS u)) (by decide +kernel) rfl ?_
  refine M.lsub [2, 1, 0] (lo1 := [(0, .ref 113), (1, .int (-1)), (2, .int 0)]) rfl ?_
  exact lp (ptsN κ) 0 (by omega)
end FOUND
end
section
section RUN
variable {pgC : Nat → Int32} {pgL : Int32} {stC : Nat → Int32} {stL : Int32} {PA : Nat → Nat → Int32} {PS : Nat → Int32} {BA : Nat → Nat → Int32} {BS : Nat → Int32} {u : List Cl}
def lbA (all : Int32) (PA : Nat → Nat → Int32) (C : Nat → Int32) (j : Nat) : Int32 := match j with
  | 0 => 0
  | j + 1 => if C j = 122 then 0 else if C j = 111 then all else if figF (C j) = 0 then lbA all PA C j else lbA all PA C j ^^^ ctF PA (C j - 48)
theorem lbA_succ (all : Int32) (PA : Nat → Nat → Int32) (C : Nat → Int32) (j : Nat) : lbA all PA C (j + 1) = if C j = 122 then 0 else if C j = 111 then all else if figF (C j) = 0 then lbA all PA C j else lbA all PA C j ^^^ ctF PA (C j - 48) := rfl
def tauG (r c k : Nat) : Nat → Int32 := fun d => if d < 4 then (match nbO r c k d with | none => -1 | some m => nI (tyN c m)) else nI (tyN c k)
theorem nb_lt {r c k d m : Nat} (hk : k < r * c) (h : nbO r c k d = some m) : m < r * c := by
  have h0 : 0 < c := by rcases Nat.eq_zero_or_pos c with e | e; rw [e] at hk; omega; exact e
  have hd1 := Nat.div_add_mod k c
  have hm1 := Nat.mod_lt k h0
  have hrow : k / c < r := by rw [Nat.div_lt_iff_lt_mul h0]; exact hk
  unfold nbO at h
  split at h
  · split at h
    · cases h; omega
    · cases h
  · split at h
    · rename_i h2
      cases h
      have : c * (k / c) + c ≤ c * r := by rw [← Nat.mul_succ]; exact Nat.mul_le_mul_left c hrow
      rw [Nat.mul_comm r c]
      omega
    · cases h
  · split at h
    · rename_i h2
      cases h
      have : c * (k / c + 1) + c ≤ c * r := by rw [← Nat.mul_succ]; exact Nat.mul_le_mul_left c h2
      rw [Nat.mul_add] at this
      rw [Nat.mul_comm r c]
      omega
    · cases h
  · split at h
    · cases h; omega
    · cases h
theorem thr_lt (r c k : Nat) : thr r c k < 16 := by
  unfold thr
  (repeat' split) <;> omega
section PL
variable {r c f h t : Nat} {PA : Nat → Nat → Int32} {PS : Nat → Int32}
theorem pl_ty {k : Nat} (hp : PlOk r c f h t PA PS) (h25 : r * c ≤ 25) (hk : k < r * c) : tyF PA PS (nI k) = nI (tyN c k) := by
  unfold tyF
  rw [hasF_nI hp.1.2.2.1 h25 hk, if_neg (by decide), nI_clamp (by omega)]
  exact (hp.2.1.1 k hk).1
theorem pl_th {k : Nat} (hp : PlOk r c f h t PA PS) (h25 : r * c ≤ 25) (hk : k < r * c) : thF PA PS (nI k) = nI (thr r c k) := by
  unfold thF
  rw [hasF_nI hp.1.2.2.1 h25 hk, if_neg (by decide), nI_clamp (by omega)]
  exact (hp.2.1.1 k hk).2.2.1
theorem pl_be {k d : Nat} (hp : PlOk r c f h t PA PS) (h25 : r * c ≤ 25) (hk : k < r * c) (hd : d < 4) : beF PA PS (nI k) (nI d) = oI (nbO r c k d) := by
  unfold beF
  rw [hasF_nI hp.1.2.2.1 h25 hk, if_neg (by decide), if_neg (nI_pos (by omega)), if_neg (show ¬ (4 : Int32) ≤ nI d from nI_ge (b := 4) hd (by decide)), nI_clamp (by omega), nI_clamp (by omega)]
  exact (hp.2.1.1 k hk).2.2.2 d hd
theorem pl_ad {k a : Nat} (hp : PlOk r c f h t PA PS) (h25 : r * c ≤ 25) (ha : a < r * c) (hk : (f * a + h) % (r * c) = k) : adF PA PS (nI k) = nI a := by
  have hk2 : k < r * c := by rw [← hk]; exact Nat.mod_lt _ (by omega)
  unfold adF
  rw [hasF_nI hp.1.2.2.1 h25 hk2, if_neg (by decide), nI_clamp (by omega), ← hk]
  exact (hp.2.2 a ha).2
theorem pl_cl {a : Nat} (hp : PlOk r c f h t PA PS) (h25 : r * c ≤ 25) (ha : a < r * c) : clF PA PS (nI a) = nI ((f * a + h) % (r * c)) := by
  unfold clF
  rw [hasF_nI hp.1.2.2.1 h25 ha, if_neg (by decide), nI_clamp (by omega)]
  exact (hp.2.2 a ha).1
theorem pl_tau {k : Nat} (hp : PlOk r c f h t PA PS) (h25 : r * c ≤ 25) (hk : k < r * c) : smT PA PS (nI k) = tauG r c k := by
  funext d
  unfold smT tauG
  by_cases hd : d < 4
  · rw [if_pos hd, if_pos hd, pl_be hp h25 hk hd]
    cases hn : nbO r c k d with
    | none =>
      unfold tyF
      rw [if_pos (show hasF PS (oI none) = 0 from if_pos (by decide))]
    | some m => exact pl_ty hp h25 (nb_lt hk hn)
  · rw [if_neg hd, if_neg hd, pl_ty hp h25 hk]
end PL
def rwoF (lb y : Int32) : Int32 := if y = 3 then 0 else if y = 4 then 0 else if y = 5 then lb else -1
def rwF (m f rr b lb ad tu x y : Int32) : Int32 := if y = 0 then (if m ≤ 0 then -1 else f) else if y = 1 then (if m ≤ 0 then -1 else ad) else if y = 2 then (if m ≤ 0 then -1 else rr ^^^ tu) else if y = 3 then m else if y = 4 then (if m ≤ 0 then 0 else 1) else (lb &&& ((1 <<< (x &&& 31)) ^^^ (-1))) ||| (b <<< (x &&& 31))
theorem x_lastBits {sl : Nat} (hsl : sl ≤ 64) : CC 1 mX3_lastBits 0 0 [.ref 100] (WX pgC pgL stC (nI sl) PA PS BA BS u) (Rt (lbA (((1 : Int32) <<< (PS 9 &&& 31)) - 1) PA stC sl) (WX pgC pgL stC (nI sl) PA PS BA BS u)) := by
  refine CC.of okX3_lastBits.1 (Nat.le_of_ble_eq_true rfl) (fun g M => ?_)
  have lp : ∀ m j, j + m = sl → g 0 0 16 [(0, .ref 100), (1, .int (((1 : Int32) <<< (PS 9 &&& 31)) - 1)), (2, .int (lbA (((1 : Int32) <<< (PS 9 &&& 31)) - 1) PA stC j)), (3, .int (nI j))] [] (WX pgC pgL stC (nI sl) PA PS BA BS u) := by
    intro m
    induction m with
    | zero =>
      intro j hj
      have ej : sl = j := by omega
      subst ej
      refine M.blk (is := [(.iload_n 3, 3, 0, 0), (.aload_n 0, 0, 0, 0), (.getfield 16, 3, 1, 0), (.getfield 33, 2, 1, 0)]) (pc1 := 24) (lo1 := [(0, .ref 100), (1, .int (((1 : Int32) <<< (PS 9 &&& 31)) - 1)), (2, .int (lbA (((1 : Int32) <<< (PS 9 &&& 31)) - 1) PA stC sl)), (3, .int (nI sl))]) (st1 := [.int (nI sl), .int (nI sl)]) (w1 := (WX pgC pgL stC (nI sl) PA PS BA BS u)) (by decide +kernel) rfl ?_
      refine M.icmp_ge (off := 66) (tgt := 90) (nx := 27) (by decide +kernel) (fun z24 => ?_) (fun z24 => by exfalso; exact z24 (nI_le (Nat.le_refl _) (by omega)))
      refine M.blk (is := [(.iload_n 2, 2, 0, 0)]) (pc1 := 91) (lo1 := [(0, .ref 100), (1, .int (((1 : Int32) <<< (PS 9 &&& 31)) - 1)), (2, .int (lbA (((1 : Int32) <<< (PS 9 &&& 31)) - 1) PA stC sl)), (3, .int (nI sl))]) (st1 := [.int (lbA (((1 : Int32) <<< (PS 9 &&& 31)) - 1) PA stC sl)]) (w1 := (WX pgC pgL stC (nI sl) PA PS BA BS u)) (by decide +kernel) rfl ?_
      exact M.reti (nx := 92) (by decide +kernel) ⟨rfl, rfl⟩
    | succ m ih =>
      intro j hj
      refine M.blk (is := [(.iload_n 3, 3, 0, 0), (.aload_n 0, 0, 0, 0), (.getfield 16, 3, 1, 0), (.getfield 33, 2, 1, 0)]) (pc1 := 24) (lo1 := [(0, .ref 100), (1, .int (((1 : Int32) <<< (PS 9 &&& 31)) - 1)), (2, .int (lbA (((1 : Int32) <<< (PS 9 &&& 31)) - 1) PA stC j)), (3, .int (nI j))]) (st1 := [.int (nI sl), .int (nI j)]) (w1 := (WX pgC pgL stC (nI sl) PA PS BA BS u)) (by decide +kernel) rfl ?_
      refine M.icmp_ge (off := 66) (tgt := 90) (nx := 27) (by decide +kernel) (fun z24 => by exfalso; exact nI_ge (show j < sl by omega) (by omega) z24) (fun z24 => ?_)
      refine M.blk (is := [(.aload_n 0, 0, 0, 0), (.getfield 16, 3, 1, 0), (.iload_n 3, 3, 0, 0)]) (pc1 := 32) (lo1 := [(0, .ref 100), (1, .int (((1 : Int32) <<< (PS 9 &&& 31)) - 1)), (2, .int (lbA (((1 : Int32) <<< (PS 9 &&& 31)) - 1) PA stC j)), (3, .int (nI j))]) (st1 := [.int (nI j), .ref 103]) (w1 := (WX pgC pgL stC (nI sl) PA PS BA BS u)) (by decide +kernel) rfl ?_
      refine M.callVi (as := [.int (nI j)]) (st := []) (nx := 35) okX2_get lkX3_44 (x_get3 (nI j)) (by decide +kernel) (by decide) rfl (Nat.le_of_ble_eq_true rfl) rfl (by decide) ?_
      rw [sGet_nI hsl (show j < sl by omega)]
      refine M.blk (is := [(.istore 4, 4, 0, 0), (.iload 4, 4, 0, 0), (.bipush 122, 0, 0, 122)]) (pc1 := 41) (lo1 := [(4, .int (stC j)), (0, .ref 100), (1, .int (((1 : Int32) <<< (PS 9 &&& 31)) - 1)), (2, .int (lbA (((1 : Int32) <<< (PS 9 &&& 31)) - 1) PA stC j)), (3, .int (nI j))]) (st1 := [.int 122, .int (stC j)]) (w1 := (WX pgC pgL stC (nI sl) PA PS BA BS u)) (by decide +kernel) rfl ?_
      refine M.icmp_ne (off := 8) (tgt := 49) (nx := 44) (by decide +kernel) (fun z41 => ?_) (fun z41 => ?_)
      · refine M.blk (is := [(.iload 4, 4, 0, 0), (.bipush 111, 0, 0, 111)]) (pc1 := 53) (lo1 := [(4, .int (stC j)), (0, .ref 100), (1, .int (((1 : Int32) <<< (PS 9 &&& 31)) - 1)), (2, .int (lbA (((1 : Int32) <<< (PS 9 &&& 31)) - 1) PA stC j)), (3, .int (nI j))]) (st1 := [.int 111, .int (stC j)]) (w1 := (WX pgC pgL stC (nI sl) PA PS BA BS u)) (by decide +kernel) rfl ?_
        refine M.icmp_ne (off := 8) (tgt := 61) (nx := 56) (by decide +kernel) (fun z53 => ?_) (fun z53 => ?_)
        · refine M.blk (is := [(.iload 4, 4, 0, 0)]) (pc1 := 63) (lo1 := [(4, .int (stC j)), (0, .ref 100), (1, .int (((1 : Int32) <<< (PS 9 &&& 31)) - 1)), (2, .int (lbA (((1 : Int32) <<< (PS 9 &&& 31)) - 1) PA stC j)), (3, .int (nI j))]) (st1 := [.int (stC j)]) (w1 := (WX pgC pgL stC (nI sl) PA PS BA BS u)) (by decide +kernel) rfl ?_
          refine M.callSi (as := [.int (stC j)]) (st := []) (nx := 66) okX3_isFigure lkX3_185 (s_isFigure (WX pgC pgL stC (nI sl) PA PS BA BS u) (stC j)) (by decide +kernel) (by decide) rfl (Nat.le_of_ble_eq_true rfl) ?_
          refine M.if_eq (off := 18) (tgt := 84) (nx := 69) (by decide +kernel) (fun z66 => ?_) (fun z66 => ?_)
          · refine M.blk (is := [(.iinc 3 1, 3, 0, 1), (.goto (-71), 16, 0, 0)]) (pc1 := 16) (lo1 := [(3, .int ((nI j) + 1)), (4, .int (stC j)), (0, .ref 100), (1, .int (((1 : Int32) <<< (PS 9 &&& 31)) - 1)), (2, .int (lbA (((1 : Int32) <<< (PS 9 &&& 31)) - 1) PA stC j))]) (st1 := []) (w1 := (WX pgC pgL stC (nI sl) PA PS BA BS u)) (by decide +kernel) rfl ?_
            refine M.lsub [2, 3, 4, 0] (lo1 := [(0, .ref 100), (1, .int (((1 : Int32) <<< (PS 9 &&& 31)) - 1)), (2, .int (lbA (((1 : Int32) <<< (PS 9 &&& 31)) - 1) PA stC j)), (3, .int ((nI j) + 1))]) rfl ?_
            rw [nI_1]
            have e := ih (j + 1) (by omega)
            rw [lbA_succ, if_neg z41, if_neg z53, if_pos z66] at e
            exact e
          · refine M.blk (is := [(.iload_n 2, 2, 0, 0), (.aload_n 0, 0, 0, 0), (.getfield 22, 3, 2, 0), (.iload 4, 4, 0, 0), (.bipush 48, 0, 0, 48), (.isub, 0, 0, 0)]) (pc1 := 79) (lo1 := [(4, .int (stC j)), (0, .ref 100), (1, .int (((1 : Int32) <<< (PS 9 &&& 31)) - 1)), (2, .int (lbA (((1 : Int32) <<< (PS 9 &&& 31)) - 1) PA stC j)), (3, .int (nI j))]) (st1 := [.int ((stC j) - 48), .ref 105, .int (lbA (((1 : Int32) <<< (PS 9 &&& 31)) - 1) PA stC j)]) (w1 := (WX pgC pgL stC (nI sl) PA PS BA BS u)) (by decide +kernel) rfl ?_
            refine M.callVi (as := [.int ((stC j) - 48)]) (st := [.int (lbA (((1 : Int32) <<< (PS 9 &&& 31)) - 1) PA stC j)]) (nx := 82) okX1_cellsOfType lkX3_212 (x_cellsOfType ((stC j) - 48)) (by decide +kernel) (by decide) rfl (Nat.le_of_ble_eq_true rfl) rfl (by decide) ?_
            refine M.blk (is := [(.ixor, 0, 0, 0), (.istore_n 2, 2, 0, 0), (.iinc 3 1, 3, 0, 1), (.goto (-71), 16, 0, 0)]) (pc1 := 16) (lo1 := [(3, .int ((nI j) + 1)), (2, .int ((lbA (((1 : Int32) <<< (PS 9 &&& 31)) - 1) PA stC j) ^^^ (ctF PA ((stC j) - 48)))), (4, .int (stC j)), (0, .ref 100), (1, .int (((1 : Int32) <<< (PS 9 &&& 31)) - 1))]) (st1 := []) (w1 := (WX pgC pgL stC (nI sl) PA PS BA BS u)) (by decide +kernel) rfl ?_
            refine M.lsub [3, 4, 1, 0] (lo1 := [(0, .ref 100), (1, .int (((1 : Int32) <<< (PS 9 &&& 31)) - 1)), (2, .int ((lbA (((1 : Int32) <<< (PS 9 &&& 31)) - 1) PA stC j) ^^^ (ctF PA ((stC j) - 48)))), (3, .int ((nI j) + 1))]) rfl ?_
            rw [nI_1]
            have e := ih (j + 1) (by omega)
            rw [lbA_succ, if_neg z41, if_neg z53, if_neg z66] at e
            exact e
        · refine M.blk (is := [(.iload_n 1, 1, 0, 0), (.istore_n 2, 2, 0, 0), (.goto 26, 84, 0, 0), (.iinc 3 1, 3, 0, 1), (.goto (-71), 16, 0, 0)]) (pc1 := 16) (lo1 := [(3, .int ((nI j) + 1)), (2, .int (((1 : Int32) <<< (PS 9 &&& 31)) - 1)), (4, .int (stC j)), (0, .ref 100), (1, .int (((1 : Int32) <<< (PS 9 &&& 31)) - 1))]) (st1 := []) (w1 := (WX pgC pgL stC (nI sl) PA PS BA BS u)) (by decide +kernel) rfl ?_
          refine M.lsub [3, 4, 1, 0] (lo1 := [(0, .ref 100), (1, .int (((1 : Int32) <<< (PS 9 &&& 31)) - 1)), (2, .int (((1 : Int32) <<< (PS 9 &&& 31)) - 1)), (3, .int ((nI j) + 1))]) rfl ?_
          rw [nI_1]
          have e := ih (j + 1) (by omega)
          rw [lbA_succ, if_neg z41, if_pos z53] at e
          exact e
      · refine M.blk (is := [(.iconst 0, 0, 0, 0), (.istore_n 2, 2, 0, 0), (.goto 38, 84, 0, 0), (.iinc 3 1, 3, 0, 1), (.goto (-71), 16, 0, 0)]) (pc1 := 16) (lo1 := [(3, .int ((nI j) + 1)), (2, .int 0), (4, .int (stC j)), (0, .ref 100), (1, .int (((1 : Int32) <<< (PS 9 &&& 31)) - 1))]) (st1 := []) (w1 := (WX pgC pgL stC (nI sl) PA PS BA BS u)) (by decide +kernel) rfl ?_
        refine M.lsub [3, 4, 1, 0] (lo1 := [(0, .ref 100), (1, .int (((1 : Int32) <<< (PS 9 &&& 31)) - 1)), (2, .int 0), (3, .int ((nI j) + 1))]) rfl ?_
        rw [nI_1]
        have e := ih (j + 1) (by omega)
        rw [lbA_succ, if_pos z41] at e
        exact e
  show g 0 0 0 [(0, .ref 100)] [] (WX pgC pgL stC (nI sl) PA PS BA BS u)
  refine M.blk (is := [(.iconst 1, 0, 0, 1), (.aload_n 0, 0, 0, 0), (.getfield 22, 3, 2, 0), (.getfield 68, 1, 9, 0), (.ishl, 0, 0, 0), (.iconst 1, 0, 0, 1), (.isub, 0, 0, 0), (.istore_n 1, 1, 0, 0), (.iconst 0, 0, 0, 0), (.istore_n 2, 2, 0, 0), (.iconst 0, 0, 0, 0), (.istore_n 3, 3, 0, 0)]) (pc1 := 16) (lo1 := [(3, .int 0), (2, .int 0), (1, .int (((1 : Int32) <<< ((PS 9) &&& 31)) - 1)), (0, .ref 100)]) (st1 := []) (w1 := (WX pgC pgL stC (nI sl) PA PS BA BS u)) (by decide +kernel) rfl ?_
  refine M.lsub [3, 2, 1, 0] (lo1 := [(0, .ref 100), (1, .int (((1 : Int32) <<< ((PS 9) &&& 31)) - 1)), (2, .int 0), (3, .int 0)]) rfl ?_
  exact lp sl 0 (by omega)
theorem rwo_out {y lb : Int32} (h : y.toInt < 3 ∨ 3 + (([28, 28, 30] : List Nat).length : Int) ≤ y.toInt) : rwoF lb y = -1 := by
  have key : ∀ v : Int32, 3 ≤ v.toInt → v.toInt ≤ 5 → ¬ y = v := by
    rintro v h1 h2 rfl
    simp only [List.length_cons, List.length_nil] at h
    omega
  unfold rwoF
  rw [if_neg (key 3 (by decide) (by decide)), if_neg (key 4 (by decide) (by decide)), if_neg (key 5 (by decide) (by decide))]
theorem x_runWithout {sl : Nat} (hsl : sl ≤ 64) (y : Int32) : CC 2 mX3_runWithout 0 0 [.ref 100, .int y] (WX pgC pgL stC (nI sl) PA PS BA BS u) (Rt (rwoF (lbA (((1 : Int32) <<< (PS 9 &&& 31)) - 1) PA stC sl) y) (WX pgC pgL stC (nI sl) PA PS BA BS u)) := by
  refine CC.of okX3_runWithout.1 (Nat.le_of_ble_eq_true rfl) (fun g M => ?_)
  show g 0 0 0 [(0, .ref 100), (1, .int y)] [] (WX pgC pgL stC (nI sl) PA PS BA BS u)
  refine M.blk (is := [(.iload_n 1, 1, 0, 0)]) (pc1 := 1) (lo1 := [(0, .ref 100), (1, .int y)]) (st1 := [.int y]) (w1 := (WX pgC pgL stC (nI sl) PA PS BA BS u)) (by decide +kernel) rfl ?_
  refine M.tsw (dflt := 34) (a := 3) (b := 5) (offs := #[27, 27, 29]) (len := 27) (tg := [28, 28, 30]) (dt := 35) (by decide +kernel) (fun j t hj hx1 => ?_) (fun hx1 => ?_)
  · match j, hj, hx1 with
    | 0, hj, hx1 =>
      cases hj
      have hx1 : y = 3 := i32_of hx1 (by decide)
      subst hx1
      refine M.blk (is := [(.iconst 0, 0, 0, 0)]) (pc1 := 29) (lo1 := [(0, .ref 100), (1, .int 3)]) (st1 := [.int 0]) (w1 := (WX pgC pgL stC (nI sl) PA PS BA BS u)) (by decide +kernel) rfl ?_
      exact M.reti (nx := 30) (by decide +kernel) ⟨rfl, rfl⟩
    | 1, hj, hx1 =>
      cases hj
      have hx1 : y = 4 := i32_of hx1 (by decide)
      subst hx1
      refine M.blk (is := [(.iconst 0, 0, 0, 0)]) (pc1 := 29) (lo1 := [(0, .ref 100), (1, .int 4)]) (st1 := [.int 0]) (w1 := (WX pgC pgL stC (nI sl) PA PS BA BS u)) (by decide +kernel) rfl ?_
      exact M.reti (nx := 30) (by decide +kernel) ⟨rfl, rfl⟩
    | 2, hj, hx1 =>
      cases hj
      have hx1 : y = 5 := i32_of hx1 (by decide)
      subst hx1
      refine M.blk (is := [(.aload_n 0, 0, 0, 0)]) (pc1 := 31) (lo1 := [(0, .ref 100), (1, .int 5)]) (st1 := [.ref 100]) (w1 := (WX pgC pgL stC (nI sl) PA PS BA BS u)) (by decide +kernel) rfl ?_
      refine M.callVi (as := []) (st := []) (nx := 34) okX3_lastBits lkX3_197 (x_lastBits hsl) (by decide +kernel) (by decide) rfl (Nat.le_of_ble_eq_true rfl) rfl (by decide) ?_
      exact M.reti (nx := 35) (by decide +kernel) ⟨rfl, rfl⟩
    | j + 3, hj, _ => exact absurd hj (by simp)
  · refine M.blk (is := [(.iconst (-1), 0, 0, (-1))]) (pc1 := 36) (lo1 := [(0, .ref 100), (1, .int y)]) (st1 := [.int (-1)]) (w1 := (WX pgC pgL stC (nI sl) PA PS BA BS u)) (by decide +kernel) rfl ?_
    exact M.reti (nx := 37) (by decide +kernel) ⟨by rw [rwo_out hx1], rfl⟩
theorem rw_b0 {b m : Int32} (h : b = if m ≤ 0 then (0 : Int32) else 1) (h0 : b = 0) : m ≤ 0 := by
  by_cases e : m ≤ 0
  · exact e
  · rw [if_neg e] at h; rw [h] at h0; exact absurd h0 (by decide)
theorem rw_b1 {b m : Int32} (h : b = if m ≤ 0 then (0 : Int32) else 1) (h0 : ¬ b = 0) : ¬ m ≤ 0 := fun e => h0 (by rw [h, if_pos e])
theorem rw_out {m f rr b lb ad tu x y : Int32} (h : y.toInt < 0 ∨ 0 + (([52, 70, 88, 115, 124] : List Nat).length : Int) ≤ y.toInt) : rwF m f rr b lb ad tu x y = (lb &&& ((1 <<< (x &&& 31)) ^^^ (-1))) ||| (b <<< (x &&& 31)) := by
  have key : ∀ v : Int32, 0 ≤ v.toInt → v.toInt ≤ 4 → ¬ y = v := by
    rintro v h1 h2 rfl
    simp only [List.length_cons, List.length_nil] at h
    omega
  unfold rwF
  rw [if_neg (key 0 (by decide) (by decide)), if_neg (key 1 (by decide) (by decide)), if_neg (key 2 (by decide) (by decide)), if_neg (key 3 (by decide) (by decide)), if_neg (key 4 (by decide) (by decide))]
theorem x_runWith {sl p n : Nat} (hsl : sl ≤ 64) (h8 : BS 8 = nI n) (hn : n ≤ 128) (hp : p < n) (x y : Int32) : CC 2 mX3_runWith 0 0 [.ref 100, .int x, .int (nI p), .int y] (WX pgC pgL stC (nI sl) PA PS BA BS u) (Rt (rwF (BA 1 p) (BA 2 p) (BA 3 p) (BA 0 p) (lbA (((1 : Int32) <<< (PS 9 &&& 31)) - 1) PA stC sl) (adF PA PS x) (tuF PA PS x) x y) (WX pgC pgL stC (nI sl) PA PS BA BS u)) := by
  refine CC.of okX3_runWith.1 (Nat.le_of_ble_eq_true rfl) (fun g M => ?_)
  show g 0 0 0 [(0, .ref 100), (1, .int x), (2, .int (nI p)), (3, .int y)] [] (WX pgC pgL stC (nI sl) PA PS BA BS u)
  refine M.blk (is := [(.aload_n 0, 0, 0, 0), (.getfield 29, 3, 3, 0), (.iload_n 2, 2, 0, 0)]) (pc1 := 5) (lo1 := [(0, .ref 100), (1, .int x), (2, .int (nI p)), (3, .int y)]) (st1 := [.int (nI p), .ref 113]) (w1 := (WX pgC pgL stC (nI sl) PA PS BA BS u)) (by decide +kernel) rfl ?_
  refine M.callVi (as := [.int (nI p)]) (st := []) (nx := 8) okX0_missesOf lkX3_200 (x_missesOf h8 hn hp) (by decide +kernel) (by decide) rfl (Nat.le_of_ble_eq_true rfl) rfl (by decide) ?_
  have j8 : ∀ b8 : Int32, b8 = (if BA 1 p ≤ 0 then (0 : Int32) else 1) → g 0 0 16 [(0, .ref 100), (1, .int x), (2, .int (nI p)), (3, .int y)] [.int b8] (WX pgC pgL stC (nI sl) PA PS BA BS u) := by
    intro b8 hb8
    refine M.blk (is := [(.istore 4, 4, 0, 0), (.iload_n 3, 3, 0, 0)]) (pc1 := 19) (lo1 := [(4, .int b8), (0, .ref 100), (1, .int x), (2, .int (nI p)), (3, .int y)]) (st1 := [.int y]) (w1 := (WX pgC pgL stC (nI sl) PA PS BA BS u)) (by decide +kernel) rfl ?_
    refine M.tsw (dflt := 116) (a := 0) (b := 4) (offs := #[33, 51, 69, 96, 105]) (len := 33) (tg := [52, 70, 88, 115, 124]) (dt := 135) (by decide +kernel) (fun j t hj hx19 => ?_) (fun hx19 => ?_)
    · match j, hj, hx19 with
      | 0, hj, hx19 =>
        cases hj
        have hx19 : y = 0 := i32_of hx19 (by decide)
        subst hx19
        refine M.blk (is := [(.iload 4, 4, 0, 0)]) (pc1 := 54) (lo1 := [(4, .int b8), (0, .ref 100), (1, .int x), (2, .int (nI p)), (3, .int 0)]) (st1 := [.int b8]) (w1 := (WX pgC pgL stC (nI sl) PA PS BA BS u)) (by decide +kernel) rfl ?_
        refine M.if_eq (off := 14) (tgt := 68) (nx := 57) (by decide +kernel) (fun z54 => ?_) (fun z54 => ?_)
        · refine M.blk (is := [(.iconst (-1), 0, 0, (-1))]) (pc1 := 69) (lo1 := [(4, .int b8), (0, .ref 100), (1, .int x), (2, .int (nI p)), (3, .int 0)]) (st1 := [.int (-1)]) (w1 := (WX pgC pgL stC (nI sl) PA PS BA BS u)) (by decide +kernel) rfl ?_
          exact M.reti (nx := 70) (by decide +kernel) ⟨by have hm : BA 1 p ≤ 0 := rw_b0 hb8 z54; unfold rwF; simp [hm], rfl⟩
        · refine M.blk (is := [(.aload_n 0, 0, 0, 0), (.getfield 29, 3, 3, 0), (.iload_n 2, 2, 0, 0)]) (pc1 := 62) (lo1 := [(4, .int b8), (0, .ref 100), (1, .int x), (2, .int (nI p)), (3, .int 0)]) (st1 := [.int (nI p), .ref 113]) (w1 := (WX pgC pgL stC (nI sl) PA PS BA BS u)) (by decide +kernel) rfl ?_
          refine M.callVi (as := [.int (nI p)]) (st := []) (nx := 65) okX0_firstStepOf lkX3_203 (x_firstStepOf h8 hn hp) (by decide +kernel) (by decide) rfl (Nat.le_of_ble_eq_true rfl) rfl (by decide) ?_
          refine M.blk (is := [(.goto 4, 69, 0, 0)]) (pc1 := 69) (lo1 := [(4, .int b8), (0, .ref 100), (1, .int x), (2, .int (nI p)), (3, .int 0)]) (st1 := [.int (BA 2 p)]) (w1 := (WX pgC pgL stC (nI sl) PA PS BA BS u)) (by decide +kernel) rfl ?_
          exact M.reti (nx := 70) (by decide +kernel) ⟨by have hm : ¬ BA 1 p ≤ 0 := rw_b1 hb8 z54; unfold rwF; simp [hm], rfl⟩
      | 1, hj, hx19 =>
        cases hj
        have hx19 : y = 1 := i32_of hx19 (by decide)
        subst hx19
        refine M.blk (is := [(.iload 4, 4, 0, 0)]) (pc1 := 72) (lo1 := [(4, .int b8), (0, .ref 100), (1, .int x), (2, .int (nI p)), (3, .int 1)]) (st1 := [.int b8]) (w1 := (WX pgC pgL stC (nI sl) PA PS BA BS u)) (by decide +kernel) rfl ?_
        refine M.if_eq (off := 14) (tgt := 86) (nx := 75) (by decide +kernel) (fun z72 => ?_) (fun z72 => ?_)
        · refine M.blk (is := [(.iconst (-1), 0, 0, (-1))]) (pc1 := 87) (lo1 := [(4, .int b8), (0, .ref 100), (1, .int x), (2, .int (nI p)), (3, .int 1)]) (st1 := [.int (-1)]) (w1 := (WX pgC pgL stC (nI sl) PA PS BA BS u)) (by decide +kernel) rfl ?_
          exact M.reti (nx := 88) (by decide +kernel) ⟨by have hm : BA 1 p ≤ 0 := rw_b0 hb8 z72; unfold rwF; simp [hm], rfl⟩
        · refine M.blk (is := [(.aload_n 0, 0, 0, 0), (.getfield 22, 3, 2, 0), (.iload_n 1, 1, 0, 0)]) (pc1 := 80) (lo1 := [(4, .int b8), (0, .ref 100), (1, .int x), (2, .int (nI p)), (3, .int 1)]) (st1 := [.int x, .ref 105]) (w1 := (WX pgC pgL stC (nI sl) PA PS BA BS u)) (by decide +kernel) rfl ?_
          refine M.callVi (as := [.int x]) (st := []) (nx := 83) okX1_addressOf lkX3_84 (x_addressOf x) (by decide +kernel) (by decide) rfl (Nat.le_of_ble_eq_true rfl) rfl (by decide) ?_
          refine M.blk (is := [(.goto 4, 87, 0, 0)]) (pc1 := 87) (lo1 := [(4, .int b8), (0, .ref 100), (1, .int x), (2, .int (nI p)), (3, .int 1)]) (st1 := [.int (adF PA PS x)]) (w1 := (WX pgC pgL stC (nI sl) PA PS BA BS u)) (by decide +kernel) rfl ?_
          exact M.reti (nx := 88) (by decide +kernel) ⟨by have hm : ¬ BA 1 p ≤ 0 := rw_b1 hb8 z72; unfold rwF; simp [hm], rfl⟩
      | 2, hj, hx19 =>
        cases hj
        have hx19 : y = 2 := i32_of hx19 (by decide)
        subst hx19
        refine M.blk (is := [(.iload 4, 4, 0, 0)]) (pc1 := 90) (lo1 := [(4, .int b8), (0, .ref 100), (1, .int x), (2, .int (nI p)), (3, .int 2)]) (st1 := [.int b8]) (w1 := (WX pgC pgL stC (nI sl) PA PS BA BS u)) (by decide +kernel) rfl ?_
        refine M.if_eq (off := 23) (tgt := 113) (nx := 93) (by decide +kernel) (fun z90 => ?_) (fun z90 => ?_)
        · refine M.blk (is := [(.iconst (-1), 0, 0, (-1))]) (pc1 := 114) (lo1 := [(4, .int b8), (0, .ref 100), (1, .int x), (2, .int (nI p)), (3, .int 2)]) (st1 := [.int (-1)]) (w1 := (WX pgC pgL stC (nI sl) PA PS BA BS u)) (by decide +kernel) rfl ?_
          exact M.reti (nx := 115) (by decide +kernel) ⟨by have hm : BA 1 p ≤ 0 := rw_b0 hb8 z90; unfold rwF; simp [hm], rfl⟩
        · refine M.blk (is := [(.aload_n 0, 0, 0, 0), (.getfield 29, 3, 3, 0), (.iload_n 2, 2, 0, 0)]) (pc1 := 98) (lo1 := [(4, .int b8), (0, .ref 100), (1, .int x), (2, .int (nI p)), (3, .int 2)]) (st1 := [.int (nI p), .ref 113]) (w1 := (WX pgC pgL stC (nI sl) PA PS BA BS u)) (by decide +kernel) rfl ?_
          refine M.callVi (as := [.int (nI p)]) (st := []) (nx := 101) okX0_firstReadOf lkX3_206 (x_firstReadOf h8 hn hp) (by decide +kernel) (by decide) rfl (Nat.le_of_ble_eq_true rfl) rfl (by decide) ?_
          refine M.blk (is := [(.aload_n 0, 0, 0, 0), (.getfield 22, 3, 2, 0), (.iload_n 1, 1, 0, 0)]) (pc1 := 106) (lo1 := [(4, .int b8), (0, .ref 100), (1, .int x), (2, .int (nI p)), (3, .int 2)]) (st1 := [.int x, .ref 105, .int (BA 3 p)]) (w1 := (WX pgC pgL stC (nI sl) PA PS BA BS u)) (by decide +kernel) rfl ?_
          refine M.callVi (as := [.int x]) (st := [.int (BA 3 p)]) (nx := 109) okX1_turnedAt lkX3_87 (x_turnedAt x) (by decide +kernel) (by decide) rfl (Nat.le_of_ble_eq_true rfl) rfl (by decide) ?_
          refine M.blk (is := [(.ixor, 0, 0, 0), (.goto 4, 114, 0, 0)]) (pc1 := 114) (lo1 := [(4, .int b8), (0, .ref 100), (1, .int x), (2, .int (nI p)), (3, .int 2)]) (st1 := [.int ((BA 3 p) ^^^ (tuF PA PS x))]) (w1 := (WX pgC pgL stC (nI sl) PA PS BA BS u)) (by decide +kernel) rfl ?_
          exact M.reti (nx := 115) (by decide +kernel) ⟨by have hm : ¬ BA 1 p ≤ 0 := rw_b1 hb8 z90; unfold rwF; simp [hm], rfl⟩
      | 3, hj, hx19 =>
        cases hj
        have hx19 : y = 3 := i32_of hx19 (by decide)
        subst hx19
        refine M.blk (is := [(.aload_n 0, 0, 0, 0), (.getfield 29, 3, 3, 0), (.iload_n 2, 2, 0, 0)]) (pc1 := 120) (lo1 := [(4, .int b8), (0, .ref 100), (1, .int x), (2, .int (nI p)), (3, .int 3)]) (st1 := [.int (nI p), .ref 113]) (w1 := (WX pgC pgL stC (nI sl) PA PS BA BS u)) (by decide +kernel) rfl ?_
        refine M.callVi (as := [.int (nI p)]) (st := []) (nx := 123) okX0_missesOf lkX3_200 (x_missesOf h8 hn hp) (by decide +kernel) (by decide) rfl (Nat.le_of_ble_eq_true rfl) rfl (by decide) ?_
        exact M.reti (nx := 124) (by decide +kernel) ⟨rfl, rfl⟩
      | 4, hj, hx19 =>
        cases hj
        have hx19 : y = 4 := i32_of hx19 (by decide)
        subst hx19
        refine M.blk (is := [(.iload 4, 4, 0, 0)]) (pc1 := 126) (lo1 := [(4, .int b8), (0, .ref 100), (1, .int x), (2, .int (nI p)), (3, .int 4)]) (st1 := [.int b8]) (w1 := (WX pgC pgL stC (nI sl) PA PS BA BS u)) (by decide +kernel) rfl ?_
        refine M.if_eq (off := 7) (tgt := 133) (nx := 129) (by decide +kernel) (fun z126 => ?_) (fun z126 => ?_)
        · refine M.blk (is := [(.iconst 0, 0, 0, 0)]) (pc1 := 134) (lo1 := [(4, .int b8), (0, .ref 100), (1, .int x), (2, .int (nI p)), (3, .int 4)]) (st1 := [.int 0]) (w1 := (WX pgC pgL stC (nI sl) PA PS BA BS u)) (by decide +kernel) rfl ?_
          exact M.reti (nx := 135) (by decide +kernel) ⟨by have hm : BA 1 p ≤ 0 := rw_b0 hb8 z126; unfold rwF; simp [hm], rfl⟩
        · refine M.blk (is := [(.iconst 1, 0, 0, 1), (.goto 4, 134, 0, 0)]) (pc1 := 134) (lo1 := [(4, .int b8), (0, .ref 100), (1, .int x), (2, .int (nI p)), (3, .int 4)]) (st1 := [.int 1]) (w1 := (WX pgC pgL stC (nI sl) PA PS BA BS u)) (by decide +kernel) rfl ?_
          exact M.reti (nx := 135) (by decide +kernel) ⟨by have hm : ¬ BA 1 p ≤ 0 := rw_b1 hb8 z126; unfold rwF; simp [hm], rfl⟩
      | j + 5, hj, _ => exact absurd hj (by simp)
    · refine M.blk (is := [(.aload_n 0, 0, 0, 0)]) (pc1 := 136) (lo1 := [(4, .int b8), (0, .ref 100), (1, .int x), (2, .int (nI p)), (3, .int y)]) (st1 := [.ref 100]) (w1 := (WX pgC pgL stC (nI sl) PA PS BA BS u)) (by decide +kernel) rfl ?_
      refine M.callVi (as := []) (st := []) (nx := 139) okX3_lastBits lkX3_197 (x_lastBits hsl) (by decide +kernel) (by decide) rfl (Nat.le_of_ble_eq_true rfl) rfl (by decide) ?_
      refine M.blk (is := [(.iconst 1, 0, 0, 1), (.iload_n 1, 1, 0, 0), (.ishl, 0, 0, 0), (.iconst (-1), 0, 0, (-1)), (.ixor, 0, 0, 0), (.iand, 0, 0, 0), (.aload_n 0, 0, 0, 0), (.getfield 29, 3, 3, 0), (.iload_n 2, 2, 0, 0)]) (pc1 := 150) (lo1 := [(4, .int b8), (0, .ref 100), (1, .int x), (2, .int (nI p)), (3, .int y)]) (st1 := [.int (nI p), .ref 113, .int ((lbA (((1 : Int32) <<< (PS 9 &&& 31)) - 1) PA stC sl) &&& (((1 : Int32) <<< (x &&& 31)) ^^^ (-1)))]) (w1 := (WX pgC pgL stC (nI sl) PA PS BA BS u)) (by decide +kernel) rfl ?_
      refine M.callVi (as := [.int (nI p)]) (st := [.int ((lbA (((1 : Int32) <<< (PS 9 &&& 31)) - 1) PA stC sl) &&& (((1 : Int32) <<< (x &&& 31)) ^^^ (-1)))]) (nx := 153) okX0_lastBitOf lkX3_209 (x_lastBitOf h8 hn hp) (by decide +kernel) (by decide) rfl (Nat.le_of_ble_eq_true rfl) rfl (by decide) ?_
      refine M.blk (is := [(.iload_n 1, 1, 0, 0), (.ishl, 0, 0, 0), (.ior, 0, 0, 0)]) (pc1 := 156) (lo1 := [(4, .int b8), (0, .ref 100), (1, .int x), (2, .int (nI p)), (3, .int y)]) (st1 := [.int (((lbA (((1 : Int32) <<< (PS 9 &&& 31)) - 1) PA stC sl) &&& (((1 : Int32) <<< (x &&& 31)) ^^^ (-1))) ||| ((BA 0 p) <<< (x &&& 31)))]) (w1 := (WX pgC pgL stC (nI sl) PA PS BA BS u)) (by decide +kernel) rfl ?_
      exact M.reti (nx := 157) (by decide +kernel) ⟨by rw [rw_out hx19], rfl⟩
  refine M.if_le (off := 7) (tgt := 15) (nx := 11) (by decide +kernel) (fun z8 => ?_) (fun z8 => ?_)
  · refine M.blk (is := [(.iconst 0, 0, 0, 0)]) (pc1 := 16) (lo1 := [(0, .ref 100), (1, .int x), (2, .int (nI p)), (3, .int y)]) (st1 := [.int 0]) (w1 := (WX pgC pgL stC (nI sl) PA PS BA BS u)) (by decide +kernel) rfl ?_
    exact j8 _ (if_pos z8).symm
  · refine M.blk (is := [(.iconst 1, 0, 0, 1), (.goto 4, 16, 0, 0)]) (pc1 := 16) (lo1 := [(0, .ref 100), (1, .int x), (2, .int (nI p)), (3, .int y)]) (st1 := [.int 1]) (w1 := (WX pgC pgL stC (nI sl) PA PS BA BS u)) (by decide +kernel) rfl ?_
    exact j8 _ (if_neg z8).symm
def fltN (r c N : Nat) : Bool := decide (N / 1000 < r * c) && isPt (N % 1000 / 300) (N % 1000 % 300) (thr r c (N / 1000))
theorem x_isFault {sl : Nat} {r c f h t : Nat} (hgeo : GeoOk r c f h t) (hpl : PlOk r c f h t PA PS) {N : Nat} (hN : N < 2147483648) : CC 2 mX3_isFault 0 0 [.ref 100, .int (nI N), .int (nI (N / 1000)), .int (nI (N % 1000 / 300)), .int (nI (N % 1000 % 300))] (WX pgC pgL stC (nI sl) PA PS BA BS u) (Rt (b2i (fltN r c N)) (WX pgC pgL stC (nI sl) PA PS BA BS u)) := by
  have h25 : r * c ≤ 25 := Nat.mul_le_mul hgeo.1.2 hgeo.2.1.2
  have h9a : 9 ≤ r * c := Nat.mul_le_mul hgeo.1.1 hgeo.2.1.1
  refine CC.of okX3_isFault.1 (Nat.le_of_ble_eq_true rfl) (fun g M => ?_)
  show g 0 0 0 [(0, .ref 100), (1, .int (nI N)), (2, .int (nI (N / 1000))), (3, .int (nI (N % 1000 / 300))), (4, .int (nI (N % 1000 % 300)))] [] (WX pgC pgL stC (nI sl) PA PS BA BS u)
  refine M.blk (is := [(.iload_n 1, 1, 0, 0)]) (pc1 := 1) (lo1 := [(0, .ref 100), (1, .int (nI N)), (2, .int (nI (N / 1000))), (3, .int (nI (N % 1000 / 300))), (4, .int (nI (N % 1000 % 300)))]) (st1 := [.int (nI N)]) (w1 := (WX pgC pgL stC (nI sl) PA PS BA BS u)) (by decide +kernel) rfl ?_
  refine M.if_lt (off := 35) (tgt := 36) (nx := 4) (by decide +kernel) (fun z1 => by exfalso; exact nI_pos (by omega) z1) (fun z1 => ?_)
  refine M.blk (is := [(.aload_n 0, 0, 0, 0), (.getfield 22, 3, 2, 0), (.iload_n 2, 2, 0, 0)]) (pc1 := 9) (lo1 := [(0, .ref 100), (1, .int (nI N)), (2, .int (nI (N / 1000))), (3, .int (nI (N % 1000 / 300))), (4, .int (nI (N % 1000 % 300)))]) (st1 := [.int (nI (N / 1000)), .ref 105]) (w1 := (WX pgC pgL stC (nI sl) PA PS BA BS u)) (by decide +kernel) rfl ?_
  refine M.callVi (as := [.int (nI (N / 1000))]) (st := []) (nx := 12) okX1_has lkX3_78 (x_has (nI (N / 1000))) (by decide +kernel) (by decide) rfl (Nat.le_of_ble_eq_true rfl) rfl (by decide) ?_
  have hcs := hasF_cases PS (nI (N / 1000)) hpl.1.2.2.1 h25
  refine M.if_eq (off := 24) (tgt := 36) (nx := 15) (by decide +kernel) (fun z12 => ?_) (fun z12 => ?_)
  · refine M.blk (is := [(.iconst 0, 0, 0, 0)]) (pc1 := 37) (lo1 := [(0, .ref 100), (1, .int (nI N)), (2, .int (nI (N / 1000))), (3, .int (nI (N % 1000 / 300))), (4, .int (nI (N % 1000 % 300)))]) (st1 := [.int 0]) (w1 := (WX pgC pgL stC (nI sl) PA PS BA BS u)) (by decide +kernel) rfl ?_
    exact M.retz (nx := 38) (by decide +kernel) (by decide) ⟨by rw [fltN, decide_eq_false (fun h => by rw [hasF_nI hpl.1.2.2.1 h25 h] at z12; exact absurd z12 (by decide))]; rfl, rfl⟩
  · have hlt : N / 1000 < r * c := by
      rcases hcs with ⟨e, _⟩ | ⟨_, k, hk, e⟩
      · exact absurd e z12
      · rw [nI_inj (by omega) (by omega) e]; exact hk
    refine M.blk (is := [(.iload_n 3, 3, 0, 0), (.iload 4, 4, 0, 0), (.aload_n 0, 0, 0, 0), (.getfield 22, 3, 2, 0), (.iload_n 2, 2, 0, 0)]) (pc1 := 23) (lo1 := [(0, .ref 100), (1, .int (nI N)), (2, .int (nI (N / 1000))), (3, .int (nI (N % 1000 / 300))), (4, .int (nI (N % 1000 % 300)))]) (st1 := [.int (nI (N / 1000)), .ref 105, .int (nI (N % 1000 % 300)), .int (nI (N % 1000 / 300))]) (w1 := (WX pgC pgL stC (nI sl) PA PS BA BS u)) (by decide +kernel) rfl ?_
    refine M.callVi (as := [.int (nI (N / 1000))]) (st := [.int (nI (N % 1000 % 300)), .int (nI (N % 1000 / 300))]) (nx := 26) okX1_there lkX3_188 (x_there (nI (N / 1000))) (by decide +kernel) (by decide) rfl (Nat.le_of_ble_eq_true rfl) rfl (by decide) ?_
    rw [pl_th hpl h25 hlt]
    refine M.callSi (as := [.int (nI (N % 1000 / 300)), .int (nI (N % 1000 % 300)), .int (nI (thr r c (N / 1000)))]) (st := []) (nx := 29) okX3_isPart lkX3_191 (s_isPart (WX pgC pgL stC (nI sl) PA PS BA BS u) (κ := N % 1000 / 300) (p := N % 1000 % 300) (th := thr r c (N / 1000)) (by omega) (by omega) (thr_lt _ _ _)) (by decide +kernel) (by decide) rfl (Nat.le_of_ble_eq_true rfl) ?_
    refine M.if_eq (off := 7) (tgt := 36) (nx := 32) (by decide +kernel) (fun z29 => ?_) (fun z29 => ?_)
    · refine M.blk (is := [(.iconst 0, 0, 0, 0)]) (pc1 := 37) (lo1 := [(0, .ref 100), (1, .int (nI N)), (2, .int (nI (N / 1000))), (3, .int (nI (N % 1000 / 300))), (4, .int (nI (N % 1000 % 300)))]) (st1 := [.int 0]) (w1 := (WX pgC pgL stC (nI sl) PA PS BA BS u)) (by decide +kernel) rfl ?_
      exact M.retz (nx := 38) (by decide +kernel) (by decide) ⟨by rw [fltN, decide_eq_true hlt, Bool.true_and, z29], rfl⟩
    · refine M.blk (is := [(.iconst 1, 0, 0, 1), (.goto 4, 37, 0, 0)]) (pc1 := 37) (lo1 := [(0, .ref 100), (1, .int (nI N)), (2, .int (nI (N / 1000))), (3, .int (nI (N % 1000 / 300))), (4, .int (nI (N % 1000 % 300)))]) (st1 := [.int 1]) (w1 := (WX pgC pgL stC (nI sl) PA PS BA BS u)) (by decide +kernel) rfl ?_
      exact M.retz (nx := 38) (by decide +kernel) (by decide) ⟨by rw [fltN, decide_eq_true hlt, Bool.true_and, b2i_t z29]; rfl, rfl⟩
def outY (y n : Int32) : Prop := y < 0 ∨ n < y
theorem x_run_none {sl : Nat} (hsl : sl ≤ 64) (y : Int32) : CC 4 mX3_run 0 0 [.ref 100, .int (-1), .int y] (WX pgC pgL stC (nI sl) PA PS BA BS u) (fun r0 w1 => w1 = (WX pgC pgL stC (nI sl) PA PS BA BS u) ∧ ((outY y 5 ∧ r0 = some (.int (-1002))) ∨ (¬ outY y 5 ∧ r0 = some (.int (rwoF (lbA (((1 : Int32) <<< (PS 9 &&& 31)) - 1) PA stC sl) y))))) := by
  refine CC.of okX3_run.1 (Nat.le_of_ble_eq_true rfl) (fun g M => ?_)
  show g 0 0 0 [(0, .ref 100), (1, .int (-1)), (2, .int y)] [] (WX pgC pgL stC (nI sl) PA PS BA BS u)
  refine M.blk (is := [(.iload_n 1, 1, 0, 0), (.sipush 1000, 0, 0, 1000)]) (pc1 := 4) (lo1 := [(0, .ref 100), (1, .int (-1)), (2, .int y)]) (st1 := [.int 1000, .int (-1)]) (w1 := (WX pgC pgL stC (nI sl) PA PS BA BS u)) (by decide +kernel) rfl ?_
  refine M.idv (nx := 5) (by decide +kernel) (by decide) ?_
  refine M.blk (is := [(.istore_n 3, 3, 0, 0), (.iload_n 1, 1, 0, 0), (.sipush 1000, 0, 0, 1000)]) (pc1 := 10) (lo1 := [(3, .int ((-1) / 1000)), (0, .ref 100), (1, .int (-1)), (2, .int y)]) (st1 := [.int 1000, .int (-1)]) (w1 := (WX pgC pgL stC (nI sl) PA PS BA BS u)) (by decide +kernel) rfl ?_
  refine M.irm (nx := 11) (by decide +kernel) (by decide) ?_
  refine M.blk (is := [(.sipush 300, 0, 0, 300)]) (pc1 := 14) (lo1 := [(3, .int ((-1) / 1000)), (0, .ref 100), (1, .int (-1)), (2, .int y)]) (st1 := [.int 300, .int (jrem (-1) 1000)]) (w1 := (WX pgC pgL stC (nI sl) PA PS BA BS u)) (by decide +kernel) rfl ?_
  refine M.idv (nx := 15) (by decide +kernel) (by decide) ?_
  refine M.blk (is := [(.istore 4, 4, 0, 0), (.iload_n 1, 1, 0, 0), (.sipush 1000, 0, 0, 1000)]) (pc1 := 21) (lo1 := [(4, .int ((jrem (-1) 1000) / 300)), (3, .int ((-1) / 1000)), (0, .ref 100), (1, .int (-1)), (2, .int y)]) (st1 := [.int 1000, .int (-1)]) (w1 := (WX pgC pgL stC (nI sl) PA PS BA BS u)) (by decide +kernel) rfl ?_
  refine M.irm (nx := 22) (by decide +kernel) (by decide) ?_
  refine M.blk (is := [(.sipush 300, 0, 0, 300)]) (pc1 := 25) (lo1 := [(4, .int ((jrem (-1) 1000) / 300)), (3, .int ((-1) / 1000)), (0, .ref 100), (1, .int (-1)), (2, .int y)]) (st1 := [.int 300, .int (jrem (-1) 1000)]) (w1 := (WX pgC pgL stC (nI sl) PA PS BA BS u)) (by decide +kernel) rfl ?_
  refine M.irm (nx := 26) (by decide +kernel) (by decide) ?_
  refine M.blk (is := [(.istore 5, 5, 0, 0), (.iload_n 1, 1, 0, 0), (.iconst (-1), 0, 0, (-1))]) (pc1 := 30) (lo1 := [(5, .int (jrem (jrem (-1) 1000) 300)), (4, .int ((jrem (-1) 1000) / 300)), (3, .int ((-1) / 1000)), (0, .ref 100), (1, .int (-1)), (2, .int y)]) (st1 := [.int (-1), .int (-1)]) (w1 := (WX pgC pgL stC (nI sl) PA PS BA BS u)) (by decide +kernel) rfl ?_
  refine M.icmp_eq (off := 20) (tgt := 50) (nx := 33) (by decide +kernel) (fun _ => ?_) (fun h => absurd h (by decide))
  refine M.blk (is := [(.iload_n 2, 2, 0, 0)]) (pc1 := 51) (lo1 := [(5, .int (jrem (jrem (-1) 1000) 300)), (4, .int ((jrem (-1) 1000) / 300)), (3, .int ((-1) / 1000)), (0, .ref 100), (1, .int (-1)), (2, .int y)]) (st1 := [.int y]) (w1 := (WX pgC pgL stC (nI sl) PA PS BA BS u)) (by decide +kernel) rfl ?_
  refine M.if_lt (off := 8) (tgt := 59) (nx := 54) (by decide +kernel) (fun z51 => ?_) (fun z51 => ?_)
  · refine M.blk (is := [(.sipush (-1002), 0, 0, (-1002))]) (pc1 := 62) (lo1 := [(5, .int (jrem (jrem (-1) 1000) 300)), (4, .int ((jrem (-1) 1000) / 300)), (3, .int ((-1) / 1000)), (0, .ref 100), (1, .int (-1)), (2, .int y)]) (st1 := [.int (-1002)]) (w1 := (WX pgC pgL stC (nI sl) PA PS BA BS u)) (by decide +kernel) rfl ?_
    exact M.reti (nx := 63) (by decide +kernel) ⟨rfl, Or.inl ⟨Or.inl z51, rfl⟩⟩
  · refine M.blk (is := [(.iload_n 2, 2, 0, 0), (.iconst 5, 0, 0, 5)]) (pc1 := 56) (lo1 := [(5, .int (jrem (jrem (-1) 1000) 300)), (4, .int ((jrem (-1) 1000) / 300)), (3, .int ((-1) / 1000)), (0, .ref 100), (1, .int (-1)), (2, .int y)]) (st1 := [.int 5, .int y]) (w1 := (WX pgC pgL stC (nI sl) PA PS BA BS u)) (by decide +kernel) rfl ?_
    refine M.icmp_le (off := 7) (tgt := 63) (nx := 59) (by decide +kernel) (fun z56 => ?_) (fun z56 => ?_)
    · refine M.blk (is := [(.iload_n 1, 1, 0, 0), (.iconst (-1), 0, 0, (-1))]) (pc1 := 65) (lo1 := [(5, .int (jrem (jrem (-1) 1000) 300)), (4, .int ((jrem (-1) 1000) / 300)), (3, .int ((-1) / 1000)), (0, .ref 100), (1, .int (-1)), (2, .int y)]) (st1 := [.int (-1), .int (-1)]) (w1 := (WX pgC pgL stC (nI sl) PA PS BA BS u)) (by decide +kernel) rfl ?_
      refine M.icmp_ne (off := 9) (tgt := 74) (nx := 68) (by decide +kernel) (fun h => absurd h (by decide)) (fun _ => ?_)
      refine M.blk (is := [(.aload_n 0, 0, 0, 0), (.iload_n 2, 2, 0, 0)]) (pc1 := 70) (lo1 := [(5, .int (jrem (jrem (-1) 1000) 300)), (4, .int ((jrem (-1) 1000) / 300)), (3, .int ((-1) / 1000)), (0, .ref 100), (1, .int (-1)), (2, .int y)]) (st1 := [.int y, .ref 100]) (w1 := (WX pgC pgL stC (nI sl) PA PS BA BS u)) (by decide +kernel) rfl ?_
      refine M.callVi (as := [.int y]) (st := []) (nx := 73) okX3_runWithout lkX3_98 (x_runWithout hsl y) (by decide +kernel) (by decide) rfl (Nat.le_of_ble_eq_true rfl) rfl (by decide) ?_
      exact M.reti (nx := 74) (by decide +kernel) ⟨rfl, Or.inr ⟨fun e => e.elim z51 (fun e => i32_nlt e z56), rfl⟩⟩
    · refine M.blk (is := [(.sipush (-1002), 0, 0, (-1002))]) (pc1 := 62) (lo1 := [(5, .int (jrem (jrem (-1) 1000) 300)), (4, .int ((jrem (-1) 1000) / 300)), (3, .int ((-1) / 1000)), (0, .ref 100), (1, .int (-1)), (2, .int y)]) (st1 := [.int (-1002)]) (w1 := (WX pgC pgL stC (nI sl) PA PS BA BS u)) (by decide +kernel) rfl ?_
      exact M.reti (nx := 63) (by decide +kernel) ⟨rfl, Or.inl ⟨Or.inr (i32_nle z56), rfl⟩⟩
theorem x_isFault_neg {sl : Nat} {F a b e : Int32} (hF : F < 0) : CC 2 mX3_isFault 0 0 [.ref 100, .int F, .int a, .int b, .int e] (WX pgC pgL stC (nI sl) PA PS BA BS u) (Rt 0 (WX pgC pgL stC (nI sl) PA PS BA BS u)) := by
  refine CC.of okX3_isFault.1 (Nat.le_of_ble_eq_true rfl) (fun g M => ?_)
  show g 0 0 0 [(0, .ref 100), (1, .int F), (2, .int a), (3, .int b), (4, .int e)] [] (WX pgC pgL stC (nI sl) PA PS BA BS u)
  refine M.blk (is := [(.iload_n 1, 1, 0, 0)]) (pc1 := 1) (lo1 := [(0, .ref 100), (1, .int F), (2, .int a), (3, .int b), (4, .int e)]) (st1 := [.int F]) (w1 := (WX pgC pgL stC (nI sl) PA PS BA BS u)) (by decide +kernel) rfl ?_
  refine M.if_lt (off := 35) (tgt := 36) (nx := 4) (by decide +kernel) (fun z1 => ?_) (fun z1 => by exfalso; exact z1 hF)
  refine M.blk (is := [(.iconst 0, 0, 0, 0)]) (pc1 := 37) (lo1 := [(0, .ref 100), (1, .int F), (2, .int a), (3, .int b), (4, .int e)]) (st1 := [.int 0]) (w1 := (WX pgC pgL stC (nI sl) PA PS BA BS u)) (by decide +kernel) rfl ?_
  exact M.retz (nx := 38) (by decide +kernel) (by decide) ⟨rfl, rfl⟩
theorem x_run_neg {sl : Nat} {F : Int32} (hF : F < 0) (h1 : ¬ F = -1) (y : Int32) : CC 4 mX3_run 0 0 [.ref 100, .int F, .int y] (WX pgC pgL stC (nI sl) PA PS BA BS u) (Rt (-1001) (WX pgC pgL stC (nI sl) PA PS BA BS u)) := by
  refine CC.of okX3_run.1 (Nat.le_of_ble_eq_true rfl) (fun g M => ?_)
  show g 0 0 0 [(0, .ref 100), (1, .int F), (2, .int y)] [] (WX pgC pgL stC (nI sl) PA PS BA BS u)
  refine M.blk (is := [(.iload_n 1, 1, 0, 0), (.sipush 1000, 0, 0, 1000)]) (pc1 := 4) (lo1 := [(0, .ref 100), (1, .int F), (2, .int y)]) (st1 := [.int 1000, .int F]) (w1 := (WX pgC pgL stC (nI sl) PA PS BA BS u)) (by decide +kernel) rfl ?_
  refine M.idv (nx := 5) (by decide +kernel) (by decide) ?_
  refine M.blk (is := [(.istore_n 3, 3, 0, 0), (.iload_n 1, 1, 0, 0), (.sipush 1000, 0, 0, 1000)]) (pc1 := 10) (lo1 := [(3, .int (F / 1000)), (0, .ref 100), (1, .int F), (2, .int y)]) (st1 := [.int 1000, .int F]) (w1 := (WX pgC pgL stC (nI sl) PA PS BA BS u)) (by decide +kernel) rfl ?_
  refine M.irm (nx := 11) (by decide +kernel) (by decide) ?_
  refine M.blk (is := [(.sipush 300, 0, 0, 300)]) (pc1 := 14) (lo1 := [(3, .int (F / 1000)), (0, .ref 100), (1, .int F), (2, .int y)]) (st1 := [.int 300, .int (jrem F 1000)]) (w1 := (WX pgC pgL stC (nI sl) PA PS BA BS u)) (by decide +kernel) rfl ?_
  refine M.idv (nx := 15) (by decide +kernel) (by decide) ?_
  refine M.blk (is := [(.istore 4, 4, 0, 0), (.iload_n 1, 1, 0, 0), (.sipush 1000, 0, 0, 1000)]) (pc1 := 21) (lo1 := [(4, .int ((jrem F 1000) / 300)), (3, .int (F / 1000)), (0, .ref 100), (1, .int F), (2, .int y)]) (st1 := [.int 1000, .int F]) (w1 := (WX pgC pgL stC (nI sl) PA PS BA BS u)) (by decide +kernel) rfl ?_
  refine M.irm (nx := 22) (by decide +kernel) (by decide) ?_
  refine M.blk (is := [(.sipush 300, 0, 0, 300)]) (pc1 := 25) (lo1 := [(4, .int ((jrem F 1000) / 300)), (3, .int (F / 1000)), (0, .ref 100), (1, .int F), (2, .int y)]) (st1 := [.int 300, .int (jrem F 1000)]) (w1 := (WX pgC pgL stC (nI sl) PA PS BA BS u)) (by decide +kernel) rfl ?_
  refine M.irm (nx := 26) (by decide +kernel) (by decide) ?_
  refine M.blk (is := [(.istore 5, 5, 0, 0), (.iload_n 1, 1, 0, 0), (.iconst (-1), 0, 0, (-1))]) (pc1 := 30) (lo1 := [(5, .int (jrem (jrem F 1000) 300)), (4, .int ((jrem F 1000) / 300)), (3, .int (F / 1000)), (0, .ref 100), (1, .int F), (2, .int y)]) (st1 := [.int (-1), .int F]) (w1 := (WX pgC pgL stC (nI sl) PA PS BA BS u)) (by decide +kernel) rfl ?_
  refine M.icmp_eq (off := 20) (tgt := 50) (nx := 33) (by decide +kernel) (fun z30 => by exfalso; exact h1 z30) (fun z30 => ?_)
  refine M.blk (is := [(.aload_n 0, 0, 0, 0), (.iload_n 1, 1, 0, 0), (.iload_n 3, 3, 0, 0), (.iload 4, 4, 0, 0), (.iload 5, 5, 0, 0)]) (pc1 := 40) (lo1 := [(5, .int (jrem (jrem F 1000) 300)), (4, .int ((jrem F 1000) / 300)), (3, .int (F / 1000)), (0, .ref 100), (1, .int F), (2, .int y)]) (st1 := [.int (jrem (jrem F 1000) 300), .int ((jrem F 1000) / 300), .int (F / 1000), .int F, .ref 100]) (w1 := (WX pgC pgL stC (nI sl) PA PS BA BS u)) (by decide +kernel) rfl ?_
  refine M.callVi (as := [.int F, .int (F / 1000), .int ((jrem F 1000) / 300), .int (jrem (jrem F 1000) 300)]) (st := []) (nx := 43) okX3_isFault lkX3_94 (x_isFault_neg hF) (by decide +kernel) (by decide) rfl (Nat.le_of_ble_eq_true rfl) rfl (by decide) ?_
  refine M.if_ne (off := 7) (tgt := 50) (nx := 46) (by decide +kernel) (fun h => absurd h (by decide)) (fun _ => ?_)
  refine M.blk (is := [(.sipush (-1001), 0, 0, (-1001))]) (pc1 := 49) (lo1 := [(5, .int (jrem (jrem F 1000) 300)), (4, .int ((jrem F 1000) / 300)), (3, .int (F / 1000)), (0, .ref 100), (1, .int F), (2, .int y)]) (st1 := [.int (-1001)]) (w1 := (WX pgC pgL stC (nI sl) PA PS BA BS u)) (by decide +kernel) rfl ?_
  exact M.reti (nx := 50) (by decide +kernel) ⟨rfl, rfl⟩
theorem nI_n1 {N : Nat} (h : N < 2147483648) : ¬ nI N = -1 := by
  intro e
  have h1 := congrArg Int32.toInt e
  rw [nI_toInt h] at h1
  have h2 : (-1 : Int32).toInt = -1 := by decide
  omega
theorem rw_of {PA : Nat → Nat → Int32} {PS C : Nat → Int32} {sl κ p : Nat} {x lb ad tu x1 y : Int32} {BA : Nat → Nat → Int32} {BS : Nat → Int32} (h : BnR PA PS C sl κ x BA BS) (hp : p < ptsN κ) : rwF (BA 1 p) (BA 2 p) (BA 3 p) (BA 0 p) lb ad tu x1 y = rwF (smS κ p (smT PA PS x) C sl).2.2.2.2.1 (smS κ p (smT PA PS x) C sl).2.2.2.2.2.1 (smS κ p (smT PA PS x) C sl).2.2.2.2.2.2 (smS κ p (smT PA PS x) C sl).2.2.2.1 lb ad tu x1 y := by
  obtain ⟨-, hbr, -, -, hpp⟩ := h
  obtain ⟨h1, h2⟩ := hpp p hp
  have h0 : BA 0 p = (smS κ p (smT PA PS x) C sl).2.2.2.1 := hbr.2 p hp
  rw [h0, h1]
  by_cases hm : (smS κ p (smT PA PS x) C sl).2.2.2.2.1 = 0
  · rw [hm]
    unfold rwF
    simp
  · rw [(h2 hm).1, (h2 hm).2]
theorem x_run_num {sl : Nat} (hsl : sl ≤ 64) {r c f h t : Nat} (hgeo : GeoOk r c f h t) (hpl : PlOk r c f h t PA PS) (hbn : BnOk PA PS stC sl BA BS) {N : Nat} (hN : N < 2147483648) (y : Int32) : CC 4 mX3_run 0 0 [.ref 100, .int (nI N), .int y] (WX pgC pgL stC (nI sl) PA PS BA BS u) (fun r0 w1 => (fltN r c N = false ∧ r0 = some (.int (-1001)) ∧ w1 = (WX pgC pgL stC (nI sl) PA PS BA BS u)) ∨ (fltN r c N = true ∧ outY y 5 ∧ r0 = some (.int (-1002)) ∧ w1 = (WX pgC pgL stC (nI sl) PA PS BA BS u)) ∨ (fltN r c N = true ∧ ¬ outY y 5 ∧ r0 = some (.int (rwF (smS (N % 1000 / 300) (N % 1000 % 300) (tauG r c (N / 1000)) stC sl).2.2.2.2.1 (smS (N % 1000 / 300) (N % 1000 % 300) (tauG r c (N / 1000)) stC sl).2.2.2.2.2.1 (smS (N % 1000 / 300) (N % 1000 % 300) (tauG r c (N / 1000)) stC sl).2.2.2.2.2.2 (smS (N % 1000 / 300) (N % 1000 % 300) (tauG r c (N / 1000)) stC sl).2.2.2.1 (lbA (((1 : Int32) <<< (PS 9 &&& 31)) - 1) PA stC sl) (adF PA PS (nI (N / 1000))) (tuF PA PS (nI (N / 1000))) (nI (N / 1000)) y)) ∧ ∃ BB BT, w1 = WX pgC pgL stC (nI sl) PA PS BB BT u ∧ BnOk PA PS stC sl BB BT)) := by
  have h25 : r * c ≤ 25 := Nat.mul_le_mul hgeo.1.2 hgeo.2.1.2
  have h9a : 9 ≤ r * c := Nat.mul_le_mul hgeo.1.1 hgeo.2.1.1
  refine CC.of okX3_run.1 (Nat.le_of_ble_eq_true rfl) (fun g M => ?_)
  show g 0 0 0 [(0, .ref 100), (1, .int (nI N)), (2, .int y)] [] (WX pgC pgL stC (nI sl) PA PS BA BS u)
  refine M.blk (is := [(.iload_n 1, 1, 0, 0), (.sipush 1000, 0, 0, 1000)]) (pc1 := 4) (lo1 := [(0, .ref 100), (1, .int (nI N)), (2, .int y)]) (st1 := [.int 1000, .int (nI N)]) (w1 := (WX pgC pgL stC (nI sl) PA PS BA BS u)) (by decide +kernel) rfl ?_
  refine M.idv (nx := 5) (by decide +kernel) (by decide) ?_
  rw [show nI N / 1000 = nI (N / 1000) from pk_div (a := N) (d := 1000) hN (by decide) (by decide)]
  refine M.blk (is := [(.istore_n 3, 3, 0, 0), (.iload_n 1, 1, 0, 0), (.sipush 1000, 0, 0, 1000)]) (pc1 := 10) (lo1 := [(3, .int (nI (N / 1000))), (0, .ref 100), (1, .int (nI N)), (2, .int y)]) (st1 := [.int 1000, .int (nI N)]) (w1 := (WX pgC pgL stC (nI sl) PA PS BA BS u)) (by decide +kernel) rfl ?_
  refine M.irm (nx := 11) (by decide +kernel) (by decide) ?_
  rw [show jrem (nI N) 1000 = nI (N % 1000) from hf_rem (d := 1000) hN (by decide) (by decide)]
  refine M.blk (is := [(.sipush 300, 0, 0, 300)]) (pc1 := 14) (lo1 := [(3, .int (nI (N / 1000))), (0, .ref 100), (1, .int (nI N)), (2, .int y)]) (st1 := [.int 300, .int (nI (N % 1000))]) (w1 := (WX pgC pgL stC (nI sl) PA PS BA BS u)) (by decide +kernel) rfl ?_
  refine M.idv (nx := 15) (by decide +kernel) (by decide) ?_
  rw [show nI (N % 1000) / 300 = nI (N % 1000 / 300) from pk_div (a := N % 1000) (d := 300) (by omega) (by decide) (by decide)]
  refine M.blk (is := [(.istore 4, 4, 0, 0), (.iload_n 1, 1, 0, 0), (.sipush 1000, 0, 0, 1000)]) (pc1 := 21) (lo1 := [(4, .int (nI (N % 1000 / 300))), (3, .int (nI (N / 1000))), (0, .ref 100), (1, .int (nI N)), (2, .int y)]) (st1 := [.int 1000, .int (nI N)]) (w1 := (WX pgC pgL stC (nI sl) PA PS BA BS u)) (by decide +kernel) rfl ?_
  refine M.irm (nx := 22) (by decide +kernel) (by decide) ?_
  rw [show jrem (nI N) 1000 = nI (N % 1000) from hf_rem (d := 1000) hN (by decide) (by decide)]
  refine M.blk (is := [(.sipush 300, 0, 0, 300)]) (pc1 := 25) (lo1 := [(4, .int (nI (N % 1000 / 300))), (3, .int (nI (N / 1000))), (0, .ref 100), (1, .int (nI N)), (2, .int y)]) (st1 := [.int 300, .int (nI (N % 1000))]) (w1 := (WX pgC pgL stC (nI sl) PA PS BA BS u)) (by decide +kernel) rfl ?_
  refine M.irm (nx := 26) (by decide +kernel) (by decide) ?_
  rw [show jrem (nI (N % 1000)) 300 = nI (N % 1000 % 300) from hf_rem (d := 300) (by omega) (by decide) (by decide)]
  refine M.blk (is := [(.istore 5, 5, 0, 0), (.iload_n 1, 1, 0, 0), (.iconst (-1), 0, 0, (-1))]) (pc1 := 30) (lo1 := [(5, .int (nI (N % 1000 % 300))), (4, .int (nI (N % 1000 / 300))), (3, .int (nI (N / 1000))), (0, .ref 100), (1, .int (nI N)), (2, .int y)]) (st1 := [.int (-1), .int (nI N)]) (w1 := (WX pgC pgL stC (nI sl) PA PS BA BS u)) (by decide +kernel) rfl ?_
  refine M.icmp_eq (off := 20) (tgt := 50) (nx := 33) (by decide +kernel) (fun z30 => by exfalso; exact nI_n1 hN z30) (fun z30 => ?_)
  refine M.blk (is := [(.aload_n 0, 0, 0, 0), (.iload_n 1, 1, 0, 0), (.iload_n 3, 3, 0, 0), (.iload 4, 4, 0, 0), (.iload 5, 5, 0, 0)]) (pc1 := 40) (lo1 := [(5, .int (nI (N % 1000 % 300))), (4, .int (nI (N % 1000 / 300))), (3, .int (nI (N / 1000))), (0, .ref 100), (1, .int (nI N)), (2, .int y)]) (st1 := [.int (nI (N % 1000 % 300)), .int (nI (N % 1000 / 300)), .int (nI (N / 1000)), .int (nI N), .ref 100]) (w1 := (WX pgC pgL stC (nI sl) PA PS BA BS u)) (by decide +kernel) rfl ?_
  refine M.callVi (as := [.int (nI N), .int (nI (N / 1000)), .int (nI (N % 1000 / 300)), .int (nI (N % 1000 % 300))]) (st := []) (nx := 43) okX3_isFault lkX3_94 (x_isFault hgeo hpl hN) (by decide +kernel) (by decide) rfl (Nat.le_of_ble_eq_true rfl) rfl (by decide) ?_
  refine M.if_ne (off := 7) (tgt := 50) (nx := 46) (by decide +kernel) (fun z43 => ?_) (fun z43 => ?_)
  · refine M.blk (is := [(.iload_n 2, 2, 0, 0)]) (pc1 := 51) (lo1 := [(5, .int (nI (N % 1000 % 300))), (4, .int (nI (N % 1000 / 300))), (3, .int (nI (N / 1000))), (0, .ref 100), (1, .int (nI N)), (2, .int y)]) (st1 := [.int y]) (w1 := (WX pgC pgL stC (nI sl) PA PS BA BS u)) (by decide +kernel) rfl ?_
    refine M.if_lt (off := 8) (tgt := 59) (nx := 54) (by decide +kernel) (fun z51 => ?_) (fun z51 => ?_)
    · refine M.blk (is := [(.sipush (-1002), 0, 0, (-1002))]) (pc1 := 62) (lo1 := [(5, .int (nI (N % 1000 % 300))), (4, .int (nI (N % 1000 / 300))), (3, .int (nI (N / 1000))), (0, .ref 100), (1, .int (nI N)), (2, .int y)]) (st1 := [.int (-1002)]) (w1 := (WX pgC pgL stC (nI sl) PA PS BA BS u)) (by decide +kernel) rfl ?_
      exact M.reti (nx := 63) (by decide +kernel) (Or.inr (Or.inl ⟨b2i_t z43, Or.inl z51, rfl, rfl⟩))
    · refine M.blk (is := [(.iload_n 2, 2, 0, 0), (.iconst 5, 0, 0, 5)]) (pc1 := 56) (lo1 := [(5, .int (nI (N % 1000 % 300))), (4, .int (nI (N % 1000 / 300))), (3, .int (nI (N / 1000))), (0, .ref 100), (1, .int (nI N)), (2, .int y)]) (st1 := [.int 5, .int y]) (w1 := (WX pgC pgL stC (nI sl) PA PS BA BS u)) (by decide +kernel) rfl ?_
      refine M.icmp_le (off := 7) (tgt := 63) (nx := 59) (by decide +kernel) (fun z56 => ?_) (fun z56 => ?_)
      · refine M.blk (is := [(.iload_n 1, 1, 0, 0), (.iconst (-1), 0, 0, (-1))]) (pc1 := 65) (lo1 := [(5, .int (nI (N % 1000 % 300))), (4, .int (nI (N % 1000 / 300))), (3, .int (nI (N / 1000))), (0, .ref 100), (1, .int (nI N)), (2, .int y)]) (st1 := [.int (-1), .int (nI N)]) (w1 := (WX pgC pgL stC (nI sl) PA PS BA BS u)) (by decide +kernel) rfl ?_
        refine M.icmp_ne (off := 9) (tgt := 74) (nx := 68) (by decide +kernel) (fun z65 => ?_) (fun z65 => by exfalso; exact nI_n1 hN z65)
        have hft := b2i_t z43
        have hft2 := hft
        unfold fltN at hft2
        rw [Bool.and_eq_true] at hft2
        have hk := of_decide_eq_true hft2.1
        have hpp := isPt_lt hft2.2
        have hκ : N % 1000 / 300 < 3 := pts_lt3 hpp (by omega)
        refine M.blk (is := [(.aload_n 0, 0, 0, 0), (.getfield 29, 3, 3, 0), (.aload_n 0, 0, 0, 0), (.getfield 22, 3, 2, 0), (.aload_n 0, 0, 0, 0), (.getfield 16, 3, 1, 0), (.iload_n 3, 3, 0, 0), (.iload 4, 4, 0, 0)]) (pc1 := 89) (lo1 := [(5, .int (nI (N % 1000 % 300))), (4, .int (nI (N % 1000 / 300))), (3, .int (nI (N / 1000))), (0, .ref 100), (1, .int (nI N)), (2, .int y)]) (st1 := [.int (nI (N % 1000 / 300)), .int (nI (N / 1000)), .ref 103, .ref 105, .ref 113]) (w1 := (WX pgC pgL stC (nI sl) PA PS BA BS u)) (by decide +kernel) rfl ?_
        rw [← kI_nI hκ]
        refine M.callV (as := [.ref 105, .ref 103, .int (nI (N / 1000)), .int (kI (N % 1000 / 300))]) (st := []) (nx := 92) okX0_work lkX3_101 (x_work hsl (by omega) hbn (nI (N / 1000))) (by decide +kernel) (by decide) rfl (Nat.le_of_ble_eq_true rfl) rfl (by decide) ⟨by decide, by decide⟩ ?_
        intro r0 w1 hq
        obtain ⟨rfl, BB, BT, rfl, hR⟩ := hq
        show g 0 0 92 [(5, .int (nI (N % 1000 % 300))), (4, .int (kI (N % 1000 / 300))), (3, .int (nI (N / 1000))), (0, .ref 100), (1, .int (nI N)), (2, .int y)] [] (WX pgC pgL stC (nI sl) PA PS BB BT u)
        refine M.blk (is := [(.aload_n 0, 0, 0, 0), (.iload_n 3, 3, 0, 0), (.iload 5, 5, 0, 0), (.iload_n 2, 2, 0, 0)]) (pc1 := 97) (lo1 := [(5, .int (nI (N % 1000 % 300))), (4, .int (kI (N % 1000 / 300))), (3, .int (nI (N / 1000))), (0, .ref 100), (1, .int (nI N)), (2, .int y)]) (st1 := [.int y, .int (nI (N % 1000 % 300)), .int (nI (N / 1000)), .ref 100]) (w1 := (WX pgC pgL stC (nI sl) PA PS BB BT u)) (by decide +kernel) rfl ?_
        refine M.callVi (as := [.int (nI (N / 1000)), .int (nI (N % 1000 % 300)), .int y]) (st := []) (nx := 100) okX3_runWith lkX3_105 (x_runWith (BA := BB) (BS := BT) (n := ptsN (N % 1000 / 300)) hsl hR.1.2.2.1 (ptsN_le _) hpp (nI (N / 1000)) y) (by decide +kernel) (by decide) rfl (Nat.le_of_ble_eq_true rfl) rfl (by decide) ?_
        exact M.reti (nx := 101) (by decide +kernel) (Or.inr (Or.inr ⟨hft, fun e => e.elim z51 (fun e => i32_nlt e z56), by rw [rw_of hR hpp, pl_tau hpl h25 hk], BB, BT, rfl, Or.inr ⟨N % 1000 / 300, by omega, by rw [hR.1.1]; exact hR⟩⟩))
      · refine M.blk (is := [(.sipush (-1002), 0, 0, (-1002))]) (pc1 := 62) (lo1 := [(5, .int (nI (N % 1000 % 300))), (4, .int (nI (N % 1000 / 300))), (3, .int (nI (N / 1000))), (0, .ref 100), (1, .int (nI N)), (2, .int y)]) (st1 := [.int (-1002)]) (w1 := (WX pgC pgL stC (nI sl) PA PS BA BS u)) (by decide +kernel) rfl ?_
        exact M.reti (nx := 63) (by decide +kernel) (Or.inr (Or.inl ⟨b2i_t z43, Or.inr (i32_nle z56), rfl, rfl⟩))
  · refine M.blk (is := [(.sipush (-1001), 0, 0, (-1001))]) (pc1 := 49) (lo1 := [(5, .int (nI (N % 1000 % 300))), (4, .int (nI (N % 1000 / 300))), (3, .int (nI (N / 1000))), (0, .ref 100), (1, .int (nI N)), (2, .int y)]) (st1 := [.int (-1001)]) (w1 := (WX pgC pgL stC (nI sl) PA PS BA BS u)) (by decide +kernel) rfl ?_
    exact M.reti (nx := 50) (by decide +kernel) (Or.inl ⟨Bool.eq_false_iff.mpr (b2i_f z43), rfl, rfl⟩)
def smM (κ : Nat) (τ C : Nat → Int32) (sl : Nat) : Nat → Int32 := fun p => (smS κ p τ C sl).2.2.2.2.1
def smF (κ : Nat) (τ C : Nat → Int32) (sl : Nat) : Nat → Int32 := fun p => (smS κ p τ C sl).2.2.2.2.2.1
def fdF (r c : Nat) (C : Nat → Int32) (sl k κ : Nat) (y : Int32) : Int32 := if y = 0 then nI (hmC κ (thr r c k) (ptsN κ)) else if y = 1 then nI (hmM κ (thr r c k) (smM κ (tauG r c k) C sl) (ptsN κ)) else if y = 2 then lhI (nI k) κ (lhS κ (thr r c k) (smM κ (tauG r c k) C sl) (ptsN κ) 0) else ltF κ (thr r c k) (smM κ (tauG r c k) C sl) (smF κ (tauG r c k) C sl) (ptsN κ)
theorem fd_out {y : Int32} (h : y.toInt < 0 ∨ 0 + (([80, 88, 96] : List Nat).length : Int) ≤ y.toInt) {A B C D : Int32} : (if y = 0 then A else if y = 1 then B else if y = 2 then C else D) = D := by
  have key : ∀ v : Int32, 0 ≤ v.toInt → v.toInt ≤ 2 → ¬ y = v := by
    rintro v h1 h2 rfl
    simp only [List.length_cons, List.length_nil] at h
    omega
  rw [if_neg (key 0 (by decide) (by decide)), if_neg (key 1 (by decide) (by decide)), if_neg (key 2 (by decide) (by decide))]
theorem lt3 {z : Int32} (h : z ≤ 2) : z < nI 3 := by
  rw [Int32.le_iff_toInt_le] at h
  rw [Int32.lt_iff_toInt_lt]
  have h1 : (2 : Int32).toInt = 2 := by decide
  have h2 : (nI 3).toInt = 3 := by decide
  omega
theorem x_found {sl : Nat} (hsl : sl ≤ 64) {r c f h t : Nat} (hgeo : GeoOk r c f h t) (hpl : PlOk r c f h t PA PS) (hbn : BnOk PA PS stC sl BA BS) (x z y : Int32) : CC 4 mX3_found 0 0 [.ref 100, .int x, .int z, .int y] (WX pgC pgL stC (nI sl) PA PS BA BS u) (fun r0 w1 => ((∀ k κ, k < r * c → κ < 3 → ¬ (x = nI k ∧ z = nI κ)) ∧ r0 = some (.int (-1001)) ∧ w1 = (WX pgC pgL stC (nI sl) PA PS BA BS u)) ∨ (∃ k κ, k < r * c ∧ κ < 3 ∧ x = nI k ∧ z = nI κ ∧ outY y 3 ∧ r0 = some (.int (-1002)) ∧ w1 = (WX pgC pgL stC (nI sl) PA PS BA BS u)) ∨ (∃ k κ, k < r * c ∧ κ < 3 ∧ x = nI k ∧ z = nI κ ∧ ¬ outY y 3 ∧ r0 = some (.int (fdF r c stC sl k κ y)) ∧ ∃ BB BT, w1 = WX pgC pgL stC (nI sl) PA PS BB BT u ∧ BnOk PA PS stC sl BB BT)) := by
  have h25 : r * c ≤ 25 := Nat.mul_le_mul hgeo.1.2 hgeo.2.1.2
  have h9a : 9 ≤ r * c := Nat.mul_le_mul hgeo.1.1 hgeo.2.1.1
  refine CC.of okX3_found.1 (Nat.le_of_ble_eq_true rfl) (fun g M => ?_)
  have hcs := hasF_cases PS x hpl.1.2.2.1 h25
  show g 0 0 0 [(0, .ref 100), (1, .int x), (2, .int z), (3, .int y)] [] (WX pgC pgL stC (nI sl) PA PS BA BS u)
  refine M.blk (is := [(.aload_n 0, 0, 0, 0), (.getfield 22, 3, 2, 0), (.iload_n 1, 1, 0, 0)]) (pc1 := 5) (lo1 := [(0, .ref 100), (1, .int x), (2, .int z), (3, .int y)]) (st1 := [.int x, .ref 105]) (w1 := (WX pgC pgL stC (nI sl) PA PS BA BS u)) (by decide +kernel) rfl ?_
  refine M.callVi (as := [.int x]) (st := []) (nx := 8) okX1_has lkX3_78 (x_has x) (by decide +kernel) (by decide) rfl (Nat.le_of_ble_eq_true rfl) rfl (by decide) ?_
  refine M.if_eq (off := 12) (tgt := 20) (nx := 11) (by decide +kernel) (fun z8 => ?_) (fun z8 => ?_)
  · refine M.blk (is := [(.sipush (-1001), 0, 0, (-1001))]) (pc1 := 23) (lo1 := [(0, .ref 100), (1, .int x), (2, .int z), (3, .int y)]) (st1 := [.int (-1001)]) (w1 := (WX pgC pgL stC (nI sl) PA PS BA BS u)) (by decide +kernel) rfl ?_
    exact M.reti (nx := 24) (by decide +kernel) (Or.inl ⟨fun k κ hk hκ e => by rw [e.1, hasF_nI hpl.1.2.2.1 h25 hk] at z8; exact absurd z8 (by decide), rfl, rfl⟩)
  · refine M.blk (is := [(.iload_n 2, 2, 0, 0)]) (pc1 := 12) (lo1 := [(0, .ref 100), (1, .int x), (2, .int z), (3, .int y)]) (st1 := [.int z]) (w1 := (WX pgC pgL stC (nI sl) PA PS BA BS u)) (by decide +kernel) rfl ?_
    refine M.if_lt (off := 8) (tgt := 20) (nx := 15) (by decide +kernel) (fun z12 => ?_) (fun z12 => ?_)
    · refine M.blk (is := [(.sipush (-1001), 0, 0, (-1001))]) (pc1 := 23) (lo1 := [(0, .ref 100), (1, .int x), (2, .int z), (3, .int y)]) (st1 := [.int (-1001)]) (w1 := (WX pgC pgL stC (nI sl) PA PS BA BS u)) (by decide +kernel) rfl ?_
      exact M.reti (nx := 24) (by decide +kernel) (Or.inl ⟨fun k κ hk hκ e => by rw [e.2] at z12; exact nI_pos (by omega) z12, rfl, rfl⟩)
    · refine M.blk (is := [(.iload_n 2, 2, 0, 0), (.iconst 2, 0, 0, 2)]) (pc1 := 17) (lo1 := [(0, .ref 100), (1, .int x), (2, .int z), (3, .int y)]) (st1 := [.int 2, .int z]) (w1 := (WX pgC pgL stC (nI sl) PA PS BA BS u)) (by decide +kernel) rfl ?_
      refine M.icmp_le (off := 7) (tgt := 24) (nx := 20) (by decide +kernel) (fun z17 => ?_) (fun z17 => ?_)
      · obtain ⟨k, hk, rfl⟩ : ∃ k, k < r * c ∧ x = nI k := by
          rcases hcs with ⟨e, _⟩ | ⟨_, h⟩
          · exact absurd e z8
          · exact h
        obtain ⟨κ, hκ, rfl⟩ : ∃ κ : Nat, κ < 3 ∧ z = nI κ := ⟨_, (idx_of (n := 3) z12 (fun h => i32_nlt (lt3 z17) h) (by decide)).2, (idx_of (n := 3) z12 (fun h => i32_nlt (lt3 z17) h) (by decide)).1⟩
        refine M.blk (is := [(.iload_n 3, 3, 0, 0)]) (pc1 := 25) (lo1 := [(0, .ref 100), (1, .int (nI k)), (2, .int (nI κ)), (3, .int y)]) (st1 := [.int y]) (w1 := (WX pgC pgL stC (nI sl) PA PS BA BS u)) (by decide +kernel) rfl ?_
        refine M.if_lt (off := 8) (tgt := 33) (nx := 28) (by decide +kernel) (fun z25 => ?_) (fun z25 => ?_)
        · refine M.blk (is := [(.sipush (-1002), 0, 0, (-1002))]) (pc1 := 36) (lo1 := [(0, .ref 100), (1, .int (nI k)), (2, .int (nI κ)), (3, .int y)]) (st1 := [.int (-1002)]) (w1 := (WX pgC pgL stC (nI sl) PA PS BA BS u)) (by decide +kernel) rfl ?_
          exact M.reti (nx := 37) (by decide +kernel) (Or.inr (Or.inl ⟨k, κ, hk, hκ, rfl, rfl, Or.inl z25, rfl, rfl⟩))
        · refine M.blk (is := [(.iload_n 3, 3, 0, 0), (.iconst 3, 0, 0, 3)]) (pc1 := 30) (lo1 := [(0, .ref 100), (1, .int (nI k)), (2, .int (nI κ)), (3, .int y)]) (st1 := [.int 3, .int y]) (w1 := (WX pgC pgL stC (nI sl) PA PS BA BS u)) (by decide +kernel) rfl ?_
          refine M.icmp_le (off := 7) (tgt := 37) (nx := 33) (by decide +kernel) (fun z30 => ?_) (fun z30 => ?_)
          · refine M.blk (is := [(.aload_n 0, 0, 0, 0), (.getfield 29, 3, 3, 0), (.aload_n 0, 0, 0, 0), (.getfield 22, 3, 2, 0), (.aload_n 0, 0, 0, 0), (.getfield 16, 3, 1, 0), (.iload_n 1, 1, 0, 0), (.iload_n 2, 2, 0, 0)]) (pc1 := 51) (lo1 := [(0, .ref 100), (1, .int (nI k)), (2, .int (nI κ)), (3, .int y)]) (st1 := [.int (nI κ), .int (nI k), .ref 103, .ref 105, .ref 113]) (w1 := (WX pgC pgL stC (nI sl) PA PS BA BS u)) (by decide +kernel) rfl ?_
            rw [← kI_nI hκ]
            refine M.callV (as := [.ref 105, .ref 103, .int (nI k), .int (kI κ)]) (st := []) (nx := 54) okX0_work lkX3_101 (x_work hsl (by omega) hbn (nI k)) (by decide +kernel) (by decide) rfl (Nat.le_of_ble_eq_true rfl) rfl (by decide) ⟨by decide, by decide⟩ ?_
            intro r0 w1 hq
            obtain ⟨rfl, BB, BT, rfl, hR⟩ := hq
            have g9 : BT 9 = nI (thr r c k) := hR.1.2.2.2.trans (pl_th hpl h25 hk)
            have hBn : BnOk PA PS stC sl BB BT := Or.inr ⟨κ, by omega, by rw [hR.1.1]; exact hR⟩
            unfold BnR at hR
            rw [pl_tau hpl h25 hk] at hR
            have gM : ∀ p, p < ptsN κ → BB 1 p = smM κ (tauG r c k) stC sl p := fun p hp => (hR.2.2.2.2 p hp).1
            have gF : ∀ p, p < ptsN κ → ¬ smM κ (tauG r c k) stC sl p = 0 → BB 2 p = smF κ (tauG r c k) stC sl p := fun p hp e => ((hR.2.2.2.2 p hp).2 e).1
            show g 0 0 54 [(0, .ref 100), (1, .int (nI k)), (2, .int (kI κ)), (3, .int y)] [] (WX pgC pgL stC (nI sl) PA PS BB BT u)
            refine M.blk (is := [(.iload_n 3, 3, 0, 0)]) (pc1 := 55) (lo1 := [(0, .ref 100), (1, .int (nI k)), (2, .int (kI κ)), (3, .int y)]) (st1 := [.int y]) (w1 := (WX pgC pgL stC (nI sl) PA PS BB BT u)) (by decide +kernel) rfl ?_
            refine M.tsw (dflt := 49) (a := 0) (b := 2) (offs := #[25, 33, 41]) (len := 25) (tg := [80, 88, 96]) (dt := 104) (by decide +kernel) (fun j t hj hx55 => ?_) (fun hx55 => ?_)
            · match j, hj, hx55 with
              | 0, hj, hx55 =>
                cases hj
                have hx55 : y = 0 := i32_of hx55 (by decide)
                subst hx55
                refine M.blk (is := [(.aload_n 0, 0, 0, 0), (.getfield 29, 3, 3, 0)]) (pc1 := 84) (lo1 := [(0, .ref 100), (1, .int (nI k)), (2, .int (kI κ)), (3, .int 0)]) (st1 := [.ref 113]) (w1 := (WX pgC pgL stC (nI sl) PA PS BB BT u)) (by decide +kernel) rfl ?_
                refine M.callVi (as := []) (st := []) (nx := 87) okX0_howMany lkX3_109 (x_howMany (BA := BB) (BS := BT) hR.1.2.1 (by omega) hR.1.2.2.1 g9 (thr_lt _ _ _) gM) (by decide +kernel) (by decide) rfl (Nat.le_of_ble_eq_true rfl) rfl (by decide) ?_
                exact M.reti (nx := 88) (by decide +kernel) (Or.inr (Or.inr ⟨k, κ, hk, hκ, rfl, rfl, fun e => e.elim z25 (fun e => i32_nlt e z30), rfl, BB, BT, rfl, hBn⟩))
              | 1, hj, hx55 =>
                cases hj
                have hx55 : y = 1 := i32_of hx55 (by decide)
                subst hx55
                refine M.blk (is := [(.aload_n 0, 0, 0, 0), (.getfield 29, 3, 3, 0)]) (pc1 := 92) (lo1 := [(0, .ref 100), (1, .int (nI k)), (2, .int (kI κ)), (3, .int 1)]) (st1 := [.ref 113]) (w1 := (WX pgC pgL stC (nI sl) PA PS BB BT u)) (by decide +kernel) rfl ?_
                refine M.callVi (as := []) (st := []) (nx := 95) okX0_howManyMissed lkX3_112 (x_howManyMissed (BA := BB) (BS := BT) hR.1.2.1 (by omega) hR.1.2.2.1 g9 (thr_lt _ _ _) gM) (by decide +kernel) (by decide) rfl (Nat.le_of_ble_eq_true rfl) rfl (by decide) ?_
                exact M.reti (nx := 96) (by decide +kernel) (Or.inr (Or.inr ⟨k, κ, hk, hκ, rfl, rfl, fun e => e.elim z25 (fun e => i32_nlt e z30), rfl, BB, BT, rfl, hBn⟩))
              | 2, hj, hx55 =>
                cases hj
                have hx55 : y = 2 := i32_of hx55 (by decide)
                subst hx55
                refine M.blk (is := [(.aload_n 0, 0, 0, 0), (.getfield 29, 3, 3, 0)]) (pc1 := 100) (lo1 := [(0, .ref 100), (1, .int (nI k)), (2, .int (kI κ)), (3, .int 2)]) (st1 := [.ref 113]) (w1 := (WX pgC pgL stC (nI sl) PA PS BB BT u)) (by decide +kernel) rfl ?_
                refine M.callVi (as := []) (st := []) (nx := 103) okX0_leastHidden lkX3_115 (x_leastHidden (BA := BB) (BS := BT) hR.1.2.1 (by omega) hR.1.2.2.1 g9 (thr_lt _ _ _) gM) (by decide +kernel) (by decide) rfl (Nat.le_of_ble_eq_true rfl) rfl (by decide) ?_
                exact M.reti (nx := 104) (by decide +kernel) (Or.inr (Or.inr ⟨k, κ, hk, hκ, rfl, rfl, fun e => e.elim z25 (fun e => i32_nlt e z30), by rw [hR.1.1]; rfl, BB, BT, rfl, hBn⟩))
              | j + 3, hj, _ => exact absurd hj (by simp)
            · refine M.blk (is := [(.aload_n 0, 0, 0, 0), (.getfield 29, 3, 3, 0)]) (pc1 := 108) (lo1 := [(0, .ref 100), (1, .int (nI k)), (2, .int (kI κ)), (3, .int y)]) (st1 := [.ref 113]) (w1 := (WX pgC pgL stC (nI sl) PA PS BB BT u)) (by decide +kernel) rfl ?_
              refine M.callVi (as := []) (st := []) (nx := 111) okX0_latestFirst lkX3_118 (x_latestFirst (BA := BB) (BS := BT) hR.1.2.1 (by omega) hR.1.2.2.1 g9 (thr_lt _ _ _) gM gF) (by decide +kernel) (by decide) rfl (Nat.le_of_ble_eq_true rfl) rfl (by decide) ?_
              exact M.reti (nx := 112) (by decide +kernel) (Or.inr (Or.inr ⟨k, κ, hk, hκ, rfl, rfl, fun e => e.elim z25 (fun e => i32_nlt e z30), by rw [fdF, fd_out hx55], BB, BT, rfl, hBn⟩))
          · refine M.blk (is := [(.sipush (-1002), 0, 0, (-1002))]) (pc1 := 36) (lo1 := [(0, .ref 100), (1, .int (nI k)), (2, .int (nI κ)), (3, .int y)]) (st1 := [.int (-1002)]) (w1 := (WX pgC pgL stC (nI sl) PA PS BA BS u)) (by decide +kernel) rfl ?_
            exact M.reti (nx := 37) (by decide +kernel) (Or.inr (Or.inl ⟨k, κ, hk, hκ, rfl, rfl, Or.inr (i32_nle z30), rfl, rfl⟩))
      · refine M.blk (is := [(.sipush (-1001), 0, 0, (-1001))]) (pc1 := 23) (lo1 := [(0, .ref 100), (1, .int x), (2, .int z), (3, .int y)]) (st1 := [.int (-1001)]) (w1 := (WX pgC pgL stC (nI sl) PA PS BA BS u)) (by decide +kernel) rfl ?_
        exact M.reti (nx := 24) (by decide +kernel) (Or.inl ⟨fun k κ hk hκ e => z17 (by rw [e.2]; exact nI_le (b := 2) (by omega) (by decide)), rfl, rfl⟩)
theorem x_seen {sl : Nat} (hsl : sl ≤ 64) {r c f h t : Nat} (hgeo : GeoOk r c f h t) (hpl : PlOk r c f h t PA PS) (hbn : BnOk PA PS stC sl BA BS) (x : Int32) : CC 4 mX3_seen 0 0 [.ref 100, .int x] (WX pgC pgL stC (nI sl) PA PS BA BS u) (fun r0 w1 => ((∀ k, k < r * c → ¬ x = nI k) ∧ r0 = some (.int (-1001)) ∧ w1 = (WX pgC pgL stC (nI sl) PA PS BA BS u)) ∨ (∃ k, k < r * c ∧ x = nI k ∧ r0 = some (.int (smS 3 0 (tauG r c k) stC sl).2.2.1) ∧ ∃ BB BT, w1 = WX pgC pgL stC (nI sl) PA PS BB BT u ∧ BnOk PA PS stC sl BB BT)) := by
  have h25 : r * c ≤ 25 := Nat.mul_le_mul hgeo.1.2 hgeo.2.1.2
  have h9a : 9 ≤ r * c := Nat.mul_le_mul hgeo.1.1 hgeo.2.1.1
  refine CC.of okX3_seen.1 (Nat.le_of_ble_eq_true rfl) (fun g M => ?_)
  have hcs := hasF_cases PS x hpl.1.2.2.1 h25
  show g 0 0 0 [(0, .ref 100), (1, .int x)] [] (WX pgC pgL stC (nI sl) PA PS BA BS u)
  refine M.blk (is := [(.aload_n 0, 0, 0, 0), (.getfield 22, 3, 2, 0), (.iload_n 1, 1, 0, 0)]) (pc1 := 5) (lo1 := [(0, .ref 100), (1, .int x)]) (st1 := [.int x, .ref 105]) (w1 := (WX pgC pgL stC (nI sl) PA PS BA BS u)) (by decide +kernel) rfl ?_
  refine M.callVi (as := [.int x]) (st := []) (nx := 8) okX1_has lkX3_78 (x_has x) (by decide +kernel) (by decide) rfl (Nat.le_of_ble_eq_true rfl) rfl (by decide) ?_
  refine M.if_ne (off := 7) (tgt := 15) (nx := 11) (by decide +kernel) (fun z8 => ?_) (fun z8 => ?_)
  · obtain ⟨k, hk, rfl⟩ : ∃ k, k < r * c ∧ x = nI k := by
      rcases hcs with ⟨e, _⟩ | ⟨_, h⟩
      · exact absurd e z8
      · exact h
    refine M.blk (is := [(.aload_n 0, 0, 0, 0), (.getfield 29, 3, 3, 0), (.aload_n 0, 0, 0, 0), (.getfield 22, 3, 2, 0), (.aload_n 0, 0, 0, 0), (.getfield 16, 3, 1, 0), (.iload_n 1, 1, 0, 0), (.iconst (-1), 0, 0, (-1))]) (pc1 := 29) (lo1 := [(0, .ref 100), (1, .int (nI k))]) (st1 := [.int (-1), .int (nI k), .ref 103, .ref 105, .ref 113]) (w1 := (WX pgC pgL stC (nI sl) PA PS BA BS u)) (by decide +kernel) rfl ?_
    refine M.callV (as := [.ref 105, .ref 103, .int (nI k), .int (-1)]) (st := []) (nx := 32) okX0_work lkX3_101 (x_work (κ := 3) hsl (by omega) hbn (nI k)) (by decide +kernel) (by decide) rfl (Nat.le_of_ble_eq_true rfl) rfl (by decide) ⟨by decide, by decide⟩ ?_
    intro r0 w1 hq
    obtain ⟨rfl, BB, BT, rfl, hR⟩ := hq
    have hBn : BnOk PA PS stC sl BB BT := Or.inr ⟨3, by omega, by rw [hR.1.1]; exact hR⟩
    unfold BnR at hR
    rw [pl_tau hpl h25 hk] at hR
    show g 0 0 32 [(0, .ref 100), (1, .int (nI k))] [] (WX pgC pgL stC (nI sl) PA PS BB BT u)
    refine M.blk (is := [(.aload_n 0, 0, 0, 0), (.getfield 29, 3, 3, 0), (.getfield 121, 0, 12, 0)]) (pc1 := 39) (lo1 := [(0, .ref 100), (1, .int (nI k))]) (st1 := [.int (BT 12)]) (w1 := (WX pgC pgL stC (nI sl) PA PS BB BT u)) (by decide +kernel) rfl ?_
    exact M.reti (nx := 40) (by decide +kernel) (Or.inr ⟨k, hk, rfl, by rw [hR.2.2.1 0], BB, BT, rfl, hBn⟩)
  · refine M.blk (is := [(.sipush (-1001), 0, 0, (-1001))]) (pc1 := 14) (lo1 := [(0, .ref 100), (1, .int x)]) (st1 := [.int (-1001)]) (w1 := (WX pgC pgL stC (nI sl) PA PS BA BS u)) (by decide +kernel) rfl ?_
    exact M.reti (nx := 15) (by decide +kernel) (Or.inl ⟨fun k hk e => by rw [e, hasF_nI hpl.1.2.2.1 h25 hk] at z8; exact absurd z8 (by decide), rfl, rfl⟩)
end RUN
end
section
section COUNT
variable {pgC : Nat → Int32} {pgL : Int32} {stC : Nat → Int32} {stL : Int32} {PA : Nat → Nat → Int32} {PS : Nat → Int32} {BA : Nat → Nat → Int32} {BS : Nat → Int32} {u : List Cl}
def usI (x n : Int32) : Int32 := (x.toUInt32 >>> (n.toUInt32 &&& Int32.toUInt32 31)).toInt32
def bc1 (x : Int32) : Int32 := x - (usI x 1 &&& 1431655765)
def bc2 (x : Int32) : Int32 := (x &&& 858993459) + (usI x 2 &&& 858993459)
def bc3 (x : Int32) : Int32 := (x + usI x 4) &&& 252645135
def bcF (x : Int32) : Int32 := (bc3 (bc2 (bc1 x)) + usI (bc3 (bc2 (bc1 x))) 8 + usI (bc3 (bc2 (bc1 x)) + usI (bc3 (bc2 (bc1 x))) 8) 16) &&& 63
def cnT (c t m : Nat) : Nat := match m with
  | 0 => 0
  | m + 1 => cnT c t m + (if tyN c m = t then 1 else 0)
theorem cnT_le (c t m : Nat) : cnT c t m ≤ m := by
  induction m with
  | zero => exact Nat.le_refl _
  | succ m ih => unfold cnT; split <;> omega
theorem bc_ok : ∀ (r c : Fin 6) (t : Fin 5), 3 ≤ r.val → 3 ≤ c.val → bcF (nI (mkT c.val t.val (r.val * c.val))) = nI (cnT c.val t.val (r.val * c.val)) := by decide +kernel
def figT (s : Int32) : Nat := (s - 48).toNatClampNeg
def opN (r c : Nat) (C : Nat → Int32) (j : Nat) : Nat := match j with
  | 0 => 0
  | j + 1 => opN r c C j + (if figF (C j) = 0 then r * c else cnT c (figT (C j)) (r * c))
theorem opN_le {r c : Nat} (h25 : r * c ≤ 25) (C : Nat → Int32) (j : Nat) : opN r c C j ≤ 25 * j := by
  induction j with
  | zero => exact Nat.le_refl _
  | succ j ih =>
    unfold opN
    have := cnT_le c (figT (C j)) (r * c)
    split <;> omega
def boN (n : Nat) : Nat := 33 * n + 31 * (n / 5)
def whC (r c : Nat) (C : Nat → Int32) (sl m : Nat) : Nat := match m with
  | 0 => 0
  | m + 1 => whC r c C sl m + (if (smS 3 0 (tauG r c m) C sl).2.2.1 &&& dueA (thr r c m) 16 = dueA (thr r c m) 16 then 1 else 0)
theorem fig_idx {s : Int32} (h : ¬ figF s = 0) : s - 48 = nI (figT s) ∧ figT s < 5 := by
  unfold figF at h
  split at h
  · exact absurd rfl h
  · rename_i h1
    split at h
    · exact absurd rfl h
    · rename_i h2
      unfold figT
      have e1 : (48 : Int32).toInt = 48 := by decide
      have e2 : (53 : Int32).toInt = 53 := by decide
      rw [Int32.lt_iff_toInt_lt] at h1
      rw [Int32.le_iff_toInt_le] at h2
      have e3 : (s - 48).toInt = s.toInt - 48 := by
        rw [Int32.toInt_sub, e1]
        exact Int.bmod_eq_of_le (by omega) (by omega)
      refine idx_of (n := 5) ?_ ?_ (by decide)
      · rw [Int32.lt_iff_toInt_lt, e3]
        have : (0 : Int32).toInt = 0 := by decide
        omega
      · rw [Int32.le_iff_toInt_le, e3]
        have : (nI 5).toInt = 5 := by decide
        omega
theorem ct_nI {r c f h t : Nat} {PA : Nat → Nat → Int32} {PS : Nat → Int32} (hgeo : GeoOk r c f h t) (hp : PlOk r c f h t PA PS) {s : Int32} (hs : ¬ figF s = 0) : ctF PA (s - 48) = nI (mkT c (figT s) (r * c)) ∧ bcF (ctF PA (s - 48)) = nI (cnT c (figT s) (r * c)) := by
  obtain ⟨h1, h2⟩ := fig_idx hs
  have e : ctF PA (s - 48) = nI (mkT c (figT s) (r * c)) := by
    rw [h1]
    unfold ctF
    rw [if_neg (nI_pos (by omega)), if_neg (show ¬ (5 : Int32) ≤ nI (figT s) from nI_ge (b := 5) h2 (by decide)), nI_clamp (by omega)]
    exact hp.2.1.2 _ h2
  refine ⟨e, ?_⟩
  rw [e]
  exact bc_ok ⟨r, by have := hgeo.1.2; omega⟩ ⟨c, by have := hgeo.2.1.2; omega⟩ ⟨figT s, h2⟩ hgeo.1.1 hgeo.2.1.1
theorem s_bitCount (w0 : Wd) (x : Int32) : CC 0 mJ6_bitCount_0f7a4 0 0 [.int x] w0 (Rt (bcF x) w0) := by
  refine CC.of okJ6_bitCount_0f7a4.1 (Nat.le_of_ble_eq_true rfl) (fun g M => ?_)
  show g 0 0 0 [(0, .int x)] [] w0
  refine M.blk (is := [(.iload_n 0, 0, 0, 0), (.iload_n 0, 0, 0, 0), (.iconst 1, 0, 0, 1), (.iushr, 0, 0, 0)]) (pc1 := 4) (lo1 := [(0, .int x)]) (st1 := [.int ((x.toUInt32 >>> ((1 : Int32).toUInt32 &&& Int32.toUInt32 31)).toInt32), .int x]) (w1 := w0) (by decide +kernel) rfl ?_
  refine M.ldi (v := 1431655765) (idx := 265) (nx := 7) (by decide +kernel) (lw_in 456 (by decide +kernel) (by decide +kernel)) ?_
  refine M.blk (is := [(.iand, 0, 0, 0), (.isub, 0, 0, 0), (.istore_n 0, 0, 0, 0)]) (pc1 := 10) (lo1 := [(0, .int (x - (((x.toUInt32 >>> ((1 : Int32).toUInt32 &&& Int32.toUInt32 31)).toInt32) &&& 1431655765)))]) (st1 := []) (w1 := w0) (by decide +kernel) rfl ?_
  have ha : x - (((x.toUInt32 >>> ((1 : Int32).toUInt32 &&& Int32.toUInt32 31)).toInt32) &&& 1431655765) = bc1 x := rfl
  rw [ha]
  generalize ea : bc1 x = a
  refine M.blk (is := [(.iload_n 0, 0, 0, 0)]) (pc1 := 11) (lo1 := [(0, .int a)]) (st1 := [.int a]) (w1 := w0) (by decide +kernel) rfl ?_
  refine M.ldi (v := 858993459) (idx := 266) (nx := 14) (by decide +kernel) (lw_in 457 (by decide +kernel) (by decide +kernel)) ?_
  refine M.blk (is := [(.iand, 0, 0, 0), (.iload_n 0, 0, 0, 0), (.iconst 2, 0, 0, 2), (.iushr, 0, 0, 0)]) (pc1 := 18) (lo1 := [(0, .int a)]) (st1 := [.int ((a.toUInt32 >>> ((2 : Int32).toUInt32 &&& Int32.toUInt32 31)).toInt32), .int (a &&& 858993459)]) (w1 := w0) (by decide +kernel) rfl ?_
  refine M.ldi (v := 858993459) (idx := 266) (nx := 21) (by decide +kernel) (lw_in 457 (by decide +kernel) (by decide +kernel)) ?_
  refine M.blk (is := [(.iand, 0, 0, 0), (.iadd, 0, 0, 0), (.istore_n 0, 0, 0, 0)]) (pc1 := 24) (lo1 := [(0, .int ((a &&& 858993459) + (((a.toUInt32 >>> ((2 : Int32).toUInt32 &&& Int32.toUInt32 31)).toInt32) &&& 858993459)))]) (st1 := []) (w1 := w0) (by decide +kernel) rfl ?_
  have hb : (a &&& 858993459) + (((a.toUInt32 >>> ((2 : Int32).toUInt32 &&& Int32.toUInt32 31)).toInt32) &&& 858993459) = bc2 a := rfl
  rw [hb]
  generalize eb : bc2 a = b
  refine M.blk (is := [(.iload_n 0, 0, 0, 0), (.iload_n 0, 0, 0, 0), (.iconst 4, 0, 0, 4), (.iushr, 0, 0, 0), (.iadd, 0, 0, 0)]) (pc1 := 29) (lo1 := [(0, .int b)]) (st1 := [.int (b + ((b.toUInt32 >>> ((4 : Int32).toUInt32 &&& Int32.toUInt32 31)).toInt32))]) (w1 := w0) (by decide +kernel) rfl ?_
  refine M.ldi (v := 252645135) (idx := 267) (nx := 32) (by decide +kernel) (lw_in 458 (by decide +kernel) (by decide +kernel)) ?_
  refine M.blk (is := [(.iand, 0, 0, 0), (.istore_n 0, 0, 0, 0)]) (pc1 := 34) (lo1 := [(0, .int ((b + ((b.toUInt32 >>> ((4 : Int32).toUInt32 &&& Int32.toUInt32 31)).toInt32)) &&& 252645135))]) (st1 := []) (w1 := w0) (by decide +kernel) rfl ?_
  have hc : (b + ((b.toUInt32 >>> ((4 : Int32).toUInt32 &&& Int32.toUInt32 31)).toInt32)) &&& 252645135 = bc3 b := rfl
  rw [hc]
  generalize ec : bc3 b = c
  refine M.blk (is := [(.iload_n 0, 0, 0, 0), (.iload_n 0, 0, 0, 0), (.bipush 8, 0, 0, 8), (.iushr, 0, 0, 0), (.iadd, 0, 0, 0), (.istore_n 0, 0, 0, 0)]) (pc1 := 41) (lo1 := [(0, .int (c + ((c.toUInt32 >>> ((8 : Int32).toUInt32 &&& Int32.toUInt32 31)).toInt32)))]) (st1 := []) (w1 := w0) (by decide +kernel) rfl ?_
  have hd : c + ((c.toUInt32 >>> ((8 : Int32).toUInt32 &&& Int32.toUInt32 31)).toInt32) = c + usI c 8 := rfl
  rw [hd]
  generalize ed : c + usI c 8 = d
  refine M.blk (is := [(.iload_n 0, 0, 0, 0), (.iload_n 0, 0, 0, 0), (.bipush 16, 0, 0, 16), (.iushr, 0, 0, 0), (.iadd, 0, 0, 0), (.istore_n 0, 0, 0, 0)]) (pc1 := 48) (lo1 := [(0, .int (d + ((d.toUInt32 >>> ((16 : Int32).toUInt32 &&& Int32.toUInt32 31)).toInt32)))]) (st1 := []) (w1 := w0) (by decide +kernel) rfl ?_
  have he : d + ((d.toUInt32 >>> ((16 : Int32).toUInt32 &&& Int32.toUInt32 31)).toInt32) = d + usI d 16 := rfl
  rw [he]
  generalize ee : d + usI d 16 = e
  refine M.blk (is := [(.iload_n 0, 0, 0, 0), (.bipush 63, 0, 0, 63), (.iand, 0, 0, 0)]) (pc1 := 52) (lo1 := [(0, .int e)]) (st1 := [.int (e &&& 63)]) (w1 := w0) (by decide +kernel) rfl ?_
  exact M.reti (nx := 53) (by decide +kernel) ⟨by subst ee ed ec eb ea; rfl, rfl⟩
theorem x_ops {sl : Nat} (hsl : sl ≤ 64) {r c f h t : Nat} (hgeo : GeoOk r c f h t) (hpl : PlOk r c f h t PA PS) : CC 1 mX3_ops 0 0 [.ref 100] (WX pgC pgL stC (nI sl) PA PS BA BS u) (Rt (nI (opN r c stC sl)) (WX pgC pgL stC (nI sl) PA PS BA BS u)) := by
  have h25 : r * c ≤ 25 := Nat.mul_le_mul hgeo.1.2 hgeo.2.1.2
  have h9a : 9 ≤ r * c := Nat.mul_le_mul hgeo.1.1 hgeo.2.1.1
  refine CC.of okX3_ops.1 (Nat.le_of_ble_eq_true rfl) (fun g M => ?_)
  have lp : ∀ m j, j + m = sl → g 0 0 4 [(0, .ref 100), (1, .int (nI (opN r c stC j))), (2, .int (nI j))] [] (WX pgC pgL stC (nI sl) PA PS BA BS u) := by
    intro m
    induction m with
    | zero =>
      intro j hj
      have ej : sl = j := by omega
      subst ej
      refine M.blk (is := [(.iload_n 2, 2, 0, 0), (.aload_n 0, 0, 0, 0), (.getfield 16, 3, 1, 0), (.getfield 33, 2, 1, 0)]) (pc1 := 12) (lo1 := [(0, .ref 100), (1, .int (nI (opN r c stC sl))), (2, .int (nI sl))]) (st1 := [.int (nI sl), .int (nI sl)]) (w1 := (WX pgC pgL stC (nI sl) PA PS BA BS u)) (by decide +kernel) rfl ?_
      refine M.icmp_ge (off := 52) (tgt := 64) (nx := 15) (by decide +kernel) (fun z12 => ?_) (fun z12 => by exfalso; exact z12 (nI_le (Nat.le_refl _) (by omega)))
      refine M.blk (is := [(.iload_n 1, 1, 0, 0)]) (pc1 := 65) (lo1 := [(0, .ref 100), (1, .int (nI (opN r c stC sl))), (2, .int (nI sl))]) (st1 := [.int (nI (opN r c stC sl))]) (w1 := (WX pgC pgL stC (nI sl) PA PS BA BS u)) (by decide +kernel) rfl ?_
      exact M.reti (nx := 66) (by decide +kernel) ⟨rfl, rfl⟩
    | succ m ih =>
      intro j hj
      refine M.blk (is := [(.iload_n 2, 2, 0, 0), (.aload_n 0, 0, 0, 0), (.getfield 16, 3, 1, 0), (.getfield 33, 2, 1, 0)]) (pc1 := 12) (lo1 := [(0, .ref 100), (1, .int (nI (opN r c stC j))), (2, .int (nI j))]) (st1 := [.int (nI sl), .int (nI j)]) (w1 := (WX pgC pgL stC (nI sl) PA PS BA BS u)) (by decide +kernel) rfl ?_
      refine M.icmp_ge (off := 52) (tgt := 64) (nx := 15) (by decide +kernel) (fun z12 => by exfalso; exact nI_ge (show j < sl by omega) (by omega) z12) (fun z12 => ?_)
      refine M.blk (is := [(.aload_n 0, 0, 0, 0), (.getfield 16, 3, 1, 0), (.iload_n 2, 2, 0, 0)]) (pc1 := 20) (lo1 := [(0, .ref 100), (1, .int (nI (opN r c stC j))), (2, .int (nI j))]) (st1 := [.int (nI j), .ref 103]) (w1 := (WX pgC pgL stC (nI sl) PA PS BA BS u)) (by decide +kernel) rfl ?_
      refine M.callVi (as := [.int (nI j)]) (st := []) (nx := 23) okX2_get lkX3_44 (x_get3 (nI j)) (by decide +kernel) (by decide) rfl (Nat.le_of_ble_eq_true rfl) rfl (by decide) ?_
      rw [sGet_nI hsl (show j < sl by omega)]
      refine M.blk (is := [(.istore_n 3, 3, 0, 0), (.iload_n 1, 1, 0, 0), (.iload_n 3, 3, 0, 0)]) (pc1 := 26) (lo1 := [(3, .int (stC j)), (0, .ref 100), (1, .int (nI (opN r c stC j))), (2, .int (nI j))]) (st1 := [.int (stC j), .int (nI (opN r c stC j))]) (w1 := (WX pgC pgL stC (nI sl) PA PS BA BS u)) (by decide +kernel) rfl ?_
      refine M.callSi (as := [.int (stC j)]) (st := [.int (nI (opN r c stC j))]) (nx := 29) okX3_isFigure lkX3_185 (s_isFigure (WX pgC pgL stC (nI sl) PA PS BA BS u) (stC j)) (by decide +kernel) (by decide) rfl (Nat.le_of_ble_eq_true rfl) ?_
      have j29 : ∀ b29 : Int32, b29 = (if figF (stC j) = 0 then (PS 9 : Int32) else bcF (ctF PA ((stC j) - 48))) → g 0 0 56 [(3, .int (stC j)), (0, .ref 100), (1, .int (nI (opN r c stC j))), (2, .int (nI j))] [.int b29, .int (nI (opN r c stC j))] (WX pgC pgL stC (nI sl) PA PS BA BS u) := by
        intro b29 hb29
        refine M.blk (is := [(.iadd, 0, 0, 0), (.istore_n 1, 1, 0, 0), (.iinc 2 1, 2, 0, 1), (.goto (-57), 4, 0, 0)]) (pc1 := 4) (lo1 := [(2, .int ((nI j) + 1)), (1, .int ((nI (opN r c stC j)) + b29)), (3, .int (stC j)), (0, .ref 100)]) (st1 := []) (w1 := (WX pgC pgL stC (nI sl) PA PS BA BS u)) (by decide +kernel) rfl ?_
        refine M.lsub [3, 1, 0] (lo1 := [(0, .ref 100), (1, .int ((nI (opN r c stC j)) + b29)), (2, .int ((nI j) + 1))]) rfl ?_
        have e := ih (j + 1) (by omega)
        rw [show opN r c stC (j + 1) = opN r c stC j + (if figF (stC j) = 0 then r * c else cnT c (figT (stC j)) (r * c)) from rfl] at e
        have eb : b29 = nI (if figF (stC j) = 0 then r * c else cnT c (figT (stC j)) (r * c)) := by
          rw [hb29]
          by_cases hf : figF (stC j) = 0
          · rw [if_pos hf, if_pos hf, hpl.1.2.2.1]
          · rw [if_neg hf, if_neg hf, (ct_nI hgeo hpl hf).2]
        rw [nI_1, eb, nI_add]
        exact e
      refine M.if_eq (off := 20) (tgt := 49) (nx := 32) (by decide +kernel) (fun z29 => ?_) (fun z29 => ?_)
      · refine M.blk (is := [(.aload_n 0, 0, 0, 0), (.getfield 22, 3, 2, 0), (.getfield 68, 1, 9, 0)]) (pc1 := 56) (lo1 := [(3, .int (stC j)), (0, .ref 100), (1, .int (nI (opN r c stC j))), (2, .int (nI j))]) (st1 := [.int (PS 9), .int (nI (opN r c stC j))]) (w1 := (WX pgC pgL stC (nI sl) PA PS BA BS u)) (by decide +kernel) rfl ?_
        exact j29 _ (if_pos z29).symm
      · refine M.blk (is := [(.aload_n 0, 0, 0, 0), (.getfield 22, 3, 2, 0), (.iload_n 3, 3, 0, 0), (.bipush 48, 0, 0, 48), (.isub, 0, 0, 0)]) (pc1 := 40) (lo1 := [(3, .int (stC j)), (0, .ref 100), (1, .int (nI (opN r c stC j))), (2, .int (nI j))]) (st1 := [.int ((stC j) - 48), .ref 105, .int (nI (opN r c stC j))]) (w1 := (WX pgC pgL stC (nI sl) PA PS BA BS u)) (by decide +kernel) rfl ?_
        refine M.callVi (as := [.int ((stC j) - 48)]) (st := [.int (nI (opN r c stC j))]) (nx := 43) okX1_cellsOfType lkX3_212 (x_cellsOfType ((stC j) - 48)) (by decide +kernel) (by decide) rfl (Nat.le_of_ble_eq_true rfl) rfl (by decide) ?_
        refine M.callSi (as := [.int (ctF PA ((stC j) - 48))]) (st := [.int (nI (opN r c stC j))]) (nx := 46) okJ6_bitCount_0f7a4 lkX3_215 (s_bitCount (WX pgC pgL stC (nI sl) PA PS BA BS u) (ctF PA ((stC j) - 48))) (by decide +kernel) (by decide) rfl (Nat.le_of_ble_eq_true rfl) ?_
        refine M.blk (is := [(.goto 10, 56, 0, 0)]) (pc1 := 56) (lo1 := [(3, .int (stC j)), (0, .ref 100), (1, .int (nI (opN r c stC j))), (2, .int (nI j))]) (st1 := [.int (bcF (ctF PA ((stC j) - 48))), .int (nI (opN r c stC j))]) (w1 := (WX pgC pgL stC (nI sl) PA PS BA BS u)) (by decide +kernel) rfl ?_
        exact j29 _ (if_neg z29).symm
  show g 0 0 0 [(0, .ref 100)] [] (WX pgC pgL stC (nI sl) PA PS BA BS u)
  refine M.blk (is := [(.iconst 0, 0, 0, 0), (.istore_n 1, 1, 0, 0), (.iconst 0, 0, 0, 0), (.istore_n 2, 2, 0, 0)]) (pc1 := 4) (lo1 := [(2, .int 0), (1, .int 0), (0, .ref 100)]) (st1 := []) (w1 := (WX pgC pgL stC (nI sl) PA PS BA BS u)) (by decide +kernel) rfl ?_
  refine M.lsub [2, 1, 0] (lo1 := [(0, .ref 100), (1, .int 0), (2, .int 0)]) rfl ?_
  exact lp sl 0 (by omega)
theorem bo_nI {n : Nat} (h : n ≤ 25) : (33 : Int32) * nI n + 31 * (nI n / 5) = nI (boN n) := by
  rw [show nI n / 5 = nI (n / 5) from pk_div (a := n) (d := 5) (by omega) (by decide) (by decide), show (33 : Int32) = nI 33 from rfl, show (31 : Int32) = nI 31 from rfl, pk_mul, pk_mul, nI_add]
  rfl
theorem x_bound {sl : Nat} {r c f h t : Nat} (hgeo : GeoOk r c f h t) (hpl : PlOk r c f h t PA PS) : CC 0 mX3_bound 0 0 [.ref 100] (WX pgC pgL stC (nI sl) PA PS BA BS u) (Rt (nI (boN (r * c))) (WX pgC pgL stC (nI sl) PA PS BA BS u)) := by
  have h25 : r * c ≤ 25 := Nat.mul_le_mul hgeo.1.2 hgeo.2.1.2
  have h9a : 9 ≤ r * c := Nat.mul_le_mul hgeo.1.1 hgeo.2.1.1
  refine CC.of okX3_bound.1 (Nat.le_of_ble_eq_true rfl) (fun g M => ?_)
  show g 0 0 0 [(0, .ref 100)] [] (WX pgC pgL stC (nI sl) PA PS BA BS u)
  refine M.blk (is := [(.bipush 33, 0, 0, 33), (.aload_n 0, 0, 0, 0), (.getfield 22, 3, 2, 0), (.getfield 68, 1, 9, 0), (.imul, 0, 0, 0), (.bipush 31, 0, 0, 31), (.aload_n 0, 0, 0, 0), (.getfield 22, 3, 2, 0), (.getfield 68, 1, 9, 0), (.iconst 5, 0, 0, 5)]) (pc1 := 20) (lo1 := [(0, .ref 100)]) (st1 := [.int 5, .int (PS 9), .int 31, .int (33 * (PS 9))]) (w1 := (WX pgC pgL stC (nI sl) PA PS BA BS u)) (by decide +kernel) rfl ?_
  refine M.idv (nx := 21) (by decide +kernel) (by decide) ?_
  refine M.blk (is := [(.imul, 0, 0, 0), (.iadd, 0, 0, 0)]) (pc1 := 23) (lo1 := [(0, .ref 100)]) (st1 := [.int ((33 * (PS 9)) + (31 * ((PS 9) / 5)))]) (w1 := (WX pgC pgL stC (nI sl) PA PS BA BS u)) (by decide +kernel) rfl ?_
  exact M.reti (nx := 24) (by decide +kernel) ⟨by rw [hpl.1.2.2.1, bo_nI h25], rfl⟩
theorem x_lowered {sl : Nat} (hsl : sl ≤ 64) {r c f h t : Nat} (hgeo : GeoOk r c f h t) (hpl : PlOk r c f h t PA PS) {a : Nat} (ha : a < 2147483648) : CC 2 mX3_lowered 0 0 [.ref 100, .int (nI a)] (WX pgC pgL stC (nI sl) PA PS BA BS u) (Rt (nI (a / (Nat.gcd (boN (r * c)) (opN r c stC sl)))) (WX pgC pgL stC (nI sl) PA PS BA BS u)) := by
  have h25 : r * c ≤ 25 := Nat.mul_le_mul hgeo.1.2 hgeo.2.1.2
  have h9a : 9 ≤ r * c := Nat.mul_le_mul hgeo.1.1 hgeo.2.1.1
  have hop := opN_le h25 stC sl
  have hbo : 0 < boN (r * c) ∧ boN (r * c) < 2147483648 := by unfold boN; omega
  have hg1 : 0 < Nat.gcd (boN (r * c)) (opN r c stC sl) := Nat.gcd_pos_of_pos_left _ hbo.1
  have hg2 : Nat.gcd (boN (r * c)) (opN r c stC sl) ≤ boN (r * c) := Nat.gcd_le_left _ hbo.1
  refine CC.of okX3_lowered.1 (Nat.le_of_ble_eq_true rfl) (fun g M => ?_)
  show g 0 0 0 [(0, .ref 100), (1, .int (nI a))] [] (WX pgC pgL stC (nI sl) PA PS BA BS u)
  refine M.blk (is := [(.aload_n 0, 0, 0, 0)]) (pc1 := 1) (lo1 := [(0, .ref 100), (1, .int (nI a))]) (st1 := [.ref 100]) (w1 := (WX pgC pgL stC (nI sl) PA PS BA BS u)) (by decide +kernel) rfl ?_
  refine M.callVi (as := []) (st := []) (nx := 4) okX3_bound lkX3_145 (x_bound hgeo hpl) (by decide +kernel) (by decide) rfl (Nat.le_of_ble_eq_true rfl) rfl (by decide) ?_
  refine M.blk (is := [(.aload_n 0, 0, 0, 0)]) (pc1 := 5) (lo1 := [(0, .ref 100), (1, .int (nI a))]) (st1 := [.ref 100, .int (nI (boN (r * c)))]) (w1 := (WX pgC pgL stC (nI sl) PA PS BA BS u)) (by decide +kernel) rfl ?_
  refine M.callVi (as := []) (st := [.int (nI (boN (r * c)))]) (nx := 8) okX3_ops lkX3_139 (x_ops hsl hgeo hpl) (by decide +kernel) (by decide) rfl (Nat.le_of_ble_eq_true rfl) rfl (by decide) ?_
  refine M.callSi (as := [.int (nI (boN (r * c))), .int (nI (opN r c stC sl))]) (st := []) (nx := 11) okX3_commonDivisor lkX3_218 (s_commonDivisor (WX pgC pgL stC (nI sl) PA PS BA BS u) (a := boN (r * c)) (b := opN r c stC sl) hbo.2 (by omega)) (by decide +kernel) (by decide) rfl (Nat.le_of_ble_eq_true rfl) ?_
  refine M.blk (is := [(.istore_n 2, 2, 0, 0), (.iload_n 2, 2, 0, 0), (.iconst 1, 0, 0, 1)]) (pc1 := 14) (lo1 := [(2, .int (nI (Nat.gcd (boN (r * c)) (opN r c stC sl)))), (0, .ref 100), (1, .int (nI a))]) (st1 := [.int 1, .int (nI (Nat.gcd (boN (r * c)) (opN r c stC sl)))]) (w1 := (WX pgC pgL stC (nI sl) PA PS BA BS u)) (by decide +kernel) rfl ?_
  refine M.icmp_ge (off := 7) (tgt := 21) (nx := 17) (by decide +kernel) (fun z14 => ?_) (fun z14 => by exfalso; exact z14 (nI_le (a := 1) hg1 (by omega)))
  refine M.blk (is := [(.iload_n 1, 1, 0, 0), (.iload_n 2, 2, 0, 0)]) (pc1 := 23) (lo1 := [(2, .int (nI (Nat.gcd (boN (r * c)) (opN r c stC sl)))), (0, .ref 100), (1, .int (nI a))]) (st1 := [.int (nI (Nat.gcd (boN (r * c)) (opN r c stC sl))), .int (nI a)]) (w1 := (WX pgC pgL stC (nI sl) PA PS BA BS u)) (by decide +kernel) rfl ?_
  refine M.idv (nx := 24) (by decide +kernel) (nI_ne0 hg1 (by omega)) ?_
  exact M.reti (nx := 25) (by decide +kernel) ⟨by rw [pk_div ha hg1 (by omega)], rfl⟩
theorem x_cellsSeenWhole {sl : Nat} (hsl : sl ≤ 64) {r c f h t : Nat} (hgeo : GeoOk r c f h t) (hpl : PlOk r c f h t PA PS) (hbn : BnOk PA PS stC sl BA BS) : CC 4 mX3_cellsSeenWhole 0 0 [.ref 100] (WX pgC pgL stC (nI sl) PA PS BA BS u) (fun r0 w1 => r0 = some (.int (nI (whC r c stC sl (r * c)))) ∧ ∃ BB BT, w1 = WX pgC pgL stC (nI sl) PA PS BB BT u ∧ BnOk PA PS stC sl BB BT) := by
  have h25 : r * c ≤ 25 := Nat.mul_le_mul hgeo.1.2 hgeo.2.1.2
  have h9a : 9 ≤ r * c := Nat.mul_le_mul hgeo.1.1 hgeo.2.1.1
  refine CC.of okX3_cellsSeenWhole.1 (Nat.le_of_ble_eq_true rfl) (fun g M => ?_)
  have lp : ∀ m k BB BT, k + m = r * c → BnOk PA PS stC sl BB BT → g 0 0 4 [(0, .ref 100), (1, .int (nI (whC r c stC sl k))), (2, .int (nI k))] [] (WX pgC pgL stC (nI sl) PA PS BB BT u) := by
    intro m
    induction m with
    | zero =>
      intro k BB BT hk hB
      have ek : r * c = k := by omega
      rw [← ek]
      refine M.blk (is := [(.iload_n 2, 2, 0, 0), (.aload_n 0, 0, 0, 0), (.getfield 22, 3, 2, 0), (.getfield 68, 1, 9, 0)]) (pc1 := 12) (lo1 := [(0, .ref 100), (1, .int (nI (whC r c stC sl (r * c)))), (2, .int (nI (r * c)))]) (st1 := [.int (PS 9), .int (nI (r * c))]) (w1 := (WX pgC pgL stC (nI sl) PA PS BB BT u)) (by decide +kernel) rfl ?_
      refine M.icmp_ge (off := 54) (tgt := 66) (nx := 15) (by decide +kernel) (fun z12 => ?_) (fun z12 => by exfalso; exact z12 (by rw [hpl.1.2.2.1]; exact nI_le (Nat.le_refl _) (by omega)))
      refine M.blk (is := [(.iload_n 1, 1, 0, 0)]) (pc1 := 67) (lo1 := [(0, .ref 100), (1, .int (nI (whC r c stC sl (r * c)))), (2, .int (nI (r * c)))]) (st1 := [.int (nI (whC r c stC sl (r * c)))]) (w1 := (WX pgC pgL stC (nI sl) PA PS BB BT u)) (by decide +kernel) rfl ?_
      exact M.reti (nx := 68) (by decide +kernel) ⟨rfl, BB, BT, rfl, hB⟩
    | succ m ih =>
      intro k BB BT hk hB
      have hkn : k < r * c := by omega
      refine M.blk (is := [(.iload_n 2, 2, 0, 0), (.aload_n 0, 0, 0, 0), (.getfield 22, 3, 2, 0), (.getfield 68, 1, 9, 0)]) (pc1 := 12) (lo1 := [(0, .ref 100), (1, .int (nI (whC r c stC sl k))), (2, .int (nI k))]) (st1 := [.int (PS 9), .int (nI k)]) (w1 := (WX pgC pgL stC (nI sl) PA PS BB BT u)) (by decide +kernel) rfl ?_
      refine M.icmp_ge (off := 54) (tgt := 66) (nx := 15) (by decide +kernel) (fun z12 => by exfalso; rw [hpl.1.2.2.1] at z12; exact nI_ge hkn (by omega) z12) (fun z12 => ?_)
      refine M.blk (is := [(.aload_n 0, 0, 0, 0), (.getfield 29, 3, 3, 0), (.aload_n 0, 0, 0, 0), (.getfield 22, 3, 2, 0), (.aload_n 0, 0, 0, 0), (.getfield 16, 3, 1, 0), (.iload_n 2, 2, 0, 0), (.iconst (-1), 0, 0, (-1))]) (pc1 := 29) (lo1 := [(0, .ref 100), (1, .int (nI (whC r c stC sl k))), (2, .int (nI k))]) (st1 := [.int (-1), .int (nI k), .ref 103, .ref 105, .ref 113]) (w1 := (WX pgC pgL stC (nI sl) PA PS BB BT u)) (by decide +kernel) rfl ?_
      refine M.callV (as := [.ref 105, .ref 103, .int (nI k), .int (-1)]) (st := []) (nx := 32) okX0_work lkX3_101 (x_work (κ := 3) hsl (by omega) hB (nI k)) (by decide +kernel) (by decide) rfl (Nat.le_of_ble_eq_true rfl) rfl (by decide) ⟨by decide, by decide⟩ ?_
      intro r0 w1 hq
      obtain ⟨rfl, BC, BU, rfl, hR⟩ := hq
      have hB2 : BnOk PA PS stC sl BC BU := Or.inr ⟨3, by omega, by rw [hR.1.1]; exact hR⟩
      unfold BnR at hR
      rw [pl_tau hpl h25 hkn] at hR
      show g 0 0 32 [(0, .ref 100), (1, .int (nI (whC r c stC sl k))), (2, .int (nI k))] [] (WX pgC pgL stC (nI sl) PA PS BC BU u)
      refine M.blk (is := [(.aload_n 0, 0, 0, 0), (.getfield 22, 3, 2, 0), (.iload_n 2, 2, 0, 0)]) (pc1 := 37) (lo1 := [(0, .ref 100), (1, .int (nI (whC r c stC sl k))), (2, .int (nI k))]) (st1 := [.int (nI k), .ref 105]) (w1 := (WX pgC pgL stC (nI sl) PA PS BC BU u)) (by decide +kernel) rfl ?_
      refine M.callVi (as := [.int (nI k)]) (st := []) (nx := 40) okX1_there lkX3_188 (x_there (nI k)) (by decide +kernel) (by decide) rfl (Nat.le_of_ble_eq_true rfl) rfl (by decide) ?_
      rw [pl_th hpl h25 hkn]
      refine M.callSi (as := [.int (nI (thr r c k))]) (st := []) (nx := 43) okX3_sightsDue lkX3_221 (s_sightsDue (WX pgC pgL stC (nI sl) PA PS BC BU u) (thr r c k)) (by decide +kernel) (by decide) rfl (Nat.le_of_ble_eq_true rfl) ?_
      refine M.blk (is := [(.istore_n 3, 3, 0, 0), (.aload_n 0, 0, 0, 0), (.getfield 29, 3, 3, 0), (.getfield 121, 0, 12, 0), (.iload_n 3, 3, 0, 0), (.iand, 0, 0, 0), (.iload_n 3, 3, 0, 0)]) (pc1 := 54) (lo1 := [(3, .int (dueA (thr r c k) 16)), (0, .ref 100), (1, .int (nI (whC r c stC sl k))), (2, .int (nI k))]) (st1 := [.int (dueA (thr r c k) 16), .int ((BU 12) &&& (dueA (thr r c k) 16))]) (w1 := (WX pgC pgL stC (nI sl) PA PS BC BU u)) (by decide +kernel) rfl ?_
      refine M.icmp_ne (off := 6) (tgt := 60) (nx := 57) (by decide +kernel) (fun z54 => ?_) (fun z54 => ?_)
      · refine M.blk (is := [(.iinc 2 1, 2, 0, 1), (.goto (-59), 4, 0, 0)]) (pc1 := 4) (lo1 := [(2, .int ((nI k) + 1)), (3, .int (dueA (thr r c k) 16)), (0, .ref 100), (1, .int (nI (whC r c stC sl k)))]) (st1 := []) (w1 := (WX pgC pgL stC (nI sl) PA PS BC BU u)) (by decide +kernel) rfl ?_
        refine M.lsub [2, 3, 0] (lo1 := [(0, .ref 100), (1, .int (nI (whC r c stC sl k))), (2, .int ((nI k) + 1))]) rfl ?_
        rw [nI_1]
        have e := ih (k + 1) BC BU (by omega) hB2
        rw [show whC r c stC sl (k + 1) = whC r c stC sl k + (if (smS 3 0 (tauG r c k) stC sl).2.2.1 &&& dueA (thr r c k) 16 = dueA (thr r c k) 16 then 1 else 0) from rfl, if_neg (fun h => z54 (by rw [hR.2.2.1 0]; exact h))] at e
        exact e
      · refine M.blk (is := [(.iinc 1 1, 1, 0, 1), (.iinc 2 1, 2, 0, 1), (.goto (-59), 4, 0, 0)]) (pc1 := 4) (lo1 := [(2, .int ((nI k) + 1)), (1, .int ((nI (whC r c stC sl k)) + 1)), (3, .int (dueA (thr r c k) 16)), (0, .ref 100)]) (st1 := []) (w1 := (WX pgC pgL stC (nI sl) PA PS BC BU u)) (by decide +kernel) rfl ?_
        refine M.lsub [3, 1, 0] (lo1 := [(0, .ref 100), (1, .int ((nI (whC r c stC sl k)) + 1)), (2, .int ((nI k) + 1))]) rfl ?_
        rw [nI_1, nI_1]
        have e := ih (k + 1) BC BU (by omega) hB2
        rw [show whC r c stC sl (k + 1) = whC r c stC sl k + (if (smS 3 0 (tauG r c k) stC sl).2.2.1 &&& dueA (thr r c k) 16 = dueA (thr r c k) 16 then 1 else 0) from rfl, if_pos (by rw [← hR.2.2.1 0]; exact z54)] at e
        exact e
  show g 0 0 0 [(0, .ref 100)] [] (WX pgC pgL stC (nI sl) PA PS BA BS u)
  refine M.blk (is := [(.iconst 0, 0, 0, 0), (.istore_n 1, 1, 0, 0), (.iconst 0, 0, 0, 0), (.istore_n 2, 2, 0, 0)]) (pc1 := 4) (lo1 := [(2, .int 0), (1, .int 0), (0, .ref 100)]) (st1 := []) (w1 := (WX pgC pgL stC (nI sl) PA PS BA BS u)) (by decide +kernel) rfl ?_
  refine M.lsub [2, 1, 0] (lo1 := [(0, .ref 100), (1, .int 0), (2, .int 0)]) rfl ?_
  exact lp (r * c) 0 BA BS (by omega) hbn
def cntF (pl sl r c f h t : Nat) (C : Nat → Int32) (y : Int32) : Int32 := if y = 0 then nI pl else if y = 1 then nI r else if y = 2 then nI c else if y = 3 then nI f else if y = 4 then nI h else if y = 5 then nI t else if y = 6 then nI sl else if y = 7 then nI (opN r c C sl) else if y = 8 then nI (opN r c C sl / Nat.gcd (boN (r * c)) (opN r c C sl)) else if y = 9 then nI (boN (r * c) / Nat.gcd (boN (r * c)) (opN r c C sl)) else if y = 10 then nI (whC r c C sl (r * c)) else -1002
theorem cnt_out {y : Int32} (h0 : y.toInt < 0 ∨ 0 + (([60, 68, 76, 84, 92, 100, 108, 116, 121, 130, 139] : List Nat).length : Int) ≤ y.toInt) {pl sl r c f h t : Nat} {C : Nat → Int32} : cntF pl sl r c f h t C y = -1002 := by
  have key : ∀ v : Int32, 0 ≤ v.toInt → v.toInt ≤ 10 → ¬ y = v := by
    rintro v h1 h2 rfl
    simp only [List.length_cons, List.length_nil] at h0
    omega
  unfold cntF
  rw [if_neg (key 0 (by decide) (by decide)), if_neg (key 1 (by decide) (by decide)), if_neg (key 2 (by decide) (by decide)), if_neg (key 3 (by decide) (by decide)), if_neg (key 4 (by decide) (by decide)), if_neg (key 5 (by decide) (by decide)), if_neg (key 6 (by decide) (by decide)), if_neg (key 7 (by decide) (by decide)), if_neg (key 8 (by decide) (by decide)), if_neg (key 9 (by decide) (by decide)), if_neg (key 10 (by decide) (by decide))]
theorem x_count {sl pl : Nat} (hsl : sl ≤ 64) {r c f h t : Nat} (hgeo : GeoOk r c f h t) (hpl : PlOk r c f h t PA PS) (hbn : BnOk PA PS stC sl BA BS) (y : Int32) : CC 5 mX3_count 0 0 [.ref 100, .int y] (WX pgC (nI pl) stC (nI sl) PA PS BA BS u) (fun r0 w1 => r0 = some (.int (cntF pl sl r c f h t stC y)) ∧ ∃ BB BT, w1 = WX pgC (nI pl) stC (nI sl) PA PS BB BT u ∧ BnOk PA PS stC sl BB BT) := by
  have h25 : r * c ≤ 25 := Nat.mul_le_mul hgeo.1.2 hgeo.2.1.2
  have h9a : 9 ≤ r * c := Nat.mul_le_mul hgeo.1.1 hgeo.2.1.1
  have hop := opN_le h25 stC sl
  have hbo : 0 < boN (r * c) ∧ boN (r * c) < 2147483648 := by unfold boN; omega
  refine CC.of okX3_count.1 (Nat.le_of_ble_eq_true rfl) (fun g M => ?_)
  show g 0 0 0 [(0, .ref 100), (1, .int y)] [] (WX pgC (nI pl) stC (nI sl) PA PS BA BS u)
  refine M.blk (is := [(.iload_n 1, 1, 0, 0)]) (pc1 := 1) (lo1 := [(0, .ref 100), (1, .int y)]) (st1 := [.int y]) (w1 := (WX pgC (nI pl) stC (nI sl) PA PS BA BS u)) (by decide +kernel) rfl ?_
  refine M.tsw (dflt := 143) (a := 0) (b := 10) (offs := #[59, 67, 75, 83, 91, 99, 107, 115, 120, 129, 138]) (len := 59) (tg := [60, 68, 76, 84, 92, 100, 108, 116, 121, 130, 139]) (dt := 144) (by decide +kernel) (fun j t hj hx1 => ?_) (fun hx1 => ?_)
  · match j, hj, hx1 with
    | 0, hj, hx1 =>
      cases hj
      have hx1 : y = 0 := i32_of hx1 (by decide)
      subst hx1
      refine M.blk (is := [(.aload_n 0, 0, 0, 0), (.getfield 10, 3, 0, 0), (.getfield 33, 2, 1, 0)]) (pc1 := 67) (lo1 := [(0, .ref 100), (1, .int 0)]) (st1 := [.int (nI pl)]) (w1 := (WX pgC (nI pl) stC (nI sl) PA PS BA BS u)) (by decide +kernel) rfl ?_
      exact M.reti (nx := 68) (by decide +kernel) ⟨rfl, BA, BS, rfl, hbn⟩
    | 1, hj, hx1 =>
      cases hj
      have hx1 : y = 1 := i32_of hx1 (by decide)
      subst hx1
      refine M.blk (is := [(.aload_n 0, 0, 0, 0), (.getfield 22, 3, 2, 0), (.getfield 124, 1, 7, 0)]) (pc1 := 75) (lo1 := [(0, .ref 100), (1, .int 1)]) (st1 := [.int (PS 7)]) (w1 := (WX pgC (nI pl) stC (nI sl) PA PS BA BS u)) (by decide +kernel) rfl ?_
      exact M.reti (nx := 76) (by decide +kernel) ⟨by rw [hpl.1.1]; rfl, BA, BS, rfl, hbn⟩
    | 2, hj, hx1 =>
      cases hj
      have hx1 : y = 2 := i32_of hx1 (by decide)
      subst hx1
      refine M.blk (is := [(.aload_n 0, 0, 0, 0), (.getfield 22, 3, 2, 0), (.getfield 127, 1, 8, 0)]) (pc1 := 83) (lo1 := [(0, .ref 100), (1, .int 2)]) (st1 := [.int (PS 8)]) (w1 := (WX pgC (nI pl) stC (nI sl) PA PS BA BS u)) (by decide +kernel) rfl ?_
      exact M.reti (nx := 84) (by decide +kernel) ⟨by rw [hpl.1.2.1]; rfl, BA, BS, rfl, hbn⟩
    | 3, hj, hx1 =>
      cases hj
      have hx1 : y = 3 := i32_of hx1 (by decide)
      subst hx1
      refine M.blk (is := [(.aload_n 0, 0, 0, 0), (.getfield 22, 3, 2, 0), (.getfield 130, 1, 10, 0)]) (pc1 := 91) (lo1 := [(0, .ref 100), (1, .int 3)]) (st1 := [.int (PS 10)]) (w1 := (WX pgC (nI pl) stC (nI sl) PA PS BA BS u)) (by decide +kernel) rfl ?_
      exact M.reti (nx := 92) (by decide +kernel) ⟨by rw [hpl.1.2.2.2.1]; rfl, BA, BS, rfl, hbn⟩
    | 4, hj, hx1 =>
      cases hj
      have hx1 : y = 4 := i32_of hx1 (by decide)
      subst hx1
      refine M.blk (is := [(.aload_n 0, 0, 0, 0), (.getfield 22, 3, 2, 0), (.getfield 133, 1, 11, 0)]) (pc1 := 99) (lo1 := [(0, .ref 100), (1, .int 4)]) (st1 := [.int (PS 11)]) (w1 := (WX pgC (nI pl) stC (nI sl) PA PS BA BS u)) (by decide +kernel) rfl ?_
      exact M.reti (nx := 100) (by decide +kernel) ⟨by rw [hpl.1.2.2.2.2.1]; rfl, BA, BS, rfl, hbn⟩
    | 5, hj, hx1 =>
      cases hj
      have hx1 : y = 5 := i32_of hx1 (by decide)
      subst hx1
      refine M.blk (is := [(.aload_n 0, 0, 0, 0), (.getfield 22, 3, 2, 0), (.getfield 136, 1, 12, 0)]) (pc1 := 107) (lo1 := [(0, .ref 100), (1, .int 5)]) (st1 := [.int (PS 12)]) (w1 := (WX pgC (nI pl) stC (nI sl) PA PS BA BS u)) (by decide +kernel) rfl ?_
      exact M.reti (nx := 108) (by decide +kernel) ⟨by rw [hpl.1.2.2.2.2.2]; rfl, BA, BS, rfl, hbn⟩
    | 6, hj, hx1 =>
      cases hj
      have hx1 : y = 6 := i32_of hx1 (by decide)
      subst hx1
      refine M.blk (is := [(.aload_n 0, 0, 0, 0), (.getfield 16, 3, 1, 0), (.getfield 33, 2, 1, 0)]) (pc1 := 115) (lo1 := [(0, .ref 100), (1, .int 6)]) (st1 := [.int (nI sl)]) (w1 := (WX pgC (nI pl) stC (nI sl) PA PS BA BS u)) (by decide +kernel) rfl ?_
      exact M.reti (nx := 116) (by decide +kernel) ⟨rfl, BA, BS, rfl, hbn⟩
    | 7, hj, hx1 =>
      cases hj
      have hx1 : y = 7 := i32_of hx1 (by decide)
      subst hx1
      refine M.blk (is := [(.aload_n 0, 0, 0, 0)]) (pc1 := 117) (lo1 := [(0, .ref 100), (1, .int 7)]) (st1 := [.ref 100]) (w1 := (WX pgC (nI pl) stC (nI sl) PA PS BA BS u)) (by decide +kernel) rfl ?_
      refine M.callVi (as := []) (st := []) (nx := 120) okX3_ops lkX3_139 (x_ops hsl hgeo hpl) (by decide +kernel) (by decide) rfl (Nat.le_of_ble_eq_true rfl) rfl (by decide) ?_
      exact M.reti (nx := 121) (by decide +kernel) ⟨rfl, BA, BS, rfl, hbn⟩
    | 8, hj, hx1 =>
      cases hj
      have hx1 : y = 8 := i32_of hx1 (by decide)
      subst hx1
      refine M.blk (is := [(.aload_n 0, 0, 0, 0), (.aload_n 0, 0, 0, 0)]) (pc1 := 123) (lo1 := [(0, .ref 100), (1, .int 8)]) (st1 := [.ref 100, .ref 100]) (w1 := (WX pgC (nI pl) stC (nI sl) PA PS BA BS u)) (by decide +kernel) rfl ?_
      refine M.callVi (as := []) (st := [.ref 100]) (nx := 126) okX3_ops lkX3_139 (x_ops hsl hgeo hpl) (by decide +kernel) (by decide) rfl (Nat.le_of_ble_eq_true rfl) rfl (by decide) ?_
      refine M.callVi (as := [.int (nI (opN r c stC sl))]) (st := []) (nx := 129) okX3_lowered lkX3_142 (x_lowered hsl hgeo hpl (by omega)) (by decide +kernel) (by decide) rfl (Nat.le_of_ble_eq_true rfl) rfl (by decide) ?_
      exact M.reti (nx := 130) (by decide +kernel) ⟨rfl, BA, BS, rfl, hbn⟩
    | 9, hj, hx1 =>
      cases hj
      have hx1 : y = 9 := i32_of hx1 (by decide)
      subst hx1
      refine M.blk (is := [(.aload_n 0, 0, 0, 0), (.aload_n 0, 0, 0, 0)]) (pc1 := 132) (lo1 := [(0, .ref 100), (1, .int 9)]) (st1 := [.ref 100, .ref 100]) (w1 := (WX pgC (nI pl) stC (nI sl) PA PS BA BS u)) (by decide +kernel) rfl ?_
      refine M.callVi (as := []) (st := [.ref 100]) (nx := 135) okX3_bound lkX3_145 (x_bound hgeo hpl) (by decide +kernel) (by decide) rfl (Nat.le_of_ble_eq_true rfl) rfl (by decide) ?_
      refine M.callVi (as := [.int (nI (boN (r * c)))]) (st := []) (nx := 138) okX3_lowered lkX3_142 (x_lowered hsl hgeo hpl (by omega)) (by decide +kernel) (by decide) rfl (Nat.le_of_ble_eq_true rfl) rfl (by decide) ?_
      exact M.reti (nx := 139) (by decide +kernel) ⟨rfl, BA, BS, rfl, hbn⟩
    | 10, hj, hx1 =>
      cases hj
      have hx1 : y = 10 := i32_of hx1 (by decide)
      subst hx1
      refine M.blk (is := [(.aload_n 0, 0, 0, 0)]) (pc1 := 140) (lo1 := [(0, .ref 100), (1, .int 10)]) (st1 := [.ref 100]) (w1 := (WX pgC (nI pl) stC (nI sl) PA PS BA BS u)) (by decide +kernel) rfl ?_
      refine M.callV (as := []) (st := []) (nx := 143) okX3_cellsSeenWhole lkX3_148 (x_cellsSeenWhole hsl hgeo hpl hbn) (by decide +kernel) (by decide) rfl (Nat.le_of_ble_eq_true rfl) rfl (by decide) ⟨by decide, by decide⟩ ?_
      intro r0 w1 hq
      obtain ⟨rfl, BB, BT, rfl, hB⟩ := hq
      show g 0 0 143 [(0, .ref 100), (1, .int 10)] [.int (nI (whC r c stC sl (r * c)))] (WX pgC (nI pl) stC (nI sl) PA PS BB BT u)
      exact M.reti (nx := 144) (by decide +kernel) ⟨rfl, BB, BT, rfl, hB⟩
    | j + 11, hj, _ => exact absurd hj (by simp)
  · refine M.blk (is := [(.sipush (-1002), 0, 0, (-1002))]) (pc1 := 147) (lo1 := [(0, .ref 100), (1, .int y)]) (st1 := [.int (-1002)]) (w1 := (WX pgC (nI pl) stC (nI sl) PA PS BA BS u)) (by decide +kernel) rfl ?_
    exact M.reti (nx := 148) (by decide +kernel) ⟨by rw [cnt_out hx1], BA, BS, rfl, hbn⟩
end COUNT
end
section
section DIGEST
variable {pgC : Nat → Int32} {pgL : Int32} {stC : Nat → Int32} {stL : Int32} {PA : Nat → Nat → Int32} {PS : Nat → Int32} {BA : Nat → Nat → Int32} {BS : Nat → Int32} {u : List Cl}
def jn (h : Int64) (v : Int32) : Int64 := 31 * h + v.toInt64
def jfF (r c : Nat) (C : Nat → Int32) (sl : Nat) (h : Int64) (k κ : Nat) : Int64 := jn (jn (jn (jn h (fdF r c C sl k κ 0)) (fdF r c C sl k κ 1)) (fdF r c C sl k κ 2)) (fdF r c C sl k κ 3)
def jcF (PA : Nat → Nat → Int32) (PS : Nat → Int32) (r c : Nat) (C : Nat → Int32) (sl : Nat) (h : Int64) (k : Nat) : Int64 := jn (jn (jn (jn (jn (jn (jn (jn h (cellX PA PS (nI k) 0)) (cellX PA PS (nI k) 1)) (cellX PA PS (nI k) 2)) (cellX PA PS (nI k) 10)) (cellX PA PS (nI k) 11)) (cellX PA PS (nI k) 12)) (cellX PA PS (nI k) 13)) (smS 3 0 (tauG r c k) C sl).2.2.1
def dgA (PA : Nat → Nat → Int32) (PS : Nat → Int32) (r c : Nat) (C : Nat → Int32) (sl k : Nat) : Int64 := match k with
  | 0 => 1721
  | k + 1 => jfF r c C sl (jfF r c C sl (jcF PA PS r c C sl (dgA PA PS r c C sl k) k) k 0) k 1
def dgB (n f h0 : Nat) (x : Int64) (a : Nat) : Int64 := match a with
  | 0 => x
  | a + 1 => jn (dgB n f h0 x a) (nI ((f * a + h0) % n))
def dgC (lb : Int32) (x : Int64) : Int64 := jn (jn (jn (jn (jn (jn x (rwoF lb 0)) (rwoF lb 1)) (rwoF lb 2)) (rwoF lb 3)) (rwoF lb 4)) (rwoF lb 5)
def dgD (G : Nat → Int32) (x : Int64) (j : Nat) : Int64 := match j with
  | 0 => x
  | j + 1 => jn (dgD G x j) (G j)
def dgE (pl sl r c f h t : Nat) (C : Nat → Int32) (x : Int64) : Int64 := jn (jn (jn (jn (jn (jn (jn (jn (jn (jn (jn x (cntF pl sl r c f h t C 0)) (cntF pl sl r c f h t C 1)) (cntF pl sl r c f h t C 2)) (cntF pl sl r c f h t C 3)) (cntF pl sl r c f h t C 4)) (cntF pl sl r c f h t C 5)) (cntF pl sl r c f h t C 6)) (cntF pl sl r c f h t C 7)) (cntF pl sl r c f h t C 8)) (cntF pl sl r c f h t C 9)) (cntF pl sl r c f h t C 10)
theorem s_join (w0 : Wd) (a b : Int64) : CC 0 mX3_join 0 0 [.long a, .long b] w0 (Rl (31 * a + b) w0) := by
  refine CC.of okX3_join.1 (Nat.le_of_ble_eq_true rfl) (fun g M => ?_)
  show g 0 0 0 [(0, .long a), (2, .long b)] [] w0
  refine M.ldl (v := 31) (idx := 183) (nx := 3) (by decide +kernel) (lw_in 488 (by decide +kernel) (by decide +kernel)) ?_
  refine M.blk (is := [(.lload_n 0, 0, 0, 0), (.lmul, 0, 0, 0), (.lload_n 2, 2, 0, 0), (.ladd, 0, 0, 0)]) (pc1 := 7) (lo1 := [(0, .long a), (2, .long b)]) (st1 := [.long ((31 * a) + b)]) (w1 := w0) (by decide +kernel) rfl ?_
  exact M.retl (nx := 8) (by decide +kernel) ⟨rfl, rfl⟩
theorem x_joinCell {sl : Nat} (hsl : sl ≤ 64) {r c f h t : Nat} (hgeo : GeoOk r c f h t) (hpl : PlOk r c f h t PA PS) (hbn : BnOk PA PS stC sl BA BS) {k : Nat} (hk : k < r * c) (hh : Int64) : CC 5 mX3_joinCell 0 0 [.ref 100, .long hh, .int (nI k)] (WX pgC pgL stC (nI sl) PA PS BA BS u) (fun r0 w1 => r0 = some (.long (jcF PA PS r c stC sl hh k)) ∧ ∃ BB BT, w1 = WX pgC pgL stC (nI sl) PA PS BB BT u ∧ BnOk PA PS stC sl BB BT) := by
  have h25 : r * c ≤ 25 := Nat.mul_le_mul hgeo.1.2 hgeo.2.1.2
  have h9a : 9 ≤ r * c := Nat.mul_le_mul hgeo.1.1 hgeo.2.1.1
  refine CC.of okX3_joinCell.1 (Nat.le_of_ble_eq_true rfl) (fun g M => ?_)
  show g 0 0 0 [(0, .ref 100), (1, .long hh), (3, .int (nI k))] [] (WX pgC pgL stC (nI sl) PA PS BA BS u)
  refine M.blk (is := [(.lload_n 1, 1, 0, 0), (.lstore 4, 4, 0, 0), (.iconst 0, 0, 0, 0), (.istore 6, 6, 0, 0), (.iload 6, 6, 0, 0), (.iconst 2, 0, 0, 2)]) (pc1 := 9) (lo1 := [(6, .int 0), (4, .long hh), (0, .ref 100), (1, .long hh), (3, .int (nI k))]) (st1 := [.int 2, .int 0]) (w1 := (WX pgC pgL stC (nI sl) PA PS BA BS u)) (by decide +kernel) rfl ?_
  refine M.icmp_gt (off := 24) (tgt := 33) (nx := 12) (by decide +kernel) (fun h => absurd h (by decide)) (fun _ => ?_)
  refine M.blk (is := [(.lload 4, 4, 0, 0), (.aload_n 0, 0, 0, 0), (.iload_n 3, 3, 0, 0), (.iload 6, 6, 0, 0)]) (pc1 := 18) (lo1 := [(6, .int 0), (4, .long hh), (0, .ref 100), (1, .long hh), (3, .int (nI k))]) (st1 := [.int 0, .int (nI k), .ref 100, .long hh]) (w1 := (WX pgC pgL stC (nI sl) PA PS BA BS u)) (by decide +kernel) rfl ?_
  refine M.callVi (as := [.int (nI k), .int 0]) (st := [.long hh]) (nx := 21) okX3_cell lkX3_174 (x_cell (nI k) 0) (by decide +kernel) (by decide) rfl (Nat.le_of_ble_eq_true rfl) rfl (by decide) ?_
  refine M.blk (is := [(.i2l, 0, 0, 0)]) (pc1 := 22) (lo1 := [(6, .int 0), (4, .long hh), (0, .ref 100), (1, .long hh), (3, .int (nI k))]) (st1 := [.long ((cellX PA PS (nI k) 0 : Int32).toInt64), .long hh]) (w1 := (WX pgC pgL stC (nI sl) PA PS BA BS u)) (by decide +kernel) rfl ?_
  refine M.callSl (as := [.long hh, .long ((cellX PA PS (nI k) 0 : Int32).toInt64)]) (st := []) (nx := 25) okX3_join lkX3_164 (s_join (WX pgC pgL stC (nI sl) PA PS BA BS u) hh ((cellX PA PS (nI k) 0 : Int32).toInt64)) (by decide +kernel) (by decide) rfl (Nat.le_of_ble_eq_true rfl) ?_
  refine M.blk (is := [(.lstore 4, 4, 0, 0), (.iinc 6 1, 6, 0, 1), (.goto (-24), 6, 0, 0), (.iload 6, 6, 0, 0), (.iconst 2, 0, 0, 2)]) (pc1 := 9) (lo1 := [(6, .int 1), (4, .long (jn hh (cellX PA PS (nI k) 0))), (0, .ref 100), (1, .long hh), (3, .int (nI k))]) (st1 := [.int 2, .int 1]) (w1 := (WX pgC pgL stC (nI sl) PA PS BA BS u)) (by decide +kernel) rfl ?_
  refine M.icmp_gt (off := 24) (tgt := 33) (nx := 12) (by decide +kernel) (fun h => absurd h (by decide)) (fun _ => ?_)
  refine M.blk (is := [(.lload 4, 4, 0, 0), (.aload_n 0, 0, 0, 0), (.iload_n 3, 3, 0, 0), (.iload 6, 6, 0, 0)]) (pc1 := 18) (lo1 := [(6, .int 1), (4, .long (jn hh (cellX PA PS (nI k) 0))), (0, .ref 100), (1, .long hh), (3, .int (nI k))]) (st1 := [.int 1, .int (nI k), .ref 100, .long (jn hh (cellX PA PS (nI k) 0))]) (w1 := (WX pgC pgL stC (nI sl) PA PS BA BS u)) (by decide +kernel) rfl ?_
  refine M.callVi (as := [.int (nI k), .int 1]) (st := [.long (jn hh (cellX PA PS (nI k) 0))]) (nx := 21) okX3_cell lkX3_174 (x_cell (nI k) 1) (by decide +kernel) (by decide) rfl (Nat.le_of_ble_eq_true rfl) rfl (by decide) ?_
  refine M.blk (is := [(.i2l, 0, 0, 0)]) (pc1 := 22) (lo1 := [(6, .int 1), (4, .long (jn hh (cellX PA PS (nI k) 0))), (0, .ref 100), (1, .long hh), (3, .int (nI k))]) (st1 := [.long ((cellX PA PS (nI k) 1 : Int32).toInt64), .long (jn hh (cellX PA PS (nI k) 0))]) (w1 := (WX pgC pgL stC (nI sl) PA PS BA BS u)) (by decide +kernel) rfl ?_
  refine M.callSl (as := [.long (jn hh (cellX PA PS (nI k) 0)), .long ((cellX PA PS (nI k) 1 : Int32).toInt64)]) (st := []) (nx := 25) okX3_join lkX3_164 (s_join (WX pgC pgL stC (nI sl) PA PS BA BS u) (jn hh (cellX PA PS (nI k) 0)) ((cellX PA PS (nI k) 1 : Int32).toInt64)) (by decide +kernel) (by decide) rfl (Nat.le_of_ble_eq_true rfl) ?_
  refine M.blk (is := [(.lstore 4, 4, 0, 0), (.iinc 6 1, 6, 0, 1), (.goto (-24), 6, 0, 0), (.iload 6, 6, 0, 0), (.iconst 2, 0, 0, 2)]) (pc1 := 9) (lo1 := [(6, .int 2), (4, .long (jn (jn hh (cellX PA PS (nI k) 0)) (cellX PA PS (nI k) 1))), (0, .ref 100), (1, .long hh), (3, .int (nI k))]) (st1 := [.int 2, .int 2]) (w1 := (WX pgC pgL stC (nI sl) PA PS BA BS u)) (by decide +kernel) rfl ?_
  refine M.icmp_gt (off := 24) (tgt := 33) (nx := 12) (by decide +kernel) (fun h => absurd h (by decide)) (fun _ => ?_)
  refine M.blk (is := [(.lload 4, 4, 0, 0), (.aload_n 0, 0, 0, 0), (.iload_n 3, 3, 0, 0), (.iload 6, 6, 0, 0)]) (pc1 := 18) (lo1 := [(6, .int 2), (4, .long (jn (jn hh (cellX PA PS (nI k) 0)) (cellX PA PS (nI k) 1))), (0, .ref 100), (1, .long hh), (3, .int (nI k))]) (st1 := [.int 2, .int (nI k), .ref 100, .long (jn (jn hh (cellX PA PS (nI k) 0)) (cellX PA PS (nI k) 1))]) (w1 := (WX pgC pgL stC (nI sl) PA PS BA BS u)) (by decide +kernel) rfl ?_
  refine M.callVi (as := [.int (nI k), .int 2]) (st := [.long (jn (jn hh (cellX PA PS (nI k) 0)) (cellX PA PS (nI k) 1))]) (nx := 21) okX3_cell lkX3_174 (x_cell (nI k) 2) (by decide +kernel) (by decide) rfl (Nat.le_of_ble_eq_true rfl) rfl (by decide) ?_
  refine M.blk (is := [(.i2l, 0, 0, 0)]) (pc1 := 22) (lo1 := [(6, .int 2), (4, .long (jn (jn hh (cellX PA PS (nI k) 0)) (cellX PA PS (nI k) 1))), (0, .ref 100), (1, .long hh), (3, .int (nI k))]) (st1 := [.long ((cellX PA PS (nI k) 2 : Int32).toInt64), .long (jn (jn hh (cellX PA PS (nI k) 0)) (cellX PA PS (nI k) 1))]) (w1 := (WX pgC pgL stC (nI sl) PA PS BA BS u)) (by decide +kernel) rfl ?_
  refine M.callSl (as := [.long (jn (jn hh (cellX PA PS (nI k) 0)) (cellX PA PS (nI k) 1)), .long ((cellX PA PS (nI k) 2 : Int32).toInt64)]) (st := []) (nx := 25) okX3_join lkX3_164 (s_join (WX pgC pgL stC (nI sl) PA PS BA BS u) (jn (jn hh (cellX PA PS (nI k) 0)) (cellX PA PS (nI k) 1)) ((cellX PA PS (nI k) 2 : Int32).toInt64)) (by decide +kernel) (by decide) rfl (Nat.le_of_ble_eq_true rfl) ?_
  refine M.blk (is := [(.lstore 4, 4, 0, 0), (.iinc 6 1, 6, 0, 1), (.goto (-24), 6, 0, 0), (.iload 6, 6, 0, 0), (.iconst 2, 0, 0, 2)]) (pc1 := 9) (lo1 := [(6, .int 3), (4, .long (jn (jn (jn hh (cellX PA PS (nI k) 0)) (cellX PA PS (nI k) 1)) (cellX PA PS (nI k) 2))), (0, .ref 100), (1, .long hh), (3, .int (nI k))]) (st1 := [.int 2, .int 3]) (w1 := (WX pgC pgL stC (nI sl) PA PS BA BS u)) (by decide +kernel) rfl ?_
  refine M.icmp_gt (off := 24) (tgt := 33) (nx := 12) (by decide +kernel) (fun _ => ?_) (fun h => absurd h (by decide))
  refine M.blk (is := [(.bipush 10, 0, 0, 10), (.istore 6, 6, 0, 0), (.iload 6, 6, 0, 0), (.bipush 13, 0, 0, 13)]) (pc1 := 41) (lo1 := [(6, .int 10), (4, .long (jn (jn (jn hh (cellX PA PS (nI k) 0)) (cellX PA PS (nI k) 1)) (cellX PA PS (nI k) 2))), (0, .ref 100), (1, .long hh), (3, .int (nI k))]) (st1 := [.int 13, .int 10]) (w1 := (WX pgC pgL stC (nI sl) PA PS BA BS u)) (by decide +kernel) rfl ?_
  refine M.icmp_gt (off := 24) (tgt := 65) (nx := 44) (by decide +kernel) (fun h => absurd h (by decide)) (fun _ => ?_)
  refine M.blk (is := [(.lload 4, 4, 0, 0), (.aload_n 0, 0, 0, 0), (.iload_n 3, 3, 0, 0), (.iload 6, 6, 0, 0)]) (pc1 := 50) (lo1 := [(6, .int 10), (4, .long (jn (jn (jn hh (cellX PA PS (nI k) 0)) (cellX PA PS (nI k) 1)) (cellX PA PS (nI k) 2))), (0, .ref 100), (1, .long hh), (3, .int (nI k))]) (st1 := [.int 10, .int (nI k), .ref 100, .long (jn (jn (jn hh (cellX PA PS (nI k) 0)) (cellX PA PS (nI k) 1)) (cellX PA PS (nI k) 2))]) (w1 := (WX pgC pgL stC (nI sl) PA PS BA BS u)) (by decide +kernel) rfl ?_
  refine M.callVi (as := [.int (nI k), .int 10]) (st := [.long (jn (jn (jn hh (cellX PA PS (nI k) 0)) (cellX PA PS (nI k) 1)) (cellX PA PS (nI k) 2))]) (nx := 53) okX3_cell lkX3_174 (x_cell (nI k) 10) (by decide +kernel) (by decide) rfl (Nat.le_of_ble_eq_true rfl) rfl (by decide) ?_
  refine M.blk (is := [(.i2l, 0, 0, 0)]) (pc1 := 54) (lo1 := [(6, .int 10), (4, .long (jn (jn (jn hh (cellX PA PS (nI k) 0)) (cellX PA PS (nI k) 1)) (cellX PA PS (nI k) 2))), (0, .ref 100), (1, .long hh), (3, .int (nI k))]) (st1 := [.long ((cellX PA PS (nI k) 10 : Int32).toInt64), .long (jn (jn (jn hh (cellX PA PS (nI k) 0)) (cellX PA PS (nI k) 1)) (cellX PA PS (nI k) 2))]) (w1 := (WX pgC pgL stC (nI sl) PA PS BA BS u)) (by decide +kernel) rfl ?_
  refine M.callSl (as := [.long (jn (jn (jn hh (cellX PA PS (nI k) 0)) (cellX PA PS (nI k) 1)) (cellX PA PS (nI k) 2)), .long ((cellX PA PS (nI k) 10 : Int32).toInt64)]) (st := []) (nx := 57) okX3_join lkX3_164 (s_join (WX pgC pgL stC (nI sl) PA PS BA BS u) (jn (jn (jn hh (cellX PA PS (nI k) 0)) (cellX PA PS (nI k) 1)) (cellX PA PS (nI k) 2)) ((cellX PA PS (nI k) 10 : Int32).toInt64)) (by decide +kernel) (by decide) rfl (Nat.le_of_ble_eq_true rfl) ?_
  refine M.blk (is := [(.lstore 4, 4, 0, 0), (.iinc 6 1, 6, 0, 1), (.goto (-25), 37, 0, 0), (.iload 6, 6, 0, 0), (.bipush 13, 0, 0, 13)]) (pc1 := 41) (lo1 := [(6, .int 11), (4, .long (jn (jn (jn (jn hh (cellX PA PS (nI k) 0)) (cellX PA PS (nI k) 1)) (cellX PA PS (nI k) 2)) (cellX PA PS (nI k) 10))), (0, .ref 100), (1, .long hh), (3, .int (nI k))]) (st1 := [.int 13, .int 11]) (w1 := (WX pgC pgL stC (nI sl) PA PS BA BS u)) (by decide +kernel) rfl ?_
  refine M.icmp_gt (off := 24) (tgt := 65) (nx := 44) (by decide +kernel) (fun h => absurd h (by decide)) (fun _ => ?_)
  refine M.blk (is := [(.lload 4, 4, 0, 0), (.aload_n 0, 0, 0, 0), (.iload_n 3, 3, 0, 0), (.iload 6, 6, 0, 0)]) (pc1 := 50) (lo1 := [(6, .int 11), (4, .long (jn (jn (jn (jn hh (cellX PA PS (nI k) 0)) (cellX PA PS (nI k) 1)) (cellX PA PS (nI k) 2)) (cellX PA PS (nI k) 10))), (0, .ref 100), (1, .long hh), (3, .int (nI k))]) (st1 := [.int 11, .int (nI k), .ref 100, .long (jn (jn (jn (jn hh (cellX PA PS (nI k) 0)) (cellX PA PS (nI k) 1)) (cellX PA PS (nI k) 2)) (cellX PA PS (nI k) 10))]) (w1 := (WX pgC pgL stC (nI sl) PA PS BA BS u)) (by decide +kernel) rfl ?_
  refine M.callVi (as := [.int (nI k), .int 11]) (st := [.long (jn (jn (jn (jn hh (cellX PA PS (nI k) 0)) (cellX PA PS (nI k) 1)) (cellX PA PS (nI k) 2)) (cellX PA PS (nI k) 10))]) (nx := 53) okX3_cell lkX3_174 (x_cell (nI k) 11) (by decide +kernel) (by decide) rfl (Nat.le_of_ble_eq_true rfl) rfl (by decide) ?_
  refine M.blk (is := [(.i2l, 0, 0, 0)]) (pc1 := 54) (lo1 := [(6, .int 11), (4, .long (jn (jn (jn (jn hh (cellX PA PS (nI k) 0)) (cellX PA PS (nI k) 1)) (cellX PA PS (nI k) 2)) (cellX PA PS (nI k) 10))), (0, .ref 100), (1, .long hh), (3, .int (nI k))]) (st1 := [.long ((cellX PA PS (nI k) 11 : Int32).toInt64), .long (jn (jn (jn (jn hh (cellX PA PS (nI k) 0)) (cellX PA PS (nI k) 1)) (cellX PA PS (nI k) 2)) (cellX PA PS (nI k) 10))]) (w1 := (WX pgC pgL stC (nI sl) PA PS BA BS u)) (by decide +kernel) rfl ?_
  refine M.callSl (as := [.long (jn (jn (jn (jn hh (cellX PA PS (nI k) 0)) (cellX PA PS (nI k) 1)) (cellX PA PS (nI k) 2)) (cellX PA PS (nI k) 10)), .long ((cellX PA PS (nI k) 11 : Int32).toInt64)]) (st := []) (nx := 57) okX3_join lkX3_164 (s_join (WX pgC pgL stC (nI sl) PA PS BA BS u) (jn (jn (jn (jn hh (cellX PA PS (nI k) 0)) (cellX PA PS (nI k) 1)) (cellX PA PS (nI k) 2)) (cellX PA PS (nI k) 10)) ((cellX PA PS (nI k) 11 : Int32).toInt64)) (by decide +kernel) (by decide) rfl (Nat.le_of_ble_eq_true rfl) ?_
  refine M.blk (is := [(.lstore 4, 4, 0, 0), (.iinc 6 1, 6, 0, 1), (.goto (-25), 37, 0, 0), (.iload 6, 6, 0, 0), (.bipush 13, 0, 0, 13)]) (pc1 := 41) (lo1 := [(6, .int 12), (4, .long (jn (jn (jn (jn (jn hh (cellX PA PS (nI k) 0)) (cellX PA PS (nI k) 1)) (cellX PA PS (nI k) 2)) (cellX PA PS (nI k) 10)) (cellX PA PS (nI k) 11))), (0, .ref 100), (1, .long hh), (3, .int (nI k))]) (st1 := [.int 13, .int 12]) (w1 := (WX pgC pgL stC (nI sl) PA PS BA BS u)) (by decide +kernel) rfl ?_
  refine M.icmp_gt (off := 24) (tgt := 65) (nx := 44) (by decide +kernel) (fun h => absurd h (by decide)) (fun _ => ?_)
  refine M.blk (is := [(.lload 4, 4, 0, 0), (.aload_n 0, 0, 0, 0), (.iload_n 3, 3, 0, 0), (.iload 6, 6, 0, 0)]) (pc1 := 50) (lo1 := [(6, .int 12), (4, .long (jn (jn (jn (jn (jn hh (cellX PA PS (nI k) 0)) (cellX PA PS (nI k) 1)) (cellX PA PS (nI k) 2)) (cellX PA PS (nI k) 10)) (cellX PA PS (nI k) 11))), (0, .ref 100), (1, .long hh), (3, .int (nI k))]) (st1 := [.int 12, .int (nI k), .ref 100, .long (jn (jn (jn (jn (jn hh (cellX PA PS (nI k) 0)) (cellX PA PS (nI k) 1)) (cellX PA PS (nI k) 2)) (cellX PA PS (nI k) 10)) (cellX PA PS (nI k) 11))]) (w1 := (WX pgC pgL stC (nI sl) PA PS BA BS u)) (by decide +kernel) rfl ?_
  refine M.callVi (as := [.int (nI k), .int 12]) (st := [.long (jn (jn (jn (jn (jn hh (cellX PA PS (nI k) 0)) (cellX PA PS (nI k) 1)) (cellX PA PS (nI k) 2)) (cellX PA PS (nI k) 10)) (cellX PA PS (nI k) 11))]) (nx := 53) okX3_cell lkX3_174 (x_cell (nI k) 12) (by decide +kernel) (by decide) rfl (Nat.le_of_ble_eq_true rfl) rfl (by decide) ?_
  refine M.blk (is := [(.i2l, 0, 0, 0)]) (pc1 := 54) (lo1 := [(6, .int 12), (4, .long (jn (jn (jn (jn (jn hh (cellX PA PS (nI k) 0)) (cellX PA PS (nI k) 1)) (cellX PA PS (nI k) 2)) (cellX PA PS (nI k) 10)) (cellX PA PS (nI k) 11))), (0, .ref 100), (1, .long hh), (3, .int (nI k))]) (st1 := [.long ((cellX PA PS (nI k) 12 : Int32).toInt64), .long (jn (jn (jn (jn (jn hh (cellX PA PS (nI k) 0)) (cellX PA PS (nI k) 1)) (cellX PA PS (nI k) 2)) (cellX PA PS (nI k) 10)) (cellX PA PS (nI k) 11))]) (w1 := (WX pgC pgL stC (nI sl) PA PS BA BS u)) (by decide +kernel) rfl ?_
  refine M.callSl (as := [.long (jn (jn (jn (jn (jn hh (cellX PA PS (nI k) 0)) (cellX PA PS (nI k) 1)) (cellX PA PS (nI k) 2)) (cellX PA PS (nI k) 10)) (cellX PA PS (nI k) 11)), .long ((cellX PA PS (nI k) 12 : Int32).toInt64)]) (st := []) (nx := 57) okX3_join lkX3_164 (s_join (WX pgC pgL stC (nI sl) PA PS BA BS u) (jn (jn (jn (jn (jn hh (cellX PA PS (nI k) 0)) (cellX PA PS (nI k) 1)) (cellX PA PS (nI k) 2)) (cellX PA PS (nI k) 10)) (cellX PA PS (nI k) 11)) ((cellX PA PS (nI k) 12 : Int32).toInt64)) (by decide +kernel) (by decide) rfl (Nat.le_of_ble_eq_true rfl) ?_
  refine M.blk (is := [(.lstore 4, 4, 0, 0), (.iinc 6 1, 6, 0, 1), (.goto (-25), 37, 0, 0), (.iload 6, 6, 0, 0), (.bipush 13, 0, 0, 13)]) (pc1 := 41) (lo1 := [(6, .int 13), (4, .long (jn (jn (jn (jn (jn (jn hh (cellX PA PS (nI k) 0)) (cellX PA PS (nI k) 1)) (cellX PA PS (nI k) 2)) (cellX PA PS (nI k) 10)) (cellX PA PS (nI k) 11)) (cellX PA PS (nI k) 12))), (0, .ref 100), (1, .long hh), (3, .int (nI k))]) (st1 := [.int 13, .int 13]) (w1 := (WX pgC pgL stC (nI sl) PA PS BA BS u)) (by decide +kernel) rfl ?_
  refine M.icmp_gt (off := 24) (tgt := 65) (nx := 44) (by decide +kernel) (fun h => absurd h (by decide)) (fun _ => ?_)
  refine M.blk (is := [(.lload 4, 4, 0, 0), (.aload_n 0, 0, 0, 0), (.iload_n 3, 3, 0, 0), (.iload 6, 6, 0, 0)]) (pc1 := 50) (lo1 := [(6, .int 13), (4, .long (jn (jn (jn (jn (jn (jn hh (cellX PA PS (nI k) 0)) (cellX PA PS (nI k) 1)) (cellX PA PS (nI k) 2)) (cellX PA PS (nI k) 10)) (cellX PA PS (nI k) 11)) (cellX PA PS (nI k) 12))), (0, .ref 100), (1, .long hh), (3, .int (nI k))]) (st1 := [.int 13, .int (nI k), .ref 100, .long (jn (jn (jn (jn (jn (jn hh (cellX PA PS (nI k) 0)) (cellX PA PS (nI k) 1)) (cellX PA PS (nI k) 2)) (cellX PA PS (nI k) 10)) (cellX PA PS (nI k) 11)) (cellX PA PS (nI k) 12))]) (w1 := (WX pgC pgL stC (nI sl) PA PS BA BS u)) (by decide +kernel) rfl ?_
  refine M.callVi (as := [.int (nI k), .int 13]) (st := [.long (jn (jn (jn (jn (jn (jn hh (cellX PA PS (nI k) 0)) (cellX PA PS (nI k) 1)) (cellX PA PS (nI k) 2)) (cellX PA PS (nI k) 10)) (cellX PA PS (nI k) 11)) (cellX PA PS (nI k) 12))]) (nx := 53) okX3_cell lkX3_174 (x_cell (nI k) 13) (by decide +kernel) (by decide) rfl (Nat.le_of_ble_eq_true rfl) rfl (by decide) ?_
  refine M.blk (is := [(.i2l, 0, 0, 0)]) (pc1 := 54) (lo1 := [(6, .int 13), (4, .long (jn (jn (jn (jn (jn (jn hh (cellX PA PS (nI k) 0)) (cellX PA PS (nI k) 1)) (cellX PA PS (nI k) 2)) (cellX PA PS (nI k) 10)) (cellX PA PS (nI k) 11)) (cellX PA PS (nI k) 12))), (0, .ref 100), (1, .long hh), (3, .int (nI k))]) (st1 := [.long ((cellX PA PS (nI k) 13 : Int32).toInt64), .long (jn (jn (jn (jn (jn (jn hh (cellX PA PS (nI k) 0)) (cellX PA PS (nI k) 1)) (cellX PA PS (nI k) 2)) (cellX PA PS (nI k) 10)) (cellX PA PS (nI k) 11)) (cellX PA PS (nI k) 12))]) (w1 := (WX pgC pgL stC (nI sl) PA PS BA BS u)) (by decide +kernel) rfl ?_
  refine M.callSl (as := [.long (jn (jn (jn (jn (jn (jn hh (cellX PA PS (nI k) 0)) (cellX PA PS (nI k) 1)) (cellX PA PS (nI k) 2)) (cellX PA PS (nI k) 10)) (cellX PA PS (nI k) 11)) (cellX PA PS (nI k) 12)), .long ((cellX PA PS (nI k) 13 : Int32).toInt64)]) (st := []) (nx := 57) okX3_join lkX3_164 (s_join (WX pgC pgL stC (nI sl) PA PS BA BS u) (jn (jn (jn (jn (jn (jn hh (cellX PA PS (nI k) 0)) (cellX PA PS (nI k) 1)) (cellX PA PS (nI k) 2)) (cellX PA PS (nI k) 10)) (cellX PA PS (nI k) 11)) (cellX PA PS (nI k) 12)) ((cellX PA PS (nI k) 13 : Int32).toInt64)) (by decide +kernel) (by decide) rfl (Nat.le_of_ble_eq_true rfl) ?_
  refine M.blk (is := [(.lstore 4, 4, 0, 0), (.iinc 6 1, 6, 0, 1), (.goto (-25), 37, 0, 0), (.iload 6, 6, 0, 0), (.bipush 13, 0, 0, 13)]) (pc1 := 41) (lo1 := [(6, .int 14), (4, .long (jn (jn (jn (jn (jn (jn (jn hh (cellX PA PS (nI k) 0)) (cellX PA PS (nI k) 1)) (cellX PA PS (nI k) 2)) (cellX PA PS (nI k) 10)) (cellX PA PS (nI k) 11)) (cellX PA PS (nI k) 12)) (cellX PA PS (nI k) 13))), (0, .ref 100), (1, .long hh), (3, .int (nI k))]) (st1 := [.int 13, .int 14]) (w1 := (WX pgC pgL stC (nI sl) PA PS BA BS u)) (by decide +kernel) rfl ?_
  refine M.icmp_gt (off := 24) (tgt := 65) (nx := 44) (by decide +kernel) (fun _ => ?_) (fun h => absurd h (by decide))
  refine M.blk (is := [(.lload 4, 4, 0, 0), (.aload_n 0, 0, 0, 0), (.iload_n 3, 3, 0, 0)]) (pc1 := 69) (lo1 := [(6, .int 14), (4, .long (jn (jn (jn (jn (jn (jn (jn hh (cellX PA PS (nI k) 0)) (cellX PA PS (nI k) 1)) (cellX PA PS (nI k) 2)) (cellX PA PS (nI k) 10)) (cellX PA PS (nI k) 11)) (cellX PA PS (nI k) 12)) (cellX PA PS (nI k) 13))), (0, .ref 100), (1, .long hh), (3, .int (nI k))]) (st1 := [.int (nI k), .ref 100, .long (jn (jn (jn (jn (jn (jn (jn hh (cellX PA PS (nI k) 0)) (cellX PA PS (nI k) 1)) (cellX PA PS (nI k) 2)) (cellX PA PS (nI k) 10)) (cellX PA PS (nI k) 11)) (cellX PA PS (nI k) 12)) (cellX PA PS (nI k) 13))]) (w1 := (WX pgC pgL stC (nI sl) PA PS BA BS u)) (by decide +kernel) rfl ?_
  refine M.callV (as := [.int (nI k)]) (st := [.long (jn (jn (jn (jn (jn (jn (jn hh (cellX PA PS (nI k) 0)) (cellX PA PS (nI k) 1)) (cellX PA PS (nI k) 2)) (cellX PA PS (nI k) 10)) (cellX PA PS (nI k) 11)) (cellX PA PS (nI k) 12)) (cellX PA PS (nI k) 13))]) (nx := 72) okX3_seen lkX3_177 (x_seen hsl hgeo hpl hbn (nI k)) (by decide +kernel) (by decide) rfl (Nat.le_of_ble_eq_true rfl) rfl (by decide) ⟨by decide, by decide⟩ ?_
  intro r0 w1 hq
  rcases hq with ⟨hno, _⟩ | ⟨k2, hk2, e1, rfl, BB, BT, rfl, hB⟩
  · exact absurd rfl (hno k hk)
  obtain rfl : k = k2 := nI_inj (by omega) (by omega) e1
  show g 0 0 72 [(6, .int 14), (4, .long (jn (jn (jn (jn (jn (jn (jn hh (cellX PA PS (nI k) 0)) (cellX PA PS (nI k) 1)) (cellX PA PS (nI k) 2)) (cellX PA PS (nI k) 10)) (cellX PA PS (nI k) 11)) (cellX PA PS (nI k) 12)) (cellX PA PS (nI k) 13))), (0, .ref 100), (1, .long hh), (3, .int (nI k))] [.int ((smS 3 0 (tauG r c k) stC sl).2.2.1), .long (jn (jn (jn (jn (jn (jn (jn hh (cellX PA PS (nI k) 0)) (cellX PA PS (nI k) 1)) (cellX PA PS (nI k) 2)) (cellX PA PS (nI k) 10)) (cellX PA PS (nI k) 11)) (cellX PA PS (nI k) 12)) (cellX PA PS (nI k) 13))] (WX pgC pgL stC (nI sl) PA PS BB BT u)
  refine M.blk (is := [(.i2l, 0, 0, 0)]) (pc1 := 73) (lo1 := [(6, .int 14), (4, .long (jn (jn (jn (jn (jn (jn (jn hh (cellX PA PS (nI k) 0)) (cellX PA PS (nI k) 1)) (cellX PA PS (nI k) 2)) (cellX PA PS (nI k) 10)) (cellX PA PS (nI k) 11)) (cellX PA PS (nI k) 12)) (cellX PA PS (nI k) 13))), (0, .ref 100), (1, .long hh), (3, .int (nI k))]) (st1 := [.long (((smS 3 0 (tauG r c k) stC sl).2.2.1 : Int32).toInt64), .long (jn (jn (jn (jn (jn (jn (jn hh (cellX PA PS (nI k) 0)) (cellX PA PS (nI k) 1)) (cellX PA PS (nI k) 2)) (cellX PA PS (nI k) 10)) (cellX PA PS (nI k) 11)) (cellX PA PS (nI k) 12)) (cellX PA PS (nI k) 13))]) (w1 := (WX pgC pgL stC (nI sl) PA PS BB BT u)) (by decide +kernel) rfl ?_
  refine M.callSl (as := [.long (jn (jn (jn (jn (jn (jn (jn hh (cellX PA PS (nI k) 0)) (cellX PA PS (nI k) 1)) (cellX PA PS (nI k) 2)) (cellX PA PS (nI k) 10)) (cellX PA PS (nI k) 11)) (cellX PA PS (nI k) 12)) (cellX PA PS (nI k) 13)), .long (((smS 3 0 (tauG r c k) stC sl).2.2.1 : Int32).toInt64)]) (st := []) (nx := 76) okX3_join lkX3_164 (s_join (WX pgC pgL stC (nI sl) PA PS BB BT u) (jn (jn (jn (jn (jn (jn (jn hh (cellX PA PS (nI k) 0)) (cellX PA PS (nI k) 1)) (cellX PA PS (nI k) 2)) (cellX PA PS (nI k) 10)) (cellX PA PS (nI k) 11)) (cellX PA PS (nI k) 12)) (cellX PA PS (nI k) 13)) (((smS 3 0 (tauG r c k) stC sl).2.2.1 : Int32).toInt64)) (by decide +kernel) (by decide) rfl (Nat.le_of_ble_eq_true rfl) ?_
  exact M.retl (nx := 77) (by decide +kernel) ⟨rfl, BB, BT, rfl, hB⟩
theorem x_joinFound01 {sl : Nat} (hsl : sl ≤ 64) {r c f h t : Nat} (hgeo : GeoOk r c f h t) (hpl : PlOk r c f h t PA PS) (hbn : BnOk PA PS stC sl BA BS) {k : Nat} (hk : k < r * c) (hh : Int64) : CC 5 mX3_joinFound 0 0 [.ref 100, .long hh, .int (nI k), .int 0, .int 1] (WX pgC pgL stC (nI sl) PA PS BA BS u) (fun r0 w1 => r0 = some (.long (jfF r c stC sl (jfF r c stC sl hh k 0) k 1)) ∧ ∃ BB BT, w1 = WX pgC pgL stC (nI sl) PA PS BB BT u ∧ BnOk PA PS stC sl BB BT) := by
  have h25 : r * c ≤ 25 := Nat.mul_le_mul hgeo.1.2 hgeo.2.1.2
  have h9a : 9 ≤ r * c := Nat.mul_le_mul hgeo.1.1 hgeo.2.1.1
  refine CC.of okX3_joinFound.1 (Nat.le_of_ble_eq_true rfl) (fun g M => ?_)
  show g 0 0 0 [(0, .ref 100), (1, .long hh), (3, .int (nI k)), (4, .int 0), (5, .int 1)] [] (WX pgC pgL stC (nI sl) PA PS BA BS u)
  refine M.blk (is := [(.lload_n 1, 1, 0, 0), (.lstore 6, 6, 0, 0), (.iload 4, 4, 0, 0), (.istore 8, 8, 0, 0), (.iload 8, 8, 0, 0), (.iload 5, 5, 0, 0)]) (pc1 := 11) (lo1 := [(8, .int 0), (6, .long hh), (0, .ref 100), (1, .long hh), (3, .int (nI k)), (4, .int 0), (5, .int 1)]) (st1 := [.int 1, .int 0]) (w1 := (WX pgC pgL stC (nI sl) PA PS BA BS u)) (by decide +kernel) rfl ?_
  refine M.icmp_gt (off := 41) (tgt := 52) (nx := 14) (by decide +kernel) (fun h => absurd h (by decide)) (fun _ => ?_)
  refine M.blk (is := [(.iconst 0, 0, 0, 0), (.istore 9, 9, 0, 0), (.iload 9, 9, 0, 0), (.iconst 3, 0, 0, 3)]) (pc1 := 20) (lo1 := [(9, .int 0), (8, .int 0), (6, .long hh), (0, .ref 100), (1, .long hh), (3, .int (nI k)), (4, .int 0), (5, .int 1)]) (st1 := [.int 3, .int 0]) (w1 := (WX pgC pgL stC (nI sl) PA PS BA BS u)) (by decide +kernel) rfl ?_
  refine M.icmp_gt (off := 26) (tgt := 46) (nx := 23) (by decide +kernel) (fun h => absurd h (by decide)) (fun _ => ?_)
  refine M.blk (is := [(.lload 6, 6, 0, 0), (.aload_n 0, 0, 0, 0), (.iload_n 3, 3, 0, 0), (.iload 8, 8, 0, 0), (.iload 9, 9, 0, 0)]) (pc1 := 31) (lo1 := [(9, .int 0), (8, .int 0), (6, .long hh), (0, .ref 100), (1, .long hh), (3, .int (nI k)), (4, .int 0), (5, .int 1)]) (st1 := [.int 0, .int 0, .int (nI k), .ref 100, .long hh]) (w1 := (WX pgC pgL stC (nI sl) PA PS BA BS u)) (by decide +kernel) rfl ?_
  refine M.callV (as := [.int (nI k), .int 0, .int 0]) (st := [.long hh]) (nx := 34) okX3_found lkX3_180 (x_found hsl hgeo hpl hbn (nI k) 0 0) (by decide +kernel) (by decide) rfl (Nat.le_of_ble_eq_true rfl) rfl (by decide) ⟨by decide, by decide⟩ ?_
  intro r0 w1 hq
  rcases hq with ⟨hno, _⟩ | ⟨k2, κ2, _, _, _, _, ho, _⟩ | ⟨k2, κ2, hk2, hκ2, e1, e2, _, rfl, B1, T1, rfl, hB1⟩
  · exact absurd ⟨rfl, rfl⟩ (hno k 0 hk (by decide))
  · exact absurd ho (by unfold outY; decide)
  obtain rfl : k = k2 := nI_inj (by omega) (by omega) e1
  obtain rfl : κ2 = 0 := nI_inj (by omega) (by decide) e2.symm
  show g 0 0 34 [(9, .int 0), (8, .int 0), (6, .long hh), (0, .ref 100), (1, .long hh), (3, .int (nI k)), (4, .int 0), (5, .int 1)] [.int (fdF r c stC sl k 0 0), .long hh] (WX pgC pgL stC (nI sl) PA PS B1 T1 u)
  refine M.blk (is := [(.i2l, 0, 0, 0)]) (pc1 := 35) (lo1 := [(9, .int 0), (8, .int 0), (6, .long hh), (0, .ref 100), (1, .long hh), (3, .int (nI k)), (4, .int 0), (5, .int 1)]) (st1 := [.long ((fdF r c stC sl k 0 0 : Int32).toInt64), .long hh]) (w1 := (WX pgC pgL stC (nI sl) PA PS B1 T1 u)) (by decide +kernel) rfl ?_
  refine M.callSl (as := [.long hh, .long ((fdF r c stC sl k 0 0 : Int32).toInt64)]) (st := []) (nx := 38) okX3_join lkX3_164 (s_join (WX pgC pgL stC (nI sl) PA PS B1 T1 u) hh ((fdF r c stC sl k 0 0 : Int32).toInt64)) (by decide +kernel) (by decide) rfl (Nat.le_of_ble_eq_true rfl) ?_
  refine M.blk (is := [(.lstore 6, 6, 0, 0), (.iinc 9 1, 9, 0, 1), (.goto (-26), 17, 0, 0), (.iload 9, 9, 0, 0), (.iconst 3, 0, 0, 3)]) (pc1 := 20) (lo1 := [(9, .int 1), (6, .long (jn hh (fdF r c stC sl k 0 0))), (8, .int 0), (0, .ref 100), (1, .long hh), (3, .int (nI k)), (4, .int 0), (5, .int 1)]) (st1 := [.int 3, .int 1]) (w1 := (WX pgC pgL stC (nI sl) PA PS B1 T1 u)) (by decide +kernel) rfl ?_
  refine M.icmp_gt (off := 26) (tgt := 46) (nx := 23) (by decide +kernel) (fun h => absurd h (by decide)) (fun _ => ?_)
  refine M.blk (is := [(.lload 6, 6, 0, 0), (.aload_n 0, 0, 0, 0), (.iload_n 3, 3, 0, 0), (.iload 8, 8, 0, 0), (.iload 9, 9, 0, 0)]) (pc1 := 31) (lo1 := [(9, .int 1), (6, .long (jn hh (fdF r c stC sl k 0 0))), (8, .int 0), (0, .ref 100), (1, .long hh), (3, .int (nI k)), (4, .int 0), (5, .int 1)]) (st1 := [.int 1, .int 0, .int (nI k), .ref 100, .long (jn hh (fdF r c stC sl k 0 0))]) (w1 := (WX pgC pgL stC (nI sl) PA PS B1 T1 u)) (by decide +kernel) rfl ?_
  refine M.callV (as := [.int (nI k), .int 0, .int 1]) (st := [.long (jn hh (fdF r c stC sl k 0 0))]) (nx := 34) okX3_found lkX3_180 (x_found hsl hgeo hpl hB1 (nI k) 0 1) (by decide +kernel) (by decide) rfl (Nat.le_of_ble_eq_true rfl) rfl (by decide) ⟨by decide, by decide⟩ ?_
  intro r0 w1 hq
  rcases hq with ⟨hno, _⟩ | ⟨k2, κ2, _, _, _, _, ho, _⟩ | ⟨k2, κ2, hk2, hκ2, e1, e2, _, rfl, B2, T2, rfl, hB2⟩
  · exact absurd ⟨rfl, rfl⟩ (hno k 0 hk (by decide))
  · exact absurd ho (by unfold outY; decide)
  obtain rfl : k = k2 := nI_inj (by omega) (by omega) e1
  obtain rfl : κ2 = 0 := nI_inj (by omega) (by decide) e2.symm
  show g 0 0 34 [(9, .int 1), (6, .long (jn hh (fdF r c stC sl k 0 0))), (8, .int 0), (0, .ref 100), (1, .long hh), (3, .int (nI k)), (4, .int 0), (5, .int 1)] [.int (fdF r c stC sl k 0 1), .long (jn hh (fdF r c stC sl k 0 0))] (WX pgC pgL stC (nI sl) PA PS B2 T2 u)
  refine M.blk (is := [(.i2l, 0, 0, 0)]) (pc1 := 35) (lo1 := [(9, .int 1), (6, .long (jn hh (fdF r c stC sl k 0 0))), (8, .int 0), (0, .ref 100), (1, .long hh), (3, .int (nI k)), (4, .int 0), (5, .int 1)]) (st1 := [.long ((fdF r c stC sl k 0 1 : Int32).toInt64), .long (jn hh (fdF r c stC sl k 0 0))]) (w1 := (WX pgC pgL stC (nI sl) PA PS B2 T2 u)) (by decide +kernel) rfl ?_
  refine M.callSl (as := [.long (jn hh (fdF r c stC sl k 0 0)), .long ((fdF r c stC sl k 0 1 : Int32).toInt64)]) (st := []) (nx := 38) okX3_join lkX3_164 (s_join (WX pgC pgL stC (nI sl) PA PS B2 T2 u) (jn hh (fdF r c stC sl k 0 0)) ((fdF r c stC sl k 0 1 : Int32).toInt64)) (by decide +kernel) (by decide) rfl (Nat.le_of_ble_eq_true rfl) ?_
  refine M.blk (is := [(.lstore 6, 6, 0, 0), (.iinc 9 1, 9, 0, 1), (.goto (-26), 17, 0, 0), (.iload 9, 9, 0, 0), (.iconst 3, 0, 0, 3)]) (pc1 := 20) (lo1 := [(9, .int 2), (6, .long (jn (jn hh (fdF r c stC sl k 0 0)) (fdF r c stC sl k 0 1))), (8, .int 0), (0, .ref 100), (1, .long hh), (3, .int (nI k)), (4, .int 0), (5, .int 1)]) (st1 := [.int 3, .int 2]) (w1 := (WX pgC pgL stC (nI sl) PA PS B2 T2 u)) (by decide +kernel) rfl ?_
  refine M.icmp_gt (off := 26) (tgt := 46) (nx := 23) (by decide +kernel) (fun h => absurd h (by decide)) (fun _ => ?_)
  refine M.blk (is := [(.lload 6, 6, 0, 0), (.aload_n 0, 0, 0, 0), (.iload_n 3, 3, 0, 0), (.iload 8, 8, 0, 0), (.iload 9, 9, 0, 0)]) (pc1 := 31) (lo1 := [(9, .int 2), (6, .long (jn (jn hh (fdF r c stC sl k 0 0)) (fdF r c stC sl k 0 1))), (8, .int 0), (0, .ref 100), (1, .long hh), (3, .int (nI k)), (4, .int 0), (5, .int 1)]) (st1 := [.int 2, .int 0, .int (nI k), .ref 100, .long (jn (jn hh (fdF r c stC sl k 0 0)) (fdF r c stC sl k 0 1))]) (w1 := (WX pgC pgL stC (nI sl) PA PS B2 T2 u)) (by decide +kernel) rfl ?_
  refine M.callV (as := [.int (nI k), .int 0, .int 2]) (st := [.long (jn (jn hh (fdF r c stC sl k 0 0)) (fdF r c stC sl k 0 1))]) (nx := 34) okX3_found lkX3_180 (x_found hsl hgeo hpl hB2 (nI k) 0 2) (by decide +kernel) (by decide) rfl (Nat.le_of_ble_eq_true rfl) rfl (by decide) ⟨by decide, by decide⟩ ?_
  intro r0 w1 hq
  rcases hq with ⟨hno, _⟩ | ⟨k2, κ2, _, _, _, _, ho, _⟩ | ⟨k2, κ2, hk2, hκ2, e1, e2, _, rfl, B3, T3, rfl, hB3⟩
  · exact absurd ⟨rfl, rfl⟩ (hno k 0 hk (by decide))
  · exact absurd ho (by unfold outY; decide)
  obtain rfl : k = k2 := nI_inj (by omega) (by omega) e1
  obtain rfl : κ2 = 0 := nI_inj (by omega) (by decide) e2.symm
  show g 0 0 34 [(9, .int 2), (6, .long (jn (jn hh (fdF r c stC sl k 0 0)) (fdF r c stC sl k 0 1))), (8, .int 0), (0, .ref 100), (1, .long hh), (3, .int (nI k)), (4, .int 0), (5, .int 1)] [.int (fdF r c stC sl k 0 2), .long (jn (jn hh (fdF r c stC sl k 0 0)) (fdF r c stC sl k 0 1))] (WX pgC pgL stC (nI sl) PA PS B3 T3 u)
  refine M.blk (is := [(.i2l, 0, 0, 0)]) (pc1 := 35) (lo1 := [(9, .int 2), (6, .long (jn (jn hh (fdF r c stC sl k 0 0)) (fdF r c stC sl k 0 1))), (8, .int 0), (0, .ref 100), (1, .long hh), (3, .int (nI k)), (4, .int 0), (5, .int 1)]) (st1 := [.long ((fdF r c stC sl k 0 2 : Int32).toInt64), .long (jn (jn hh (fdF r c stC sl k 0 0)) (fdF r c stC sl k 0 1))]) (w1 := (WX pgC pgL stC (nI sl) PA PS B3 T3 u)) (by decide +kernel) rfl ?_
  refine M.callSl (as := [.long (jn (jn hh (fdF r c stC sl k 0 0)) (fdF r c stC sl k 0 1)), .long ((fdF r c stC sl k 0 2 : Int32).toInt64)]) (st := []) (nx := 38) okX3_join lkX3_164 (s_join (WX pgC pgL stC (nI sl) PA PS B3 T3 u) (jn (jn hh (fdF r c stC sl k 0 0)) (fdF r c stC sl k 0 1)) ((fdF r c stC sl k 0 2 : Int32).toInt64)) (by decide +kernel) (by decide) rfl (Nat.le_of_ble_eq_true rfl) ?_
  refine M.blk (is := [(.lstore 6, 6, 0, 0), (.iinc 9 1, 9, 0, 1), (.goto (-26), 17, 0, 0), (.iload 9, 9, 0, 0), (.iconst 3, 0, 0, 3)]) (pc1 := 20) (lo1 := [(9, .int 3), (6, .long (jn (jn (jn hh (fdF r c stC sl k 0 0)) (fdF r c stC sl k 0 1)) (fdF r c stC sl k 0 2))), (8, .int 0), (0, .ref 100), (1, .long hh), (3, .int (nI k)), (4, .int 0), (5, .int 1)]) (st1 := [.int 3, .int 3]) (w1 := (WX pgC pgL stC (nI sl) PA PS B3 T3 u)) (by decide +kernel) rfl ?_
  refine M.icmp_gt (off := 26) (tgt := 46) (nx := 23) (by decide +kernel) (fun h => absurd h (by decide)) (fun _ => ?_)
  refine M.blk (is := [(.lload 6, 6, 0, 0), (.aload_n 0, 0, 0, 0), (.iload_n 3, 3, 0, 0), (.iload 8, 8, 0, 0), (.iload 9, 9, 0, 0)]) (pc1 := 31) (lo1 := [(9, .int 3), (6, .long (jn (jn (jn hh (fdF r c stC sl k 0 0)) (fdF r c stC sl k 0 1)) (fdF r c stC sl k 0 2))), (8, .int 0), (0, .ref 100), (1, .long hh), (3, .int (nI k)), (4, .int 0), (5, .int 1)]) (st1 := [.int 3, .int 0, .int (nI k), .ref 100, .long (jn (jn (jn hh (fdF r c stC sl k 0 0)) (fdF r c stC sl k 0 1)) (fdF r c stC sl k 0 2))]) (w1 := (WX pgC pgL stC (nI sl) PA PS B3 T3 u)) (by decide +kernel) rfl ?_
  refine M.callV (as := [.int (nI k), .int 0, .int 3]) (st := [.long (jn (jn (jn hh (fdF r c stC sl k 0 0)) (fdF r c stC sl k 0 1)) (fdF r c stC sl k 0 2))]) (nx := 34) okX3_found lkX3_180 (x_found hsl hgeo hpl hB3 (nI k) 0 3) (by decide +kernel) (by decide) rfl (Nat.le_of_ble_eq_true rfl) rfl (by decide) ⟨by decide, by decide⟩ ?_
  intro r0 w1 hq
  rcases hq with ⟨hno, _⟩ | ⟨k2, κ2, _, _, _, _, ho, _⟩ | ⟨k2, κ2, hk2, hκ2, e1, e2, _, rfl, B4, T4, rfl, hB4⟩
  · exact absurd ⟨rfl, rfl⟩ (hno k 0 hk (by decide))
  · exact absurd ho (by unfold outY; decide)
  obtain rfl : k = k2 := nI_inj (by omega) (by omega) e1
  obtain rfl : κ2 = 0 := nI_inj (by omega) (by decide) e2.symm
  show g 0 0 34 [(9, .int 3), (6, .long (jn (jn (jn hh (fdF r c stC sl k 0 0)) (fdF r c stC sl k 0 1)) (fdF r c stC sl k 0 2))), (8, .int 0), (0, .ref 100), (1, .long hh), (3, .int (nI k)), (4, .int 0), (5, .int 1)] [.int (fdF r c stC sl k 0 3), .long (jn (jn (jn hh (fdF r c stC sl k 0 0)) (fdF r c stC sl k 0 1)) (fdF r c stC sl k 0 2))] (WX pgC pgL stC (nI sl) PA PS B4 T4 u)
  refine M.blk (is := [(.i2l, 0, 0, 0)]) (pc1 := 35) (lo1 := [(9, .int 3), (6, .long (jn (jn (jn hh (fdF r c stC sl k 0 0)) (fdF r c stC sl k 0 1)) (fdF r c stC sl k 0 2))), (8, .int 0), (0, .ref 100), (1, .long hh), (3, .int (nI k)), (4, .int 0), (5, .int 1)]) (st1 := [.long ((fdF r c stC sl k 0 3 : Int32).toInt64), .long (jn (jn (jn hh (fdF r c stC sl k 0 0)) (fdF r c stC sl k 0 1)) (fdF r c stC sl k 0 2))]) (w1 := (WX pgC pgL stC (nI sl) PA PS B4 T4 u)) (by decide +kernel) rfl ?_
  refine M.callSl (as := [.long (jn (jn (jn hh (fdF r c stC sl k 0 0)) (fdF r c stC sl k 0 1)) (fdF r c stC sl k 0 2)), .long ((fdF r c stC sl k 0 3 : Int32).toInt64)]) (st := []) (nx := 38) okX3_join lkX3_164 (s_join (WX pgC pgL stC (nI sl) PA PS B4 T4 u) (jn (jn (jn hh (fdF r c stC sl k 0 0)) (fdF r c stC sl k 0 1)) (fdF r c stC sl k 0 2)) ((fdF r c stC sl k 0 3 : Int32).toInt64)) (by decide +kernel) (by decide) rfl (Nat.le_of_ble_eq_true rfl) ?_
  refine M.blk (is := [(.lstore 6, 6, 0, 0), (.iinc 9 1, 9, 0, 1), (.goto (-26), 17, 0, 0), (.iload 9, 9, 0, 0), (.iconst 3, 0, 0, 3)]) (pc1 := 20) (lo1 := [(9, .int 4), (6, .long (jn (jn (jn (jn hh (fdF r c stC sl k 0 0)) (fdF r c stC sl k 0 1)) (fdF r c stC sl k 0 2)) (fdF r c stC sl k 0 3))), (8, .int 0), (0, .ref 100), (1, .long hh), (3, .int (nI k)), (4, .int 0), (5, .int 1)]) (st1 := [.int 3, .int 4]) (w1 := (WX pgC pgL stC (nI sl) PA PS B4 T4 u)) (by decide +kernel) rfl ?_
  refine M.icmp_gt (off := 26) (tgt := 46) (nx := 23) (by decide +kernel) (fun _ => ?_) (fun h => absurd h (by decide))
  refine M.blk (is := [(.iinc 8 1, 8, 0, 1), (.goto (-42), 7, 0, 0), (.iload 8, 8, 0, 0), (.iload 5, 5, 0, 0)]) (pc1 := 11) (lo1 := [(8, .int 1), (9, .int 4), (6, .long (jn (jn (jn (jn hh (fdF r c stC sl k 0 0)) (fdF r c stC sl k 0 1)) (fdF r c stC sl k 0 2)) (fdF r c stC sl k 0 3))), (0, .ref 100), (1, .long hh), (3, .int (nI k)), (4, .int 0), (5, .int 1)]) (st1 := [.int 1, .int 1]) (w1 := (WX pgC pgL stC (nI sl) PA PS B4 T4 u)) (by decide +kernel) rfl ?_
  refine M.icmp_gt (off := 41) (tgt := 52) (nx := 14) (by decide +kernel) (fun h => absurd h (by decide)) (fun _ => ?_)
  refine M.blk (is := [(.iconst 0, 0, 0, 0), (.istore 9, 9, 0, 0), (.iload 9, 9, 0, 0), (.iconst 3, 0, 0, 3)]) (pc1 := 20) (lo1 := [(9, .int 0), (8, .int 1), (6, .long (jn (jn (jn (jn hh (fdF r c stC sl k 0 0)) (fdF r c stC sl k 0 1)) (fdF r c stC sl k 0 2)) (fdF r c stC sl k 0 3))), (0, .ref 100), (1, .long hh), (3, .int (nI k)), (4, .int 0), (5, .int 1)]) (st1 := [.int 3, .int 0]) (w1 := (WX pgC pgL stC (nI sl) PA PS B4 T4 u)) (by decide +kernel) rfl ?_
  refine M.icmp_gt (off := 26) (tgt := 46) (nx := 23) (by decide +kernel) (fun h => absurd h (by decide)) (fun _ => ?_)
  refine M.blk (is := [(.lload 6, 6, 0, 0), (.aload_n 0, 0, 0, 0), (.iload_n 3, 3, 0, 0), (.iload 8, 8, 0, 0), (.iload 9, 9, 0, 0)]) (pc1 := 31) (lo1 := [(9, .int 0), (8, .int 1), (6, .long (jn (jn (jn (jn hh (fdF r c stC sl k 0 0)) (fdF r c stC sl k 0 1)) (fdF r c stC sl k 0 2)) (fdF r c stC sl k 0 3))), (0, .ref 100), (1, .long hh), (3, .int (nI k)), (4, .int 0), (5, .int 1)]) (st1 := [.int 0, .int 1, .int (nI k), .ref 100, .long (jn (jn (jn (jn hh (fdF r c stC sl k 0 0)) (fdF r c stC sl k 0 1)) (fdF r c stC sl k 0 2)) (fdF r c stC sl k 0 3))]) (w1 := (WX pgC pgL stC (nI sl) PA PS B4 T4 u)) (by decide +kernel) rfl ?_
  refine M.callV (as := [.int (nI k), .int 1, .int 0]) (st := [.long (jn (jn (jn (jn hh (fdF r c stC sl k 0 0)) (fdF r c stC sl k 0 1)) (fdF r c stC sl k 0 2)) (fdF r c stC sl k 0 3))]) (nx := 34) okX3_found lkX3_180 (x_found hsl hgeo hpl hB4 (nI k) 1 0) (by decide +kernel) (by decide) rfl (Nat.le_of_ble_eq_true rfl) rfl (by decide) ⟨by decide, by decide⟩ ?_
  intro r0 w1 hq
  rcases hq with ⟨hno, _⟩ | ⟨k2, κ2, _, _, _, _, ho, _⟩ | ⟨k2, κ2, hk2, hκ2, e1, e2, _, rfl, B5, T5, rfl, hB5⟩
  · exact absurd ⟨rfl, rfl⟩ (hno k 1 hk (by decide))
  · exact absurd ho (by unfold outY; decide)
  obtain rfl : k = k2 := nI_inj (by omega) (by omega) e1
  obtain rfl : κ2 = 1 := nI_inj (by omega) (by decide) e2.symm
  show g 0 0 34 [(9, .int 0), (8, .int 1), (6, .long (jn (jn (jn (jn hh (fdF r c stC sl k 0 0)) (fdF r c stC sl k 0 1)) (fdF r c stC sl k 0 2)) (fdF r c stC sl k 0 3))), (0, .ref 100), (1, .long hh), (3, .int (nI k)), (4, .int 0), (5, .int 1)] [.int (fdF r c stC sl k 1 0), .long (jn (jn (jn (jn hh (fdF r c stC sl k 0 0)) (fdF r c stC sl k 0 1)) (fdF r c stC sl k 0 2)) (fdF r c stC sl k 0 3))] (WX pgC pgL stC (nI sl) PA PS B5 T5 u)
  refine M.blk (is := [(.i2l, 0, 0, 0)]) (pc1 := 35) (lo1 := [(9, .int 0), (8, .int 1), (6, .long (jn (jn (jn (jn hh (fdF r c stC sl k 0 0)) (fdF r c stC sl k 0 1)) (fdF r c stC sl k 0 2)) (fdF r c stC sl k 0 3))), (0, .ref 100), (1, .long hh), (3, .int (nI k)), (4, .int 0), (5, .int 1)]) (st1 := [.long ((fdF r c stC sl k 1 0 : Int32).toInt64), .long (jn (jn (jn (jn hh (fdF r c stC sl k 0 0)) (fdF r c stC sl k 0 1)) (fdF r c stC sl k 0 2)) (fdF r c stC sl k 0 3))]) (w1 := (WX pgC pgL stC (nI sl) PA PS B5 T5 u)) (by decide +kernel) rfl ?_
  refine M.callSl (as := [.long (jn (jn (jn (jn hh (fdF r c stC sl k 0 0)) (fdF r c stC sl k 0 1)) (fdF r c stC sl k 0 2)) (fdF r c stC sl k 0 3)), .long ((fdF r c stC sl k 1 0 : Int32).toInt64)]) (st := []) (nx := 38) okX3_join lkX3_164 (s_join (WX pgC pgL stC (nI sl) PA PS B5 T5 u) (jn (jn (jn (jn hh (fdF r c stC sl k 0 0)) (fdF r c stC sl k 0 1)) (fdF r c stC sl k 0 2)) (fdF r c stC sl k 0 3)) ((fdF r c stC sl k 1 0 : Int32).toInt64)) (by decide +kernel) (by decide) rfl (Nat.le_of_ble_eq_true rfl) ?_
  refine M.blk (is := [(.lstore 6, 6, 0, 0), (.iinc 9 1, 9, 0, 1), (.goto (-26), 17, 0, 0), (.iload 9, 9, 0, 0), (.iconst 3, 0, 0, 3)]) (pc1 := 20) (lo1 := [(9, .int 1), (6, .long (jn (jn (jn (jn (jn hh (fdF r c stC sl k 0 0)) (fdF r c stC sl k 0 1)) (fdF r c stC sl k 0 2)) (fdF r c stC sl k 0 3)) (fdF r c stC sl k 1 0))), (8, .int 1), (0, .ref 100), (1, .long hh), (3, .int (nI k)), (4, .int 0), (5, .int 1)]) (st1 := [.int 3, .int 1]) (w1 := (WX pgC pgL stC (nI sl) PA PS B5 T5 u)) (by decide +kernel) rfl ?_
  refine M.icmp_gt (off := 26) (tgt := 46) (nx := 23) (by decide +kernel) (fun h => absurd h (by decide)) (fun _ => ?_)
  refine M.blk (is := [(.lload 6, 6, 0, 0), (.aload_n 0, 0, 0, 0), (.iload_n 3, 3, 0, 0), (.iload 8, 8, 0, 0), (.iload 9, 9, 0, 0)]) (pc1 := 31) (lo1 := [(9, .int 1), (6, .long (jn (jn (jn (jn (jn hh (fdF r c stC sl k 0 0)) (fdF r c stC sl k 0 1)) (fdF r c stC sl k 0 2)) (fdF r c stC sl k 0 3)) (fdF r c stC sl k 1 0))), (8, .int 1), (0, .ref 100), (1, .long hh), (3, .int (nI k)), (4, .int 0), (5, .int 1)]) (st1 := [.int 1, .int 1, .int (nI k), .ref 100, .long (jn (jn (jn (jn (jn hh (fdF r c stC sl k 0 0)) (fdF r c stC sl k 0 1)) (fdF r c stC sl k 0 2)) (fdF r c stC sl k 0 3)) (fdF r c stC sl k 1 0))]) (w1 := (WX pgC pgL stC (nI sl) PA PS B5 T5 u)) (by decide +kernel) rfl ?_
  refine M.callV (as := [.int (nI k), .int 1, .int 1]) (st := [.long (jn (jn (jn (jn (jn hh (fdF r c stC sl k 0 0)) (fdF r c stC sl k 0 1)) (fdF r c stC sl k 0 2)) (fdF r c stC sl k 0 3)) (fdF r c stC sl k 1 0))]) (nx := 34) okX3_found lkX3_180 (x_found hsl hgeo hpl hB5 (nI k) 1 1) (by decide +kernel) (by decide) rfl (Nat.le_of_ble_eq_true rfl) rfl (by decide) ⟨by decide, by decide⟩ ?_
  intro r0 w1 hq
  rcases hq with ⟨hno, _⟩ | ⟨k2, κ2, _, _, _, _, ho, _⟩ | ⟨k2, κ2, hk2, hκ2, e1, e2, _, rfl, B6, T6, rfl, hB6⟩
  · exact absurd ⟨rfl, rfl⟩ (hno k 1 hk (by decide))
  · exact absurd ho (by unfold outY; decide)
  obtain rfl : k = k2 := nI_inj (by omega) (by omega) e1
  obtain rfl : κ2 = 1 := nI_inj (by omega) (by decide) e2.symm
  show g 0 0 34 [(9, .int 1), (6, .long (jn (jn (jn (jn (jn hh (fdF r c stC sl k 0 0)) (fdF r c stC sl k 0 1)) (fdF r c stC sl k 0 2)) (fdF r c stC sl k 0 3)) (fdF r c stC sl k 1 0))), (8, .int 1), (0, .ref 100), (1, .long hh), (3, .int (nI k)), (4, .int 0), (5, .int 1)] [.int (fdF r c stC sl k 1 1), .long (jn (jn (jn (jn (jn hh (fdF r c stC sl k 0 0)) (fdF r c stC sl k 0 1)) (fdF r c stC sl k 0 2)) (fdF r c stC sl k 0 3)) (fdF r c stC sl k 1 0))] (WX pgC pgL stC (nI sl) PA PS B6 T6 u)
  refine M.blk (is := [(.i2l, 0, 0, 0)]) (pc1 := 35) (lo1 := [(9, .int 1), (6, .long (jn (jn (jn (jn (jn hh (fdF r c stC sl k 0 0)) (fdF r c stC sl k 0 1)) (fdF r c stC sl k 0 2)) (fdF r c stC sl k 0 3)) (fdF r c stC sl k 1 0))), (8, .int 1), (0, .ref 100), (1, .long hh), (3, .int (nI k)), (4, .int 0), (5, .int 1)]) (st1 := [.long ((fdF r c stC sl k 1 1 : Int32).toInt64), .long (jn (jn (jn (jn (jn hh (fdF r c stC sl k 0 0)) (fdF r c stC sl k 0 1)) (fdF r c stC sl k 0 2)) (fdF r c stC sl k 0 3)) (fdF r c stC sl k 1 0))]) (w1 := (WX pgC pgL stC (nI sl) PA PS B6 T6 u)) (by decide +kernel) rfl ?_
  refine M.callSl (as := [.long (jn (jn (jn (jn (jn hh (fdF r c stC sl k 0 0)) (fdF r c stC sl k 0 1)) (fdF r c stC sl k 0 2)) (fdF r c stC sl k 0 3)) (fdF r c stC sl k 1 0)), .long ((fdF r c stC sl k 1 1 : Int32).toInt64)]) (st := []) (nx := 38) okX3_join lkX3_164 (s_join (WX pgC pgL stC (nI sl) PA PS B6 T6 u) (jn (jn (jn (jn (jn hh (fdF r c stC sl k 0 0)) (fdF r c stC sl k 0 1)) (fdF r c stC sl k 0 2)) (fdF r c stC sl k 0 3)) (fdF r c stC sl k 1 0)) ((fdF r c stC sl k 1 1 : Int32).toInt64)) (by decide +kernel) (by decide) rfl (Nat.le_of_ble_eq_true rfl) ?_
  refine M.blk (is := [(.lstore 6, 6, 0, 0), (.iinc 9 1, 9, 0, 1), (.goto (-26), 17, 0, 0), (.iload 9, 9, 0, 0), (.iconst 3, 0, 0, 3)]) (pc1 := 20) (lo1 := [(9, .int 2), (6, .long (jn (jn (jn (jn (jn (jn hh (fdF r c stC sl k 0 0)) (fdF r c stC sl k 0 1)) (fdF r c stC sl k 0 2)) (fdF r c stC sl k 0 3)) (fdF r c stC sl k 1 0)) (fdF r c stC sl k 1 1))), (8, .int 1), (0, .ref 100), (1, .long hh), (3, .int (nI k)), (4, .int 0), (5, .int 1)]) (st1 := [.int 3, .int 2]) (w1 := (WX pgC pgL stC (nI sl) PA PS B6 T6 u)) (by decide +kernel) rfl ?_
  refine M.icmp_gt (off := 26) (tgt := 46) (nx := 23) (by decide +kernel) (fun h => absurd h (by decide)) (fun _ => ?_)
  refine M.blk (is := [(.lload 6, 6, 0, 0), (.aload_n 0, 0, 0, 0), (.iload_n 3, 3, 0, 0), (.iload 8, 8, 0, 0), (.iload 9, 9, 0, 0)]) (pc1 := 31) (lo1 := [(9, .int 2), (6, .long (jn (jn (jn (jn (jn (jn hh (fdF r c stC sl k 0 0)) (fdF r c stC sl k 0 1)) (fdF r c stC sl k 0 2)) (fdF r c stC sl k 0 3)) (fdF r c stC sl k 1 0)) (fdF r c stC sl k 1 1))), (8, .int 1), (0, .ref 100), (1, .long hh), (3, .int (nI k)), (4, .int 0), (5, .int 1)]) (st1 := [.int 2, .int 1, .int (nI k), .ref 100, .long (jn (jn (jn (jn (jn (jn hh (fdF r c stC sl k 0 0)) (fdF r c stC sl k 0 1)) (fdF r c stC sl k 0 2)) (fdF r c stC sl k 0 3)) (fdF r c stC sl k 1 0)) (fdF r c stC sl k 1 1))]) (w1 := (WX pgC pgL stC (nI sl) PA PS B6 T6 u)) (by decide +kernel) rfl ?_
  refine M.callV (as := [.int (nI k), .int 1, .int 2]) (st := [.long (jn (jn (jn (jn (jn (jn hh (fdF r c stC sl k 0 0)) (fdF r c stC sl k 0 1)) (fdF r c stC sl k 0 2)) (fdF r c stC sl k 0 3)) (fdF r c stC sl k 1 0)) (fdF r c stC sl k 1 1))]) (nx := 34) okX3_found lkX3_180 (x_found hsl hgeo hpl hB6 (nI k) 1 2) (by decide +kernel) (by decide) rfl (Nat.le_of_ble_eq_true rfl) rfl (by decide) ⟨by decide, by decide⟩ ?_
  intro r0 w1 hq
  rcases hq with ⟨hno, _⟩ | ⟨k2, κ2, _, _, _, _, ho, _⟩ | ⟨k2, κ2, hk2, hκ2, e1, e2, _, rfl, B7, T7, rfl, hB7⟩
  · exact absurd ⟨rfl, rfl⟩ (hno k 1 hk (by decide))
  · exact absurd ho (by unfold outY; decide)
  obtain rfl : k = k2 := nI_inj (by omega) (by omega) e1
  obtain rfl : κ2 = 1 := nI_inj (by omega) (by decide) e2.symm
  show g 0 0 34 [(9, .int 2), (6, .long (jn (jn (jn (jn (jn (jn hh (fdF r c stC sl k 0 0)) (fdF r c stC sl k 0 1)) (fdF r c stC sl k 0 2)) (fdF r c stC sl k 0 3)) (fdF r c stC sl k 1 0)) (fdF r c stC sl k 1 1))), (8, .int 1), (0, .ref 100), (1, .long hh), (3, .int (nI k)), (4, .int 0), (5, .int 1)] [.int (fdF r c stC sl k 1 2), .long (jn (jn (jn (jn (jn (jn hh (fdF r c stC sl k 0 0)) (fdF r c stC sl k 0 1)) (fdF r c stC sl k 0 2)) (fdF r c stC sl k 0 3)) (fdF r c stC sl k 1 0)) (fdF r c stC sl k 1 1))] (WX pgC pgL stC (nI sl) PA PS B7 T7 u)
  refine M.blk (is := [(.i2l, 0, 0, 0)]) (pc1 := 35) (lo1 := [(9, .int 2), (6, .long (jn (jn (jn (jn (jn (jn hh (fdF r c stC sl k 0 0)) (fdF r c stC sl k 0 1)) (fdF r c stC sl k 0 2)) (fdF r c stC sl k 0 3)) (fdF r c stC sl k 1 0)) (fdF r c stC sl k 1 1))), (8, .int 1), (0, .ref 100), (1, .long hh), (3, .int (nI k)), (4, .int 0), (5, .int 1)]) (st1 := [.long ((fdF r c stC sl k 1 2 : Int32).toInt64), .long (jn (jn (jn (jn (jn (jn hh (fdF r c stC sl k 0 0)) (fdF r c stC sl k 0 1)) (fdF r c stC sl k 0 2)) (fdF r c stC sl k 0 3)) (fdF r c stC sl k 1 0)) (fdF r c stC sl k 1 1))]) (w1 := (WX pgC pgL stC (nI sl) PA PS B7 T7 u)) (by decide +kernel) rfl ?_
  refine M.callSl (as := [.long (jn (jn (jn (jn (jn (jn hh (fdF r c stC sl k 0 0)) (fdF r c stC sl k 0 1)) (fdF r c stC sl k 0 2)) (fdF r c stC sl k 0 3)) (fdF r c stC sl k 1 0)) (fdF r c stC sl k 1 1)), .long ((fdF r c stC sl k 1 2 : Int32).toInt64)]) (st := []) (nx := 38) okX3_join lkX3_164 (s_join (WX pgC pgL stC (nI sl) PA PS B7 T7 u) (jn (jn (jn (jn (jn (jn hh (fdF r c stC sl k 0 0)) (fdF r c stC sl k 0 1)) (fdF r c stC sl k 0 2)) (fdF r c stC sl k 0 3)) (fdF r c stC sl k 1 0)) (fdF r c stC sl k 1 1)) ((fdF r c stC sl k 1 2 : Int32).toInt64)) (by decide +kernel) (by decide) rfl (Nat.le_of_ble_eq_true rfl) ?_
  refine M.blk (is := [(.lstore 6, 6, 0, 0), (.iinc 9 1, 9, 0, 1), (.goto (-26), 17, 0, 0), (.iload 9, 9, 0, 0), (.iconst 3, 0, 0, 3)]) (pc1 := 20) (lo1 := [(9, .int 3), (6, .long (jn (jn (jn (jn (jn (jn (jn hh (fdF r c stC sl k 0 0)) (fdF r c stC sl k 0 1)) (fdF r c stC sl k 0 2)) (fdF r c stC sl k 0 3)) (fdF r c stC sl k 1 0)) (fdF r c stC sl k 1 1)) (fdF r c stC sl k 1 2))), (8, .int 1), (0, .ref 100), (1, .long hh), (3, .int (nI k)), (4, .int 0), (5, .int 1)]) (st1 := [.int 3, .int 3]) (w1 := (WX pgC pgL stC (nI sl) PA PS B7 T7 u)) (by decide +kernel) rfl ?_
  refine M.icmp_gt (off := 26) (tgt := 46) (nx := 23) (by decide +kernel) (fun h => absurd h (by decide)) (fun _ => ?_)
  refine M.blk (is := [(.lload 6, 6, 0, 0), (.aload_n 0, 0, 0, 0), (.iload_n 3, 3, 0, 0), (.iload 8, 8, 0, 0), (.iload 9, 9, 0, 0)]) (pc1 := 31) (lo1 := [(9, .int 3), (6, .long (jn (jn (jn (jn (jn (jn (jn hh (fdF r c stC sl k 0 0)) (fdF r c stC sl k 0 1)) (fdF r c stC sl k 0 2)) (fdF r c stC sl k 0 3)) (fdF r c stC sl k 1 0)) (fdF r c stC sl k 1 1)) (fdF r c stC sl k 1 2))), (8, .int 1), (0, .ref 100), (1, .long hh), (3, .int (nI k)), (4, .int 0), (5, .int 1)]) (st1 := [.int 3, .int 1, .int (nI k), .ref 100, .long (jn (jn (jn (jn (jn (jn (jn hh (fdF r c stC sl k 0 0)) (fdF r c stC sl k 0 1)) (fdF r c stC sl k 0 2)) (fdF r c stC sl k 0 3)) (fdF r c stC sl k 1 0)) (fdF r c stC sl k 1 1)) (fdF r c stC sl k 1 2))]) (w1 := (WX pgC pgL stC (nI sl) PA PS B7 T7 u)) (by decide +kernel) rfl ?_
  refine M.callV (as := [.int (nI k), .int 1, .int 3]) (st := [.long (jn (jn (jn (jn (jn (jn (jn hh (fdF r c stC sl k 0 0)) (fdF r c stC sl k 0 1)) (fdF r c stC sl k 0 2)) (fdF r c stC sl k 0 3)) (fdF r c stC sl k 1 0)) (fdF r c stC sl k 1 1)) (fdF r c stC sl k 1 2))]) (nx := 34) okX3_found lkX3_180 (x_found hsl hgeo hpl hB7 (nI k) 1 3) (by decide +kernel) (by decide) rfl (Nat.le_of_ble_eq_true rfl) rfl (by decide) ⟨by decide, by decide⟩ ?_
  intro r0 w1 hq
  rcases hq with ⟨hno, _⟩ | ⟨k2, κ2, _, _, _, _, ho, _⟩ | ⟨k2, κ2, hk2, hκ2, e1, e2, _, rfl, B8, T8, rfl, hB8⟩
  · exact absurd ⟨rfl, rfl⟩ (hno k 1 hk (by decide))
  · exact absurd ho (by unfold outY; decide)
  obtain rfl : k = k2 := nI_inj (by omega) (by omega) e1
  obtain rfl : κ2 = 1 := nI_inj (by omega) (by decide) e2.symm
  show g 0 0 34 [(9, .int 3), (6, .long (jn (jn (jn (jn (jn (jn (jn hh (fdF r c stC sl k 0 0)) (fdF r c stC sl k 0 1)) (fdF r c stC sl k 0 2)) (fdF r c stC sl k 0 3)) (fdF r c stC sl k 1 0)) (fdF r c stC sl k 1 1)) (fdF r c stC sl k 1 2))), (8, .int 1), (0, .ref 100), (1, .long hh), (3, .int (nI k)), (4, .int 0), (5, .int 1)] [.int (fdF r c stC sl k 1 3), .long (jn (jn (jn (jn (jn (jn (jn hh (fdF r c stC sl k 0 0)) (fdF r c stC sl k 0 1)) (fdF r c stC sl k 0 2)) (fdF r c stC sl k 0 3)) (fdF r c stC sl k 1 0)) (fdF r c stC sl k 1 1)) (fdF r c stC sl k 1 2))] (WX pgC pgL stC (nI sl) PA PS B8 T8 u)
  refine M.blk (is := [(.i2l, 0, 0, 0)]) (pc1 := 35) (lo1 := [(9, .int 3), (6, .long (jn (jn (jn (jn (jn (jn (jn hh (fdF r c stC sl k 0 0)) (fdF r c stC sl k 0 1)) (fdF r c stC sl k 0 2)) (fdF r c stC sl k 0 3)) (fdF r c stC sl k 1 0)) (fdF r c stC sl k 1 1)) (fdF r c stC sl k 1 2))), (8, .int 1), (0, .ref 100), (1, .long hh), (3, .int (nI k)), (4, .int 0), (5, .int 1)]) (st1 := [.long ((fdF r c stC sl k 1 3 : Int32).toInt64), .long (jn (jn (jn (jn (jn (jn (jn hh (fdF r c stC sl k 0 0)) (fdF r c stC sl k 0 1)) (fdF r c stC sl k 0 2)) (fdF r c stC sl k 0 3)) (fdF r c stC sl k 1 0)) (fdF r c stC sl k 1 1)) (fdF r c stC sl k 1 2))]) (w1 := (WX pgC pgL stC (nI sl) PA PS B8 T8 u)) (by decide +kernel) rfl ?_
  refine M.callSl (as := [.long (jn (jn (jn (jn (jn (jn (jn hh (fdF r c stC sl k 0 0)) (fdF r c stC sl k 0 1)) (fdF r c stC sl k 0 2)) (fdF r c stC sl k 0 3)) (fdF r c stC sl k 1 0)) (fdF r c stC sl k 1 1)) (fdF r c stC sl k 1 2)), .long ((fdF r c stC sl k 1 3 : Int32).toInt64)]) (st := []) (nx := 38) okX3_join lkX3_164 (s_join (WX pgC pgL stC (nI sl) PA PS B8 T8 u) (jn (jn (jn (jn (jn (jn (jn hh (fdF r c stC sl k 0 0)) (fdF r c stC sl k 0 1)) (fdF r c stC sl k 0 2)) (fdF r c stC sl k 0 3)) (fdF r c stC sl k 1 0)) (fdF r c stC sl k 1 1)) (fdF r c stC sl k 1 2)) ((fdF r c stC sl k 1 3 : Int32).toInt64)) (by decide +kernel) (by decide) rfl (Nat.le_of_ble_eq_true rfl) ?_
  refine M.blk (is := [(.lstore 6, 6, 0, 0), (.iinc 9 1, 9, 0, 1), (.goto (-26), 17, 0, 0), (.iload 9, 9, 0, 0), (.iconst 3, 0, 0, 3)]) (pc1 := 20) (lo1 := [(9, .int 4), (6, .long (jn (jn (jn (jn (jn (jn (jn (jn hh (fdF r c stC sl k 0 0)) (fdF r c stC sl k 0 1)) (fdF r c stC sl k 0 2)) (fdF r c stC sl k 0 3)) (fdF r c stC sl k 1 0)) (fdF r c stC sl k 1 1)) (fdF r c stC sl k 1 2)) (fdF r c stC sl k 1 3))), (8, .int 1), (0, .ref 100), (1, .long hh), (3, .int (nI k)), (4, .int 0), (5, .int 1)]) (st1 := [.int 3, .int 4]) (w1 := (WX pgC pgL stC (nI sl) PA PS B8 T8 u)) (by decide +kernel) rfl ?_
  refine M.icmp_gt (off := 26) (tgt := 46) (nx := 23) (by decide +kernel) (fun _ => ?_) (fun h => absurd h (by decide))
  refine M.blk (is := [(.iinc 8 1, 8, 0, 1), (.goto (-42), 7, 0, 0), (.iload 8, 8, 0, 0), (.iload 5, 5, 0, 0)]) (pc1 := 11) (lo1 := [(8, .int 2), (9, .int 4), (6, .long (jn (jn (jn (jn (jn (jn (jn (jn hh (fdF r c stC sl k 0 0)) (fdF r c stC sl k 0 1)) (fdF r c stC sl k 0 2)) (fdF r c stC sl k 0 3)) (fdF r c stC sl k 1 0)) (fdF r c stC sl k 1 1)) (fdF r c stC sl k 1 2)) (fdF r c stC sl k 1 3))), (0, .ref 100), (1, .long hh), (3, .int (nI k)), (4, .int 0), (5, .int 1)]) (st1 := [.int 1, .int 2]) (w1 := (WX pgC pgL stC (nI sl) PA PS B8 T8 u)) (by decide +kernel) rfl ?_
  refine M.icmp_gt (off := 41) (tgt := 52) (nx := 14) (by decide +kernel) (fun _ => ?_) (fun h => absurd h (by decide))
  refine M.blk (is := [(.lload 6, 6, 0, 0)]) (pc1 := 54) (lo1 := [(8, .int 2), (9, .int 4), (6, .long (jn (jn (jn (jn (jn (jn (jn (jn hh (fdF r c stC sl k 0 0)) (fdF r c stC sl k 0 1)) (fdF r c stC sl k 0 2)) (fdF r c stC sl k 0 3)) (fdF r c stC sl k 1 0)) (fdF r c stC sl k 1 1)) (fdF r c stC sl k 1 2)) (fdF r c stC sl k 1 3))), (0, .ref 100), (1, .long hh), (3, .int (nI k)), (4, .int 0), (5, .int 1)]) (st1 := [.long (jn (jn (jn (jn (jn (jn (jn (jn hh (fdF r c stC sl k 0 0)) (fdF r c stC sl k 0 1)) (fdF r c stC sl k 0 2)) (fdF r c stC sl k 0 3)) (fdF r c stC sl k 1 0)) (fdF r c stC sl k 1 1)) (fdF r c stC sl k 1 2)) (fdF r c stC sl k 1 3))]) (w1 := (WX pgC pgL stC (nI sl) PA PS B8 T8 u)) (by decide +kernel) rfl ?_
  exact M.retl (nx := 55) (by decide +kernel) ⟨rfl, B8, T8, rfl, hB8⟩
theorem x_joinFound22 {sl : Nat} (hsl : sl ≤ 64) {r c f h t : Nat} (hgeo : GeoOk r c f h t) (hpl : PlOk r c f h t PA PS) (hbn : BnOk PA PS stC sl BA BS) {k : Nat} (hk : k < r * c) (hh : Int64) : CC 5 mX3_joinFound 0 0 [.ref 100, .long hh, .int (nI k), .int 2, .int 2] (WX pgC pgL stC (nI sl) PA PS BA BS u) (fun r0 w1 => r0 = some (.long (jfF r c stC sl hh k 2)) ∧ ∃ BB BT, w1 = WX pgC pgL stC (nI sl) PA PS BB BT u ∧ BnOk PA PS stC sl BB BT) := by
  have h25 : r * c ≤ 25 := Nat.mul_le_mul hgeo.1.2 hgeo.2.1.2
  have h9a : 9 ≤ r * c := Nat.mul_le_mul hgeo.1.1 hgeo.2.1.1
  refine CC.of okX3_joinFound.1 (Nat.le_of_ble_eq_true rfl) (fun g M => ?_)
  show g 0 0 0 [(0, .ref 100), (1, .long hh), (3, .int (nI k)), (4, .int 2), (5, .int 2)] [] (WX pgC pgL stC (nI sl) PA PS BA BS u)
  refine M.blk (is := [(.lload_n 1, 1, 0, 0), (.lstore 6, 6, 0, 0), (.iload 4, 4, 0, 0), (.istore 8, 8, 0, 0), (.iload 8, 8, 0, 0), (.iload 5, 5, 0, 0)]) (pc1 := 11) (lo1 := [(8, .int 2), (6, .long hh), (0, .ref 100), (1, .long hh), (3, .int (nI k)), (4, .int 2), (5, .int 2)]) (st1 := [.int 2, .int 2]) (w1 := (WX pgC pgL stC (nI sl) PA PS BA BS u)) (by decide +kernel) rfl ?_
  refine M.icmp_gt (off := 41) (tgt := 52) (nx := 14) (by decide +kernel) (fun h => absurd h (by decide)) (fun _ => ?_)
  refine M.blk (is := [(.iconst 0, 0, 0, 0), (.istore 9, 9, 0, 0), (.iload 9, 9, 0, 0), (.iconst 3, 0, 0, 3)]) (pc1 := 20) (lo1 := [(9, .int 0), (8, .int 2), (6, .long hh), (0, .ref 100), (1, .long hh), (3, .int (nI k)), (4, .int 2), (5, .int 2)]) (st1 := [.int 3, .int 0]) (w1 := (WX pgC pgL stC (nI sl) PA PS BA BS u)) (by decide +kernel) rfl ?_
  refine M.icmp_gt (off := 26) (tgt := 46) (nx := 23) (by decide +kernel) (fun h => absurd h (by decide)) (fun _ => ?_)
  refine M.blk (is := [(.lload 6, 6, 0, 0), (.aload_n 0, 0, 0, 0), (.iload_n 3, 3, 0, 0), (.iload 8, 8, 0, 0), (.iload 9, 9, 0, 0)]) (pc1 := 31) (lo1 := [(9, .int 0), (8, .int 2), (6, .long hh), (0, .ref 100), (1, .long hh), (3, .int (nI k)), (4, .int 2), (5, .int 2)]) (st1 := [.int 0, .int 2, .int (nI k), .ref 100, .long hh]) (w1 := (WX pgC pgL stC (nI sl) PA PS BA BS u)) (by decide +kernel) rfl ?_
  refine M.callV (as := [.int (nI k), .int 2, .int 0]) (st := [.long hh]) (nx := 34) okX3_found lkX3_180 (x_found hsl hgeo hpl hbn (nI k) 2 0) (by decide +kernel) (by decide) rfl (Nat.le_of_ble_eq_true rfl) rfl (by decide) ⟨by decide, by decide⟩ ?_
  intro r0 w1 hq
  rcases hq with ⟨hno, _⟩ | ⟨k2, κ2, _, _, _, _, ho, _⟩ | ⟨k2, κ2, hk2, hκ2, e1, e2, _, rfl, B9, T9, rfl, hB9⟩
  · exact absurd ⟨rfl, rfl⟩ (hno k 2 hk (by decide))
  · exact absurd ho (by unfold outY; decide)
  obtain rfl : k = k2 := nI_inj (by omega) (by omega) e1
  obtain rfl : κ2 = 2 := nI_inj (by omega) (by decide) e2.symm
  show g 0 0 34 [(9, .int 0), (8, .int 2), (6, .long hh), (0, .ref 100), (1, .long hh), (3, .int (nI k)), (4, .int 2), (5, .int 2)] [.int (fdF r c stC sl k 2 0), .long hh] (WX pgC pgL stC (nI sl) PA PS B9 T9 u)
  refine M.blk (is := [(.i2l, 0, 0, 0)]) (pc1 := 35) (lo1 := [(9, .int 0), (8, .int 2), (6, .long hh), (0, .ref 100), (1, .long hh), (3, .int (nI k)), (4, .int 2), (5, .int 2)]) (st1 := [.long ((fdF r c stC sl k 2 0 : Int32).toInt64), .long hh]) (w1 := (WX pgC pgL stC (nI sl) PA PS B9 T9 u)) (by decide +kernel) rfl ?_
  refine M.callSl (as := [.long hh, .long ((fdF r c stC sl k 2 0 : Int32).toInt64)]) (st := []) (nx := 38) okX3_join lkX3_164 (s_join (WX pgC pgL stC (nI sl) PA PS B9 T9 u) hh ((fdF r c stC sl k 2 0 : Int32).toInt64)) (by decide +kernel) (by decide) rfl (Nat.le_of_ble_eq_true rfl) ?_
  refine M.blk (is := [(.lstore 6, 6, 0, 0), (.iinc 9 1, 9, 0, 1), (.goto (-26), 17, 0, 0), (.iload 9, 9, 0, 0), (.iconst 3, 0, 0, 3)]) (pc1 := 20) (lo1 := [(9, .int 1), (6, .long (jn hh (fdF r c stC sl k 2 0))), (8, .int 2), (0, .ref 100), (1, .long hh), (3, .int (nI k)), (4, .int 2), (5, .int 2)]) (st1 := [.int 3, .int 1]) (w1 := (WX pgC pgL stC (nI sl) PA PS B9 T9 u)) (by decide +kernel) rfl ?_
  refine M.icmp_gt (off := 26) (tgt := 46) (nx := 23) (by decide +kernel) (fun h => absurd h (by decide)) (fun _ => ?_)
  refine M.blk (is := [(.lload 6, 6, 0, 0), (.aload_n 0, 0, 0, 0), (.iload_n 3, 3, 0, 0), (.iload 8, 8, 0, 0), (.iload 9, 9, 0, 0)]) (pc1 := 31) (lo1 := [(9, .int 1), (6, .long (jn hh (fdF r c stC sl k 2 0))), (8, .int 2), (0, .ref 100), (1, .long hh), (3, .int (nI k)), (4, .int 2), (5, .int 2)]) (st1 := [.int 1, .int 2, .int (nI k), .ref 100, .long (jn hh (fdF r c stC sl k 2 0))]) (w1 := (WX pgC pgL stC (nI sl) PA PS B9 T9 u)) (by decide +kernel) rfl ?_
  refine M.callV (as := [.int (nI k), .int 2, .int 1]) (st := [.long (jn hh (fdF r c stC sl k 2 0))]) (nx := 34) okX3_found lkX3_180 (x_found hsl hgeo hpl hB9 (nI k) 2 1) (by decide +kernel) (by decide) rfl (Nat.le_of_ble_eq_true rfl) rfl (by decide) ⟨by decide, by decide⟩ ?_
  intro r0 w1 hq
  rcases hq with ⟨hno, _⟩ | ⟨k2, κ2, _, _, _, _, ho, _⟩ | ⟨k2, κ2, hk2, hκ2, e1, e2, _, rfl, B10, T10, rfl, hB10⟩
  · exact absurd ⟨rfl, rfl⟩ (hno k 2 hk (by decide))
  · exact absurd ho (by unfold outY; decide)
  obtain rfl : k = k2 := nI_inj (by omega) (by omega) e1
  obtain rfl : κ2 = 2 := nI_inj (by omega) (by decide) e2.symm
  show g 0 0 34 [(9, .int 1), (6, .long (jn hh (fdF r c stC sl k 2 0))), (8, .int 2), (0, .ref 100), (1, .long hh), (3, .int (nI k)), (4, .int 2), (5, .int 2)] [.int (fdF r c stC sl k 2 1), .long (jn hh (fdF r c stC sl k 2 0))] (WX pgC pgL stC (nI sl) PA PS B10 T10 u)
  refine M.blk (is := [(.i2l, 0, 0, 0)]) (pc1 := 35) (lo1 := [(9, .int 1), (6, .long (jn hh (fdF r c stC sl k 2 0))), (8, .int 2), (0, .ref 100), (1, .long hh), (3, .int (nI k)), (4, .int 2), (5, .int 2)]) (st1 := [.long ((fdF r c stC sl k 2 1 : Int32).toInt64), .long (jn hh (fdF r c stC sl k 2 0))]) (w1 := (WX pgC pgL stC (nI sl) PA PS B10 T10 u)) (by decide +kernel) rfl ?_
  refine M.callSl (as := [.long (jn hh (fdF r c stC sl k 2 0)), .long ((fdF r c stC sl k 2 1 : Int32).toInt64)]) (st := []) (nx := 38) okX3_join lkX3_164 (s_join (WX pgC pgL stC (nI sl) PA PS B10 T10 u) (jn hh (fdF r c stC sl k 2 0)) ((fdF r c stC sl k 2 1 : Int32).toInt64)) (by decide +kernel) (by decide) rfl (Nat.le_of_ble_eq_true rfl) ?_
  refine M.blk (is := [(.lstore 6, 6, 0, 0), (.iinc 9 1, 9, 0, 1), (.goto (-26), 17, 0, 0), (.iload 9, 9, 0, 0), (.iconst 3, 0, 0, 3)]) (pc1 := 20) (lo1 := [(9, .int 2), (6, .long (jn (jn hh (fdF r c stC sl k 2 0)) (fdF r c stC sl k 2 1))), (8, .int 2), (0, .ref 100), (1, .long hh), (3, .int (nI k)), (4, .int 2), (5, .int 2)]) (st1 := [.int 3, .int 2]) (w1 := (WX pgC pgL stC (nI sl) PA PS B10 T10 u)) (by decide +kernel) rfl ?_
  refine M.icmp_gt (off := 26) (tgt := 46) (nx := 23) (by decide +kernel) (fun h => absurd h (by decide)) (fun _ => ?_)
  refine M.blk (is := [(.lload 6, 6, 0, 0), (.aload_n 0, 0, 0, 0), (.iload_n 3, 3, 0, 0), (.iload 8, 8, 0, 0), (.iload 9, 9, 0, 0)]) (pc1 := 31) (lo1 := [(9, .int 2), (6, .long (jn (jn hh (fdF r c stC sl k 2 0)) (fdF r c stC sl k 2 1))), (8, .int 2), (0, .ref 100), (1, .long hh), (3, .int (nI k)), (4, .int 2), (5, .int 2)]) (st1 := [.int 2, .int 2, .int (nI k), .ref 100, .long (jn (jn hh (fdF r c stC sl k 2 0)) (fdF r c stC sl k 2 1))]) (w1 := (WX pgC pgL stC (nI sl) PA PS B10 T10 u)) (by decide +kernel) rfl ?_
  refine M.callV (as := [.int (nI k), .int 2, .int 2]) (st := [.long (jn (jn hh (fdF r c stC sl k 2 0)) (fdF r c stC sl k 2 1))]) (nx := 34) okX3_found lkX3_180 (x_found hsl hgeo hpl hB10 (nI k) 2 2) (by decide +kernel) (by decide) rfl (Nat.le_of_ble_eq_true rfl) rfl (by decide) ⟨by decide, by decide⟩ ?_
  intro r0 w1 hq
  rcases hq with ⟨hno, _⟩ | ⟨k2, κ2, _, _, _, _, ho, _⟩ | ⟨k2, κ2, hk2, hκ2, e1, e2, _, rfl, B11, T11, rfl, hB11⟩
  · exact absurd ⟨rfl, rfl⟩ (hno k 2 hk (by decide))
  · exact absurd ho (by unfold outY; decide)
  obtain rfl : k = k2 := nI_inj (by omega) (by omega) e1
  obtain rfl : κ2 = 2 := nI_inj (by omega) (by decide) e2.symm
  show g 0 0 34 [(9, .int 2), (6, .long (jn (jn hh (fdF r c stC sl k 2 0)) (fdF r c stC sl k 2 1))), (8, .int 2), (0, .ref 100), (1, .long hh), (3, .int (nI k)), (4, .int 2), (5, .int 2)] [.int (fdF r c stC sl k 2 2), .long (jn (jn hh (fdF r c stC sl k 2 0)) (fdF r c stC sl k 2 1))] (WX pgC pgL stC (nI sl) PA PS B11 T11 u)
  refine M.blk (is := [(.i2l, 0, 0, 0)]) (pc1 := 35) (lo1 := [(9, .int 2), (6, .long (jn (jn hh (fdF r c stC sl k 2 0)) (fdF r c stC sl k 2 1))), (8, .int 2), (0, .ref 100), (1, .long hh), (3, .int (nI k)), (4, .int 2), (5, .int 2)]) (st1 := [.long ((fdF r c stC sl k 2 2 : Int32).toInt64), .long (jn (jn hh (fdF r c stC sl k 2 0)) (fdF r c stC sl k 2 1))]) (w1 := (WX pgC pgL stC (nI sl) PA PS B11 T11 u)) (by decide +kernel) rfl ?_
  refine M.callSl (as := [.long (jn (jn hh (fdF r c stC sl k 2 0)) (fdF r c stC sl k 2 1)), .long ((fdF r c stC sl k 2 2 : Int32).toInt64)]) (st := []) (nx := 38) okX3_join lkX3_164 (s_join (WX pgC pgL stC (nI sl) PA PS B11 T11 u) (jn (jn hh (fdF r c stC sl k 2 0)) (fdF r c stC sl k 2 1)) ((fdF r c stC sl k 2 2 : Int32).toInt64)) (by decide +kernel) (by decide) rfl (Nat.le_of_ble_eq_true rfl) ?_
  refine M.blk (is := [(.lstore 6, 6, 0, 0), (.iinc 9 1, 9, 0, 1), (.goto (-26), 17, 0, 0), (.iload 9, 9, 0, 0), (.iconst 3, 0, 0, 3)]) (pc1 := 20) (lo1 := [(9, .int 3), (6, .long (jn (jn (jn hh (fdF r c stC sl k 2 0)) (fdF r c stC sl k 2 1)) (fdF r c stC sl k 2 2))), (8, .int 2), (0, .ref 100), (1, .long hh), (3, .int (nI k)), (4, .int 2), (5, .int 2)]) (st1 := [.int 3, .int 3]) (w1 := (WX pgC pgL stC (nI sl) PA PS B11 T11 u)) (by decide +kernel) rfl ?_
  refine M.icmp_gt (off := 26) (tgt := 46) (nx := 23) (by decide +kernel) (fun h => absurd h (by decide)) (fun _ => ?_)
  refine M.blk (is := [(.lload 6, 6, 0, 0), (.aload_n 0, 0, 0, 0), (.iload_n 3, 3, 0, 0), (.iload 8, 8, 0, 0), (.iload 9, 9, 0, 0)]) (pc1 := 31) (lo1 := [(9, .int 3), (6, .long (jn (jn (jn hh (fdF r c stC sl k 2 0)) (fdF r c stC sl k 2 1)) (fdF r c stC sl k 2 2))), (8, .int 2), (0, .ref 100), (1, .long hh), (3, .int (nI k)), (4, .int 2), (5, .int 2)]) (st1 := [.int 3, .int 2, .int (nI k), .ref 100, .long (jn (jn (jn hh (fdF r c stC sl k 2 0)) (fdF r c stC sl k 2 1)) (fdF r c stC sl k 2 2))]) (w1 := (WX pgC pgL stC (nI sl) PA PS B11 T11 u)) (by decide +kernel) rfl ?_
  refine M.callV (as := [.int (nI k), .int 2, .int 3]) (st := [.long (jn (jn (jn hh (fdF r c stC sl k 2 0)) (fdF r c stC sl k 2 1)) (fdF r c stC sl k 2 2))]) (nx := 34) okX3_found lkX3_180 (x_found hsl hgeo hpl hB11 (nI k) 2 3) (by decide +kernel) (by decide) rfl (Nat.le_of_ble_eq_true rfl) rfl (by decide) ⟨by decide, by decide⟩ ?_
  intro r0 w1 hq
  rcases hq with ⟨hno, _⟩ | ⟨k2, κ2, _, _, _, _, ho, _⟩ | ⟨k2, κ2, hk2, hκ2, e1, e2, _, rfl, B12, T12, rfl, hB12⟩
  · exact absurd ⟨rfl, rfl⟩ (hno k 2 hk (by decide))
  · exact absurd ho (by unfold outY; decide)
  obtain rfl : k = k2 := nI_inj (by omega) (by omega) e1
  obtain rfl : κ2 = 2 := nI_inj (by omega) (by decide) e2.symm
  show g 0 0 34 [(9, .int 3), (6, .long (jn (jn (jn hh (fdF r c stC sl k 2 0)) (fdF r c stC sl k 2 1)) (fdF r c stC sl k 2 2))), (8, .int 2), (0, .ref 100), (1, .long hh), (3, .int (nI k)), (4, .int 2), (5, .int 2)] [.int (fdF r c stC sl k 2 3), .long (jn (jn (jn hh (fdF r c stC sl k 2 0)) (fdF r c stC sl k 2 1)) (fdF r c stC sl k 2 2))] (WX pgC pgL stC (nI sl) PA PS B12 T12 u)
  refine M.blk (is := [(.i2l, 0, 0, 0)]) (pc1 := 35) (lo1 := [(9, .int 3), (6, .long (jn (jn (jn hh (fdF r c stC sl k 2 0)) (fdF r c stC sl k 2 1)) (fdF r c stC sl k 2 2))), (8, .int 2), (0, .ref 100), (1, .long hh), (3, .int (nI k)), (4, .int 2), (5, .int 2)]) (st1 := [.long ((fdF r c stC sl k 2 3 : Int32).toInt64), .long (jn (jn (jn hh (fdF r c stC sl k 2 0)) (fdF r c stC sl k 2 1)) (fdF r c stC sl k 2 2))]) (w1 := (WX pgC pgL stC (nI sl) PA PS B12 T12 u)) (by decide +kernel) rfl ?_
  refine M.callSl (as := [.long (jn (jn (jn hh (fdF r c stC sl k 2 0)) (fdF r c stC sl k 2 1)) (fdF r c stC sl k 2 2)), .long ((fdF r c stC sl k 2 3 : Int32).toInt64)]) (st := []) (nx := 38) okX3_join lkX3_164 (s_join (WX pgC pgL stC (nI sl) PA PS B12 T12 u) (jn (jn (jn hh (fdF r c stC sl k 2 0)) (fdF r c stC sl k 2 1)) (fdF r c stC sl k 2 2)) ((fdF r c stC sl k 2 3 : Int32).toInt64)) (by decide +kernel) (by decide) rfl (Nat.le_of_ble_eq_true rfl) ?_
  refine M.blk (is := [(.lstore 6, 6, 0, 0), (.iinc 9 1, 9, 0, 1), (.goto (-26), 17, 0, 0), (.iload 9, 9, 0, 0), (.iconst 3, 0, 0, 3)]) (pc1 := 20) (lo1 := [(9, .int 4), (6, .long (jn (jn (jn (jn hh (fdF r c stC sl k 2 0)) (fdF r c stC sl k 2 1)) (fdF r c stC sl k 2 2)) (fdF r c stC sl k 2 3))), (8, .int 2), (0, .ref 100), (1, .long hh), (3, .int (nI k)), (4, .int 2), (5, .int 2)]) (st1 := [.int 3, .int 4]) (w1 := (WX pgC pgL stC (nI sl) PA PS B12 T12 u)) (by decide +kernel) rfl ?_
  refine M.icmp_gt (off := 26) (tgt := 46) (nx := 23) (by decide +kernel) (fun _ => ?_) (fun h => absurd h (by decide))
  refine M.blk (is := [(.iinc 8 1, 8, 0, 1), (.goto (-42), 7, 0, 0), (.iload 8, 8, 0, 0), (.iload 5, 5, 0, 0)]) (pc1 := 11) (lo1 := [(8, .int 3), (9, .int 4), (6, .long (jn (jn (jn (jn hh (fdF r c stC sl k 2 0)) (fdF r c stC sl k 2 1)) (fdF r c stC sl k 2 2)) (fdF r c stC sl k 2 3))), (0, .ref 100), (1, .long hh), (3, .int (nI k)), (4, .int 2), (5, .int 2)]) (st1 := [.int 2, .int 3]) (w1 := (WX pgC pgL stC (nI sl) PA PS B12 T12 u)) (by decide +kernel) rfl ?_
  refine M.icmp_gt (off := 41) (tgt := 52) (nx := 14) (by decide +kernel) (fun _ => ?_) (fun h => absurd h (by decide))
  refine M.blk (is := [(.lload 6, 6, 0, 0)]) (pc1 := 54) (lo1 := [(8, .int 3), (9, .int 4), (6, .long (jn (jn (jn (jn hh (fdF r c stC sl k 2 0)) (fdF r c stC sl k 2 1)) (fdF r c stC sl k 2 2)) (fdF r c stC sl k 2 3))), (0, .ref 100), (1, .long hh), (3, .int (nI k)), (4, .int 2), (5, .int 2)]) (st1 := [.long (jn (jn (jn (jn hh (fdF r c stC sl k 2 0)) (fdF r c stC sl k 2 1)) (fdF r c stC sl k 2 2)) (fdF r c stC sl k 2 3))]) (w1 := (WX pgC pgL stC (nI sl) PA PS B12 T12 u)) (by decide +kernel) rfl ?_
  exact M.retl (nx := 55) (by decide +kernel) ⟨rfl, B12, T12, rfl, hB12⟩
theorem x_digest {sl pl : Nat} (hsl : sl ≤ 64) (hpg : pl ≤ 60) {r c f h t : Nat} (hgeo : GeoOk r c f h t) (hpl : PlOk r c f h t PA PS) (hbn : BnOk PA PS stC sl BA BS) : CC 6 mX3_digest 0 0 [.ref 100] (WX pgC (nI pl) stC (nI sl) PA PS BA BS u) (fun r0 w1 => r0 = some (.long (dgE pl sl r c f h t stC (dgD pgC (dgC (lbA (((1 : Int32) <<< (PS 9 &&& 31)) - 1) PA stC sl) (dgB (r * c) f h (jfF r c stC sl (jfF r c stC sl (dgA PA PS r c stC sl (r * c)) 0 2) (c + 1) 2) (r * c))) pl))) ∧ ∃ BB BT, w1 = WX pgC (nI pl) stC (nI sl) PA PS BB BT u ∧ BnOk PA PS stC sl BB BT) := by
  have h25 : r * c ≤ 25 := Nat.mul_le_mul hgeo.1.2 hgeo.2.1.2
  have h9a : 9 ≤ r * c := Nat.mul_le_mul hgeo.1.1 hgeo.2.1.1
  have hc5 := hgeo.2.1
  have hr5 := hgeo.1
  have hc1 : c + 1 < r * c := by have h1 : 3 * c ≤ r * c := Nat.mul_le_mul_right c hr5.1
                                 omega
  refine CC.of okX3_digest.1 (Nat.le_of_ble_eq_true rfl) (fun g M => ?_)
  have sE : ∀ BB BT dE, BnOk PA PS stC sl BB BT → dE = dgD pgC (dgC (lbA (((1 : Int32) <<< (PS 9 &&& 31)) - 1) PA stC sl) (dgB (r * c) f h (jfF r c stC sl (jfF r c stC sl (dgA PA PS r c stC sl (r * c)) 0 2) (c + 1) 2) (r * c))) pl → g 0 0 155 [(0, .ref 100), (1, .long dE), (3, .int 0)] [] (WX pgC (nI pl) stC (nI sl) PA PS BB BT u) := by
    intro BB BT dE hB hE
    refine M.blk (is := [(.iload_n 3, 3, 0, 0), (.bipush 10, 0, 0, 10)]) (pc1 := 158) (lo1 := [(0, .ref 100), (1, .long dE), (3, .int 0)]) (st1 := [.int 10, .int 0]) (w1 := (WX pgC (nI pl) stC (nI sl) PA PS BB BT u)) (by decide +kernel) rfl ?_
    refine M.icmp_gt (off := 20) (tgt := 178) (nx := 161) (by decide +kernel) (fun h => absurd h (by decide)) (fun _ => ?_)
    refine M.blk (is := [(.lload_n 1, 1, 0, 0), (.aload_n 0, 0, 0, 0), (.iload_n 3, 3, 0, 0)]) (pc1 := 164) (lo1 := [(0, .ref 100), (1, .long dE), (3, .int 0)]) (st1 := [.int 0, .ref 100, .long dE]) (w1 := (WX pgC (nI pl) stC (nI sl) PA PS BB BT u)) (by decide +kernel) rfl ?_
    refine M.callV (as := [.int 0]) (st := [.long dE]) (nx := 167) okX3_count lkX3_171 (x_count (pl := pl) hsl hgeo hpl hB 0) (by decide +kernel) (by decide) rfl (Nat.le_of_ble_eq_true rfl) rfl (by decide) ⟨by decide, by decide⟩ ?_
    intro r0 w1 hq
    obtain ⟨rfl, E1, U1, rfl, hE1⟩ := hq
    show g 0 0 167 [(0, .ref 100), (1, .long dE), (3, .int 0)] [.int (cntF pl sl r c f h t stC 0), .long dE] (WX pgC (nI pl) stC (nI sl) PA PS E1 U1 u)
    refine M.blk (is := [(.i2l, 0, 0, 0)]) (pc1 := 168) (lo1 := [(0, .ref 100), (1, .long dE), (3, .int 0)]) (st1 := [.long ((cntF pl sl r c f h t stC 0 : Int32).toInt64), .long dE]) (w1 := (WX pgC (nI pl) stC (nI sl) PA PS E1 U1 u)) (by decide +kernel) rfl ?_
    refine M.callSl (as := [.long dE, .long ((cntF pl sl r c f h t stC 0 : Int32).toInt64)]) (st := []) (nx := 171) okX3_join lkX3_164 (s_join (WX pgC (nI pl) stC (nI sl) PA PS E1 U1 u) dE ((cntF pl sl r c f h t stC 0 : Int32).toInt64)) (by decide +kernel) (by decide) rfl (Nat.le_of_ble_eq_true rfl) ?_
    refine M.blk (is := [(.lstore_n 1, 1, 0, 0), (.iinc 3 1, 3, 0, 1), (.goto (-20), 155, 0, 0), (.iload_n 3, 3, 0, 0), (.bipush 10, 0, 0, 10)]) (pc1 := 158) (lo1 := [(3, .int 1), (1, .long (jn dE (cntF pl sl r c f h t stC 0))), (0, .ref 100)]) (st1 := [.int 10, .int 1]) (w1 := (WX pgC (nI pl) stC (nI sl) PA PS E1 U1 u)) (by decide +kernel) rfl ?_
    refine M.icmp_gt (off := 20) (tgt := 178) (nx := 161) (by decide +kernel) (fun h => absurd h (by decide)) (fun _ => ?_)
    refine M.blk (is := [(.lload_n 1, 1, 0, 0), (.aload_n 0, 0, 0, 0), (.iload_n 3, 3, 0, 0)]) (pc1 := 164) (lo1 := [(3, .int 1), (1, .long (jn dE (cntF pl sl r c f h t stC 0))), (0, .ref 100)]) (st1 := [.int 1, .ref 100, .long (jn dE (cntF pl sl r c f h t stC 0))]) (w1 := (WX pgC (nI pl) stC (nI sl) PA PS E1 U1 u)) (by decide +kernel) rfl ?_
    refine M.callV (as := [.int 1]) (st := [.long (jn dE (cntF pl sl r c f h t stC 0))]) (nx := 167) okX3_count lkX3_171 (x_count (pl := pl) hsl hgeo hpl hE1 1) (by decide +kernel) (by decide) rfl (Nat.le_of_ble_eq_true rfl) rfl (by decide) ⟨by decide, by decide⟩ ?_
    intro r0 w1 hq
    obtain ⟨rfl, E2, U2, rfl, hE2⟩ := hq
    show g 0 0 167 [(3, .int 1), (1, .long (jn dE (cntF pl sl r c f h t stC 0))), (0, .ref 100)] [.int (cntF pl sl r c f h t stC 1), .long (jn dE (cntF pl sl r c f h t stC 0))] (WX pgC (nI pl) stC (nI sl) PA PS E2 U2 u)
    refine M.blk (is := [(.i2l, 0, 0, 0)]) (pc1 := 168) (lo1 := [(3, .int 1), (1, .long (jn dE (cntF pl sl r c f h t stC 0))), (0, .ref 100)]) (st1 := [.long ((cntF pl sl r c f h t stC 1 : Int32).toInt64), .long (jn dE (cntF pl sl r c f h t stC 0))]) (w1 := (WX pgC (nI pl) stC (nI sl) PA PS E2 U2 u)) (by decide +kernel) rfl ?_
    refine M.callSl (as := [.long (jn dE (cntF pl sl r c f h t stC 0)), .long ((cntF pl sl r c f h t stC 1 : Int32).toInt64)]) (st := []) (nx := 171) okX3_join lkX3_164 (s_join (WX pgC (nI pl) stC (nI sl) PA PS E2 U2 u) (jn dE (cntF pl sl r c f h t stC 0)) ((cntF pl sl r c f h t stC 1 : Int32).toInt64)) (by decide +kernel) (by decide) rfl (Nat.le_of_ble_eq_true rfl) ?_
    refine M.blk (is := [(.lstore_n 1, 1, 0, 0), (.iinc 3 1, 3, 0, 1), (.goto (-20), 155, 0, 0), (.iload_n 3, 3, 0, 0), (.bipush 10, 0, 0, 10)]) (pc1 := 158) (lo1 := [(3, .int 2), (1, .long (jn (jn dE (cntF pl sl r c f h t stC 0)) (cntF pl sl r c f h t stC 1))), (0, .ref 100)]) (st1 := [.int 10, .int 2]) (w1 := (WX pgC (nI pl) stC (nI sl) PA PS E2 U2 u)) (by decide +kernel) rfl ?_
    refine M.icmp_gt (off := 20) (tgt := 178) (nx := 161) (by decide +kernel) (fun h => absurd h (by decide)) (fun _ => ?_)
    refine M.blk (is := [(.lload_n 1, 1, 0, 0), (.aload_n 0, 0, 0, 0), (.iload_n 3, 3, 0, 0)]) (pc1 := 164) (lo1 := [(3, .int 2), (1, .long (jn (jn dE (cntF pl sl r c f h t stC 0)) (cntF pl sl r c f h t stC 1))), (0, .ref 100)]) (st1 := [.int 2, .ref 100, .long (jn (jn dE (cntF pl sl r c f h t stC 0)) (cntF pl sl r c f h t stC 1))]) (w1 := (WX pgC (nI pl) stC (nI sl) PA PS E2 U2 u)) (by decide +kernel) rfl ?_
    refine M.callV (as := [.int 2]) (st := [.long (jn (jn dE (cntF pl sl r c f h t stC 0)) (cntF pl sl r c f h t stC 1))]) (nx := 167) okX3_count lkX3_171 (x_count (pl := pl) hsl hgeo hpl hE2 2) (by decide +kernel) (by decide) rfl (Nat.le_of_ble_eq_true rfl) rfl (by decide) ⟨by decide, by decide⟩ ?_
    intro r0 w1 hq
    obtain ⟨rfl, E3, U3, rfl, hE3⟩ := hq
    show g 0 0 167 [(3, .int 2), (1, .long (jn (jn dE (cntF pl sl r c f h t stC 0)) (cntF pl sl r c f h t stC 1))), (0, .ref 100)] [.int (cntF pl sl r c f h t stC 2), .long (jn (jn dE (cntF pl sl r c f h t stC 0)) (cntF pl sl r c f h t stC 1))] (WX pgC (nI pl) stC (nI sl) PA PS E3 U3 u)
    refine M.blk (is := [(.i2l, 0, 0, 0)]) (pc1 := 168) (lo1 := [(3, .int 2), (1, .long (jn (jn dE (cntF pl sl r c f h t stC 0)) (cntF pl sl r c f h t stC 1))), (0, .ref 100)]) (st1 := [.long ((cntF pl sl r c f h t stC 2 : Int32).toInt64), .long (jn (jn dE (cntF pl sl r c f h t stC 0)) (cntF pl sl r c f h t stC 1))]) (w1 := (WX pgC (nI pl) stC (nI sl) PA PS E3 U3 u)) (by decide +kernel) rfl ?_
    refine M.callSl (as := [.long (jn (jn dE (cntF pl sl r c f h t stC 0)) (cntF pl sl r c f h t stC 1)), .long ((cntF pl sl r c f h t stC 2 : Int32).toInt64)]) (st := []) (nx := 171) okX3_join lkX3_164 (s_join (WX pgC (nI pl) stC (nI sl) PA PS E3 U3 u) (jn (jn dE (cntF pl sl r c f h t stC 0)) (cntF pl sl r c f h t stC 1)) ((cntF pl sl r c f h t stC 2 : Int32).toInt64)) (by decide +kernel) (by decide) rfl (Nat.le_of_ble_eq_true rfl) ?_
    refine M.blk (is := [(.lstore_n 1, 1, 0, 0), (.iinc 3 1, 3, 0, 1), (.goto (-20), 155, 0, 0), (.iload_n 3, 3, 0, 0), (.bipush 10, 0, 0, 10)]) (pc1 := 158) (lo1 := [(3, .int 3), (1, .long (jn (jn (jn dE (cntF pl sl r c f h t stC 0)) (cntF pl sl r c f h t stC 1)) (cntF pl sl r c f h t stC 2))), (0, .ref 100)]) (st1 := [.int 10, .int 3]) (w1 := (WX pgC (nI pl) stC (nI sl) PA PS E3 U3 u)) (by decide +kernel) rfl ?_
    refine M.icmp_gt (off := 20) (tgt := 178) (nx := 161) (by decide +kernel) (fun h => absurd h (by decide)) (fun _ => ?_)
    refine M.blk (is := [(.lload_n 1, 1, 0, 0), (.aload_n 0, 0, 0, 0), (.iload_n 3, 3, 0, 0)]) (pc1 := 164) (lo1 := [(3, .int 3), (1, .long (jn (jn (jn dE (cntF pl sl r c f h t stC 0)) (cntF pl sl r c f h t stC 1)) (cntF pl sl r c f h t stC 2))), (0, .ref 100)]) (st1 := [.int 3, .ref 100, .long (jn (jn (jn dE (cntF pl sl r c f h t stC 0)) (cntF pl sl r c f h t stC 1)) (cntF pl sl r c f h t stC 2))]) (w1 := (WX pgC (nI pl) stC (nI sl) PA PS E3 U3 u)) (by decide +kernel) rfl ?_
    refine M.callV (as := [.int 3]) (st := [.long (jn (jn (jn dE (cntF pl sl r c f h t stC 0)) (cntF pl sl r c f h t stC 1)) (cntF pl sl r c f h t stC 2))]) (nx := 167) okX3_count lkX3_171 (x_count (pl := pl) hsl hgeo hpl hE3 3) (by decide +kernel) (by decide) rfl (Nat.le_of_ble_eq_true rfl) rfl (by decide) ⟨by decide, by decide⟩ ?_
    intro r0 w1 hq
    obtain ⟨rfl, E4, U4, rfl, hE4⟩ := hq
    show g 0 0 167 [(3, .int 3), (1, .long (jn (jn (jn dE (cntF pl sl r c f h t stC 0)) (cntF pl sl r c f h t stC 1)) (cntF pl sl r c f h t stC 2))), (0, .ref 100)] [.int (cntF pl sl r c f h t stC 3), .long (jn (jn (jn dE (cntF pl sl r c f h t stC 0)) (cntF pl sl r c f h t stC 1)) (cntF pl sl r c f h t stC 2))] (WX pgC (nI pl) stC (nI sl) PA PS E4 U4 u)
    refine M.blk (is := [(.i2l, 0, 0, 0)]) (pc1 := 168) (lo1 := [(3, .int 3), (1, .long (jn (jn (jn dE (cntF pl sl r c f h t stC 0)) (cntF pl sl r c f h t stC 1)) (cntF pl sl r c f h t stC 2))), (0, .ref 100)]) (st1 := [.long ((cntF pl sl r c f h t stC 3 : Int32).toInt64), .long (jn (jn (jn dE (cntF pl sl r c f h t stC 0)) (cntF pl sl r c f h t stC 1)) (cntF pl sl r c f h t stC 2))]) (w1 := (WX pgC (nI pl) stC (nI sl) PA PS E4 U4 u)) (by decide +kernel) rfl ?_
    refine M.callSl (as := [.long (jn (jn (jn dE (cntF pl sl r c f h t stC 0)) (cntF pl sl r c f h t stC 1)) (cntF pl sl r c f h t stC 2)), .long ((cntF pl sl r c f h t stC 3 : Int32).toInt64)]) (st := []) (nx := 171) okX3_join lkX3_164 (s_join (WX pgC (nI pl) stC (nI sl) PA PS E4 U4 u) (jn (jn (jn dE (cntF pl sl r c f h t stC 0)) (cntF pl sl r c f h t stC 1)) (cntF pl sl r c f h t stC 2)) ((cntF pl sl r c f h t stC 3 : Int32).toInt64)) (by decide +kernel) (by decide) rfl (Nat.le_of_ble_eq_true rfl) ?_
    refine M.blk (is := [(.lstore_n 1, 1, 0, 0), (.iinc 3 1, 3, 0, 1), (.goto (-20), 155, 0, 0), (.iload_n 3, 3, 0, 0), (.bipush 10, 0, 0, 10)]) (pc1 := 158) (lo1 := [(3, .int 4), (1, .long (jn (jn (jn (jn dE (cntF pl sl r c f h t stC 0)) (cntF pl sl r c f h t stC 1)) (cntF pl sl r c f h t stC 2)) (cntF pl sl r c f h t stC 3))), (0, .ref 100)]) (st1 := [.int 10, .int 4]) (w1 := (WX pgC (nI pl) stC (nI sl) PA PS E4 U4 u)) (by decide +kernel) rfl ?_
    refine M.icmp_gt (off := 20) (tgt := 178) (nx := 161) (by decide +kernel) (fun h => absurd h (by decide)) (fun _ => ?_)
    refine M.blk (is := [(.lload_n 1, 1, 0, 0), (.aload_n 0, 0, 0, 0), (.iload_n 3, 3, 0, 0)]) (pc1 := 164) (lo1 := [(3, .int 4), (1, .long (jn (jn (jn (jn dE (cntF pl sl r c f h t stC 0)) (cntF pl sl r c f h t stC 1)) (cntF pl sl r c f h t stC 2)) (cntF pl sl r c f h t stC 3))), (0, .ref 100)]) (st1 := [.int 4, .ref 100, .long (jn (jn (jn (jn dE (cntF pl sl r c f h t stC 0)) (cntF pl sl r c f h t stC 1)) (cntF pl sl r c f h t stC 2)) (cntF pl sl r c f h t stC 3))]) (w1 := (WX pgC (nI pl) stC (nI sl) PA PS E4 U4 u)) (by decide +kernel) rfl ?_
    refine M.callV (as := [.int 4]) (st := [.long (jn (jn (jn (jn dE (cntF pl sl r c f h t stC 0)) (cntF pl sl r c f h t stC 1)) (cntF pl sl r c f h t stC 2)) (cntF pl sl r c f h t stC 3))]) (nx := 167) okX3_count lkX3_171 (x_count (pl := pl) hsl hgeo hpl hE4 4) (by decide +kernel) (by decide) rfl (Nat.le_of_ble_eq_true rfl) rfl (by decide) ⟨by decide, by decide⟩ ?_
    intro r0 w1 hq
    obtain ⟨rfl, E5, U5, rfl, hE5⟩ := hq
    show g 0 0 167 [(3, .int 4), (1, .long (jn (jn (jn (jn dE (cntF pl sl r c f h t stC 0)) (cntF pl sl r c f h t stC 1)) (cntF pl sl r c f h t stC 2)) (cntF pl sl r c f h t stC 3))), (0, .ref 100)] [.int (cntF pl sl r c f h t stC 4), .long (jn (jn (jn (jn dE (cntF pl sl r c f h t stC 0)) (cntF pl sl r c f h t stC 1)) (cntF pl sl r c f h t stC 2)) (cntF pl sl r c f h t stC 3))] (WX pgC (nI pl) stC (nI sl) PA PS E5 U5 u)
    refine M.blk (is := [(.i2l, 0, 0, 0)]) (pc1 := 168) (lo1 := [(3, .int 4), (1, .long (jn (jn (jn (jn dE (cntF pl sl r c f h t stC 0)) (cntF pl sl r c f h t stC 1)) (cntF pl sl r c f h t stC 2)) (cntF pl sl r c f h t stC 3))), (0, .ref 100)]) (st1 := [.long ((cntF pl sl r c f h t stC 4 : Int32).toInt64), .long (jn (jn (jn (jn dE (cntF pl sl r c f h t stC 0)) (cntF pl sl r c f h t stC 1)) (cntF pl sl r c f h t stC 2)) (cntF pl sl r c f h t stC 3))]) (w1 := (WX pgC (nI pl) stC (nI sl) PA PS E5 U5 u)) (by decide +kernel) rfl ?_
    refine M.callSl (as := [.long (jn (jn (jn (jn dE (cntF pl sl r c f h t stC 0)) (cntF pl sl r c f h t stC 1)) (cntF pl sl r c f h t stC 2)) (cntF pl sl r c f h t stC 3)), .long ((cntF pl sl r c f h t stC 4 : Int32).toInt64)]) (st := []) (nx := 171) okX3_join lkX3_164 (s_join (WX pgC (nI pl) stC (nI sl) PA PS E5 U5 u) (jn (jn (jn (jn dE (cntF pl sl r c f h t stC 0)) (cntF pl sl r c f h t stC 1)) (cntF pl sl r c f h t stC 2)) (cntF pl sl r c f h t stC 3)) ((cntF pl sl r c f h t stC 4 : Int32).toInt64)) (by decide +kernel) (by decide) rfl (Nat.le_of_ble_eq_true rfl) ?_
    refine M.blk (is := [(.lstore_n 1, 1, 0, 0), (.iinc 3 1, 3, 0, 1), (.goto (-20), 155, 0, 0), (.iload_n 3, 3, 0, 0), (.bipush 10, 0, 0, 10)]) (pc1 := 158) (lo1 := [(3, .int 5), (1, .long (jn (jn (jn (jn (jn dE (cntF pl sl r c f h t stC 0)) (cntF pl sl r c f h t stC 1)) (cntF pl sl r c f h t stC 2)) (cntF pl sl r c f h t stC 3)) (cntF pl sl r c f h t stC 4))), (0, .ref 100)]) (st1 := [.int 10, .int 5]) (w1 := (WX pgC (nI pl) stC (nI sl) PA PS E5 U5 u)) (by decide +kernel) rfl ?_
    refine M.icmp_gt (off := 20) (tgt := 178) (nx := 161) (by decide +kernel) (fun h => absurd h (by decide)) (fun _ => ?_)
    refine M.blk (is := [(.lload_n 1, 1, 0, 0), (.aload_n 0, 0, 0, 0), (.iload_n 3, 3, 0, 0)]) (pc1 := 164) (lo1 := [(3, .int 5), (1, .long (jn (jn (jn (jn (jn dE (cntF pl sl r c f h t stC 0)) (cntF pl sl r c f h t stC 1)) (cntF pl sl r c f h t stC 2)) (cntF pl sl r c f h t stC 3)) (cntF pl sl r c f h t stC 4))), (0, .ref 100)]) (st1 := [.int 5, .ref 100, .long (jn (jn (jn (jn (jn dE (cntF pl sl r c f h t stC 0)) (cntF pl sl r c f h t stC 1)) (cntF pl sl r c f h t stC 2)) (cntF pl sl r c f h t stC 3)) (cntF pl sl r c f h t stC 4))]) (w1 := (WX pgC (nI pl) stC (nI sl) PA PS E5 U5 u)) (by decide +kernel) rfl ?_
    refine M.callV (as := [.int 5]) (st := [.long (jn (jn (jn (jn (jn dE (cntF pl sl r c f h t stC 0)) (cntF pl sl r c f h t stC 1)) (cntF pl sl r c f h t stC 2)) (cntF pl sl r c f h t stC 3)) (cntF pl sl r c f h t stC 4))]) (nx := 167) okX3_count lkX3_171 (x_count (pl := pl) hsl hgeo hpl hE5 5) (by decide +kernel) (by decide) rfl (Nat.le_of_ble_eq_true rfl) rfl (by decide) ⟨by decide, by decide⟩ ?_
    intro r0 w1 hq
    obtain ⟨rfl, E6, U6, rfl, hE6⟩ := hq
    show g 0 0 167 [(3, .int 5), (1, .long (jn (jn (jn (jn (jn dE (cntF pl sl r c f h t stC 0)) (cntF pl sl r c f h t stC 1)) (cntF pl sl r c f h t stC 2)) (cntF pl sl r c f h t stC 3)) (cntF pl sl r c f h t stC 4))), (0, .ref 100)] [.int (cntF pl sl r c f h t stC 5), .long (jn (jn (jn (jn (jn dE (cntF pl sl r c f h t stC 0)) (cntF pl sl r c f h t stC 1)) (cntF pl sl r c f h t stC 2)) (cntF pl sl r c f h t stC 3)) (cntF pl sl r c f h t stC 4))] (WX pgC (nI pl) stC (nI sl) PA PS E6 U6 u)
    refine M.blk (is := [(.i2l, 0, 0, 0)]) (pc1 := 168) (lo1 := [(3, .int 5), (1, .long (jn (jn (jn (jn (jn dE (cntF pl sl r c f h t stC 0)) (cntF pl sl r c f h t stC 1)) (cntF pl sl r c f h t stC 2)) (cntF pl sl r c f h t stC 3)) (cntF pl sl r c f h t stC 4))), (0, .ref 100)]) (st1 := [.long ((cntF pl sl r c f h t stC 5 : Int32).toInt64), .long (jn (jn (jn (jn (jn dE (cntF pl sl r c f h t stC 0)) (cntF pl sl r c f h t stC 1)) (cntF pl sl r c f h t stC 2)) (cntF pl sl r c f h t stC 3)) (cntF pl sl r c f h t stC 4))]) (w1 := (WX pgC (nI pl) stC (nI sl) PA PS E6 U6 u)) (by decide +kernel) rfl ?_
    refine M.callSl (as := [.long (jn (jn (jn (jn (jn dE (cntF pl sl r c f h t stC 0)) (cntF pl sl r c f h t stC 1)) (cntF pl sl r c f h t stC 2)) (cntF pl sl r c f h t stC 3)) (cntF pl sl r c f h t stC 4)), .long ((cntF pl sl r c f h t stC 5 : Int32).toInt64)]) (st := []) (nx := 171) okX3_join lkX3_164 (s_join (WX pgC (nI pl) stC (nI sl) PA PS E6 U6 u) (jn (jn (jn (jn (jn dE (cntF pl sl r c f h t stC 0)) (cntF pl sl r c f h t stC 1)) (cntF pl sl r c f h t stC 2)) (cntF pl sl r c f h t stC 3)) (cntF pl sl r c f h t stC 4)) ((cntF pl sl r c f h t stC 5 : Int32).toInt64)) (by decide +kernel) (by decide) rfl (Nat.le_of_ble_eq_true rfl) ?_
    refine M.blk (is := [(.lstore_n 1, 1, 0, 0), (.iinc 3 1, 3, 0, 1), (.goto (-20), 155, 0, 0), (.iload_n 3, 3, 0, 0), (.bipush 10, 0, 0, 10)]) (pc1 := 158) (lo1 := [(3, .int 6), (1, .long (jn (jn (jn (jn (jn (jn dE (cntF pl sl r c f h t stC 0)) (cntF pl sl r c f h t stC 1)) (cntF pl sl r c f h t stC 2)) (cntF pl sl r c f h t stC 3)) (cntF pl sl r c f h t stC 4)) (cntF pl sl r c f h t stC 5))), (0, .ref 100)]) (st1 := [.int 10, .int 6]) (w1 := (WX pgC (nI pl) stC (nI sl) PA PS E6 U6 u)) (by decide +kernel) rfl ?_
    refine M.icmp_gt (off := 20) (tgt := 178) (nx := 161) (by decide +kernel) (fun h => absurd h (by decide)) (fun _ => ?_)
    refine M.blk (is := [(.lload_n 1, 1, 0, 0), (.aload_n 0, 0, 0, 0), (.iload_n 3, 3, 0, 0)]) (pc1 := 164) (lo1 := [(3, .int 6), (1, .long (jn (jn (jn (jn (jn (jn dE (cntF pl sl r c f h t stC 0)) (cntF pl sl r c f h t stC 1)) (cntF pl sl r c f h t stC 2)) (cntF pl sl r c f h t stC 3)) (cntF pl sl r c f h t stC 4)) (cntF pl sl r c f h t stC 5))), (0, .ref 100)]) (st1 := [.int 6, .ref 100, .long (jn (jn (jn (jn (jn (jn dE (cntF pl sl r c f h t stC 0)) (cntF pl sl r c f h t stC 1)) (cntF pl sl r c f h t stC 2)) (cntF pl sl r c f h t stC 3)) (cntF pl sl r c f h t stC 4)) (cntF pl sl r c f h t stC 5))]) (w1 := (WX pgC (nI pl) stC (nI sl) PA PS E6 U6 u)) (by decide +kernel) rfl ?_
    refine M.callV (as := [.int 6]) (st := [.long (jn (jn (jn (jn (jn (jn dE (cntF pl sl r c f h t stC 0)) (cntF pl sl r c f h t stC 1)) (cntF pl sl r c f h t stC 2)) (cntF pl sl r c f h t stC 3)) (cntF pl sl r c f h t stC 4)) (cntF pl sl r c f h t stC 5))]) (nx := 167) okX3_count lkX3_171 (x_count (pl := pl) hsl hgeo hpl hE6 6) (by decide +kernel) (by decide) rfl (Nat.le_of_ble_eq_true rfl) rfl (by decide) ⟨by decide, by decide⟩ ?_
    intro r0 w1 hq
    obtain ⟨rfl, E7, U7, rfl, hE7⟩ := hq
    show g 0 0 167 [(3, .int 6), (1, .long (jn (jn (jn (jn (jn (jn dE (cntF pl sl r c f h t stC 0)) (cntF pl sl r c f h t stC 1)) (cntF pl sl r c f h t stC 2)) (cntF pl sl r c f h t stC 3)) (cntF pl sl r c f h t stC 4)) (cntF pl sl r c f h t stC 5))), (0, .ref 100)] [.int (cntF pl sl r c f h t stC 6), .long (jn (jn (jn (jn (jn (jn dE (cntF pl sl r c f h t stC 0)) (cntF pl sl r c f h t stC 1)) (cntF pl sl r c f h t stC 2)) (cntF pl sl r c f h t stC 3)) (cntF pl sl r c f h t stC 4)) (cntF pl sl r c f h t stC 5))] (WX pgC (nI pl) stC (nI sl) PA PS E7 U7 u)
    refine M.blk (is := [(.i2l, 0, 0, 0)]) (pc1 := 168) (lo1 := [(3, .int 6), (1, .long (jn (jn (jn (jn (jn (jn dE (cntF pl sl r c f h t stC 0)) (cntF pl sl r c f h t stC 1)) (cntF pl sl r c f h t stC 2)) (cntF pl sl r c f h t stC 3)) (cntF pl sl r c f h t stC 4)) (cntF pl sl r c f h t stC 5))), (0, .ref 100)]) (st1 := [.long ((cntF pl sl r c f h t stC 6 : Int32).toInt64), .long (jn (jn (jn (jn (jn (jn dE (cntF pl sl r c f h t stC 0)) (cntF pl sl r c f h t stC 1)) (cntF pl sl r c f h t stC 2)) (cntF pl sl r c f h t stC 3)) (cntF pl sl r c f h t stC 4)) (cntF pl sl r c f h t stC 5))]) (w1 := (WX pgC (nI pl) stC (nI sl) PA PS E7 U7 u)) (by decide +kernel) rfl ?_
    refine M.callSl (as := [.long (jn (jn (jn (jn (jn (jn dE (cntF pl sl r c f h t stC 0)) (cntF pl sl r c f h t stC 1)) (cntF pl sl r c f h t stC 2)) (cntF pl sl r c f h t stC 3)) (cntF pl sl r c f h t stC 4)) (cntF pl sl r c f h t stC 5)), .long ((cntF pl sl r c f h t stC 6 : Int32).toInt64)]) (st := []) (nx := 171) okX3_join lkX3_164 (s_join (WX pgC (nI pl) stC (nI sl) PA PS E7 U7 u) (jn (jn (jn (jn (jn (jn dE (cntF pl sl r c f h t stC 0)) (cntF pl sl r c f h t stC 1)) (cntF pl sl r c f h t stC 2)) (cntF pl sl r c f h t stC 3)) (cntF pl sl r c f h t stC 4)) (cntF pl sl r c f h t stC 5)) ((cntF pl sl r c f h t stC 6 : Int32).toInt64)) (by decide +kernel) (by decide) rfl (Nat.le_of_ble_eq_true rfl) ?_
    refine M.blk (is := [(.lstore_n 1, 1, 0, 0), (.iinc 3 1, 3, 0, 1), (.goto (-20), 155, 0, 0), (.iload_n 3, 3, 0, 0), (.bipush 10, 0, 0, 10)]) (pc1 := 158) (lo1 := [(3, .int 7), (1, .long (jn (jn (jn (jn (jn (jn (jn dE (cntF pl sl r c f h t stC 0)) (cntF pl sl r c f h t stC 1)) (cntF pl sl r c f h t stC 2)) (cntF pl sl r c f h t stC 3)) (cntF pl sl r c f h t stC 4)) (cntF pl sl r c f h t stC 5)) (cntF pl sl r c f h t stC 6))), (0, .ref 100)]) (st1 := [.int 10, .int 7]) (w1 := (WX pgC (nI pl) stC (nI sl) PA PS E7 U7 u)) (by decide +kernel) rfl ?_
    refine M.icmp_gt (off := 20) (tgt := 178) (nx := 161) (by decide +kernel) (fun h => absurd h (by decide)) (fun _ => ?_)
    refine M.blk (is := [(.lload_n 1, 1, 0, 0), (.aload_n 0, 0, 0, 0), (.iload_n 3, 3, 0, 0)]) (pc1 := 164) (lo1 := [(3, .int 7), (1, .long (jn (jn (jn (jn (jn (jn (jn dE (cntF pl sl r c f h t stC 0)) (cntF pl sl r c f h t stC 1)) (cntF pl sl r c f h t stC 2)) (cntF pl sl r c f h t stC 3)) (cntF pl sl r c f h t stC 4)) (cntF pl sl r c f h t stC 5)) (cntF pl sl r c f h t stC 6))), (0, .ref 100)]) (st1 := [.int 7, .ref 100, .long (jn (jn (jn (jn (jn (jn (jn dE (cntF pl sl r c f h t stC 0)) (cntF pl sl r c f h t stC 1)) (cntF pl sl r c f h t stC 2)) (cntF pl sl r c f h t stC 3)) (cntF pl sl r c f h t stC 4)) (cntF pl sl r c f h t stC 5)) (cntF pl sl r c f h t stC 6))]) (w1 := (WX pgC (nI pl) stC (nI sl) PA PS E7 U7 u)) (by decide +kernel) rfl ?_
    refine M.callV (as := [.int 7]) (st := [.long (jn (jn (jn (jn (jn (jn (jn dE (cntF pl sl r c f h t stC 0)) (cntF pl sl r c f h t stC 1)) (cntF pl sl r c f h t stC 2)) (cntF pl sl r c f h t stC 3)) (cntF pl sl r c f h t stC 4)) (cntF pl sl r c f h t stC 5)) (cntF pl sl r c f h t stC 6))]) (nx := 167) okX3_count lkX3_171 (x_count (pl := pl) hsl hgeo hpl hE7 7) (by decide +kernel) (by decide) rfl (Nat.le_of_ble_eq_true rfl) rfl (by decide) ⟨by decide, by decide⟩ ?_
    intro r0 w1 hq
    obtain ⟨rfl, E8, U8, rfl, hE8⟩ := hq
    show g 0 0 167 [(3, .int 7), (1, .long (jn (jn (jn (jn (jn (jn (jn dE (cntF pl sl r c f h t stC 0)) (cntF pl sl r c f h t stC 1)) (cntF pl sl r c f h t stC 2)) (cntF pl sl r c f h t stC 3)) (cntF pl sl r c f h t stC 4)) (cntF pl sl r c f h t stC 5)) (cntF pl sl r c f h t stC 6))), (0, .ref 100)] [.int (cntF pl sl r c f h t stC 7), .long (jn (jn (jn (jn (jn (jn (jn dE (cntF pl sl r c f h t stC 0)) (cntF pl sl r c f h t stC 1)) (cntF pl sl r c f h t stC 2)) (cntF pl sl r c f h t stC 3)) (cntF pl sl r c f h t stC 4)) (cntF pl sl r c f h t stC 5)) (cntF pl sl r c f h t stC 6))] (WX pgC (nI pl) stC (nI sl) PA PS E8 U8 u)
    refine M.blk (is := [(.i2l, 0, 0, 0)]) (pc1 := 168) (lo1 := [(3, .int 7), (1, .long (jn (jn (jn (jn (jn (jn (jn dE (cntF pl sl r c f h t stC 0)) (cntF pl sl r c f h t stC 1)) (cntF pl sl r c f h t stC 2)) (cntF pl sl r c f h t stC 3)) (cntF pl sl r c f h t stC 4)) (cntF pl sl r c f h t stC 5)) (cntF pl sl r c f h t stC 6))), (0, .ref 100)]) (st1 := [.long ((cntF pl sl r c f h t stC 7 : Int32).toInt64), .long (jn (jn (jn (jn (jn (jn (jn dE (cntF pl sl r c f h t stC 0)) (cntF pl sl r c f h t stC 1)) (cntF pl sl r c f h t stC 2)) (cntF pl sl r c f h t stC 3)) (cntF pl sl r c f h t stC 4)) (cntF pl sl r c f h t stC 5)) (cntF pl sl r c f h t stC 6))]) (w1 := (WX pgC (nI pl) stC (nI sl) PA PS E8 U8 u)) (by decide +kernel) rfl ?_
    refine M.callSl (as := [.long (jn (jn (jn (jn (jn (jn (jn dE (cntF pl sl r c f h t stC 0)) (cntF pl sl r c f h t stC 1)) (cntF pl sl r c f h t stC 2)) (cntF pl sl r c f h t stC 3)) (cntF pl sl r c f h t stC 4)) (cntF pl sl r c f h t stC 5)) (cntF pl sl r c f h t stC 6)), .long ((cntF pl sl r c f h t stC 7 : Int32).toInt64)]) (st := []) (nx := 171) okX3_join lkX3_164 (s_join (WX pgC (nI pl) stC (nI sl) PA PS E8 U8 u) (jn (jn (jn (jn (jn (jn (jn dE (cntF pl sl r c f h t stC 0)) (cntF pl sl r c f h t stC 1)) (cntF pl sl r c f h t stC 2)) (cntF pl sl r c f h t stC 3)) (cntF pl sl r c f h t stC 4)) (cntF pl sl r c f h t stC 5)) (cntF pl sl r c f h t stC 6)) ((cntF pl sl r c f h t stC 7 : Int32).toInt64)) (by decide +kernel) (by decide) rfl (Nat.le_of_ble_eq_true rfl) ?_
    refine M.blk (is := [(.lstore_n 1, 1, 0, 0), (.iinc 3 1, 3, 0, 1), (.goto (-20), 155, 0, 0), (.iload_n 3, 3, 0, 0), (.bipush 10, 0, 0, 10)]) (pc1 := 158) (lo1 := [(3, .int 8), (1, .long (jn (jn (jn (jn (jn (jn (jn (jn dE (cntF pl sl r c f h t stC 0)) (cntF pl sl r c f h t stC 1)) (cntF pl sl r c f h t stC 2)) (cntF pl sl r c f h t stC 3)) (cntF pl sl r c f h t stC 4)) (cntF pl sl r c f h t stC 5)) (cntF pl sl r c f h t stC 6)) (cntF pl sl r c f h t stC 7))), (0, .ref 100)]) (st1 := [.int 10, .int 8]) (w1 := (WX pgC (nI pl) stC (nI sl) PA PS E8 U8 u)) (by decide +kernel) rfl ?_
    refine M.icmp_gt (off := 20) (tgt := 178) (nx := 161) (by decide +kernel) (fun h => absurd h (by decide)) (fun _ => ?_)
    refine M.blk (is := [(.lload_n 1, 1, 0, 0), (.aload_n 0, 0, 0, 0), (.iload_n 3, 3, 0, 0)]) (pc1 := 164) (lo1 := [(3, .int 8), (1, .long (jn (jn (jn (jn (jn (jn (jn (jn dE (cntF pl sl r c f h t stC 0)) (cntF pl sl r c f h t stC 1)) (cntF pl sl r c f h t stC 2)) (cntF pl sl r c f h t stC 3)) (cntF pl sl r c f h t stC 4)) (cntF pl sl r c f h t stC 5)) (cntF pl sl r c f h t stC 6)) (cntF pl sl r c f h t stC 7))), (0, .ref 100)]) (st1 := [.int 8, .ref 100, .long (jn (jn (jn (jn (jn (jn (jn (jn dE (cntF pl sl r c f h t stC 0)) (cntF pl sl r c f h t stC 1)) (cntF pl sl r c f h t stC 2)) (cntF pl sl r c f h t stC 3)) (cntF pl sl r c f h t stC 4)) (cntF pl sl r c f h t stC 5)) (cntF pl sl r c f h t stC 6)) (cntF pl sl r c f h t stC 7))]) (w1 := (WX pgC (nI pl) stC (nI sl) PA PS E8 U8 u)) (by decide +kernel) rfl ?_
    refine M.callV (as := [.int 8]) (st := [.long (jn (jn (jn (jn (jn (jn (jn (jn dE (cntF pl sl r c f h t stC 0)) (cntF pl sl r c f h t stC 1)) (cntF pl sl r c f h t stC 2)) (cntF pl sl r c f h t stC 3)) (cntF pl sl r c f h t stC 4)) (cntF pl sl r c f h t stC 5)) (cntF pl sl r c f h t stC 6)) (cntF pl sl r c f h t stC 7))]) (nx := 167) okX3_count lkX3_171 (x_count (pl := pl) hsl hgeo hpl hE8 8) (by decide +kernel) (by decide) rfl (Nat.le_of_ble_eq_true rfl) rfl (by decide) ⟨by decide, by decide⟩ ?_
    intro r0 w1 hq
    obtain ⟨rfl, E9, U9, rfl, hE9⟩ := hq
    show g 0 0 167 [(3, .int 8), (1, .long (jn (jn (jn (jn (jn (jn (jn (jn dE (cntF pl sl r c f h t stC 0)) (cntF pl sl r c f h t stC 1)) (cntF pl sl r c f h t stC 2)) (cntF pl sl r c f h t stC 3)) (cntF pl sl r c f h t stC 4)) (cntF pl sl r c f h t stC 5)) (cntF pl sl r c f h t stC 6)) (cntF pl sl r c f h t stC 7))), (0, .ref 100)] [.int (cntF pl sl r c f h t stC 8), .long (jn (jn (jn (jn (jn (jn (jn (jn dE (cntF pl sl r c f h t stC 0)) (cntF pl sl r c f h t stC 1)) (cntF pl sl r c f h t stC 2)) (cntF pl sl r c f h t stC 3)) (cntF pl sl r c f h t stC 4)) (cntF pl sl r c f h t stC 5)) (cntF pl sl r c f h t stC 6)) (cntF pl sl r c f h t stC 7))] (WX pgC (nI pl) stC (nI sl) PA PS E9 U9 u)
    refine M.blk (is := [(.i2l, 0, 0, 0)]) (pc1 := 168) (lo1 := [(3, .int 8), (1, .long (jn (jn (jn (jn (jn (jn (jn (jn dE (cntF pl sl r c f h t stC 0)) (cntF pl sl r c f h t stC 1)) (cntF pl sl r c f h t stC 2)) (cntF pl sl r c f h t stC 3)) (cntF pl sl r c f h t stC 4)) (cntF pl sl r c f h t stC 5)) (cntF pl sl r c f h t stC 6)) (cntF pl sl r c f h t stC 7))), (0, .ref 100)]) (st1 := [.long ((cntF pl sl r c f h t stC 8 : Int32).toInt64), .long (jn (jn (jn (jn (jn (jn (jn (jn dE (cntF pl sl r c f h t stC 0)) (cntF pl sl r c f h t stC 1)) (cntF pl sl r c f h t stC 2)) (cntF pl sl r c f h t stC 3)) (cntF pl sl r c f h t stC 4)) (cntF pl sl r c f h t stC 5)) (cntF pl sl r c f h t stC 6)) (cntF pl sl r c f h t stC 7))]) (w1 := (WX pgC (nI pl) stC (nI sl) PA PS E9 U9 u)) (by decide +kernel) rfl ?_
    refine M.callSl (as := [.long (jn (jn (jn (jn (jn (jn (jn (jn dE (cntF pl sl r c f h t stC 0)) (cntF pl sl r c f h t stC 1)) (cntF pl sl r c f h t stC 2)) (cntF pl sl r c f h t stC 3)) (cntF pl sl r c f h t stC 4)) (cntF pl sl r c f h t stC 5)) (cntF pl sl r c f h t stC 6)) (cntF pl sl r c f h t stC 7)), .long ((cntF pl sl r c f h t stC 8 : Int32).toInt64)]) (st := []) (nx := 171) okX3_join lkX3_164 (s_join (WX pgC (nI pl) stC (nI sl) PA PS E9 U9 u) (jn (jn (jn (jn (jn (jn (jn (jn dE (cntF pl sl r c f h t stC 0)) (cntF pl sl r c f h t stC 1)) (cntF pl sl r c f h t stC 2)) (cntF pl sl r c f h t stC 3)) (cntF pl sl r c f h t stC 4)) (cntF pl sl r c f h t stC 5)) (cntF pl sl r c f h t stC 6)) (cntF pl sl r c f h t stC 7)) ((cntF pl sl r c f h t stC 8 : Int32).toInt64)) (by decide +kernel) (by decide) rfl (Nat.le_of_ble_eq_true rfl) ?_
    refine M.blk (is := [(.lstore_n 1, 1, 0, 0), (.iinc 3 1, 3, 0, 1), (.goto (-20), 155, 0, 0), (.iload_n 3, 3, 0, 0), (.bipush 10, 0, 0, 10)]) (pc1 := 158) (lo1 := [(3, .int 9), (1, .long (jn (jn (jn (jn (jn (jn (jn (jn (jn dE (cntF pl sl r c f h t stC 0)) (cntF pl sl r c f h t stC 1)) (cntF pl sl r c f h t stC 2)) (cntF pl sl r c f h t stC 3)) (cntF pl sl r c f h t stC 4)) (cntF pl sl r c f h t stC 5)) (cntF pl sl r c f h t stC 6)) (cntF pl sl r c f h t stC 7)) (cntF pl sl r c f h t stC 8))), (0, .ref 100)]) (st1 := [.int 10, .int 9]) (w1 := (WX pgC (nI pl) stC (nI sl) PA PS E9 U9 u)) (by decide +kernel) rfl ?_
    refine M.icmp_gt (off := 20) (tgt := 178) (nx := 161) (by decide +kernel) (fun h => absurd h (by decide)) (fun _ => ?_)
    refine M.blk (is := [(.lload_n 1, 1, 0, 0), (.aload_n 0, 0, 0, 0), (.iload_n 3, 3, 0, 0)]) (pc1 := 164) (lo1 := [(3, .int 9), (1, .long (jn (jn (jn (jn (jn (jn (jn (jn (jn dE (cntF pl sl r c f h t stC 0)) (cntF pl sl r c f h t stC 1)) (cntF pl sl r c f h t stC 2)) (cntF pl sl r c f h t stC 3)) (cntF pl sl r c f h t stC 4)) (cntF pl sl r c f h t stC 5)) (cntF pl sl r c f h t stC 6)) (cntF pl sl r c f h t stC 7)) (cntF pl sl r c f h t stC 8))), (0, .ref 100)]) (st1 := [.int 9, .ref 100, .long (jn (jn (jn (jn (jn (jn (jn (jn (jn dE (cntF pl sl r c f h t stC 0)) (cntF pl sl r c f h t stC 1)) (cntF pl sl r c f h t stC 2)) (cntF pl sl r c f h t stC 3)) (cntF pl sl r c f h t stC 4)) (cntF pl sl r c f h t stC 5)) (cntF pl sl r c f h t stC 6)) (cntF pl sl r c f h t stC 7)) (cntF pl sl r c f h t stC 8))]) (w1 := (WX pgC (nI pl) stC (nI sl) PA PS E9 U9 u)) (by decide +kernel) rfl ?_
    refine M.callV (as := [.int 9]) (st := [.long (jn (jn (jn (jn (jn (jn (jn (jn (jn dE (cntF pl sl r c f h t stC 0)) (cntF pl sl r c f h t stC 1)) (cntF pl sl r c f h t stC 2)) (cntF pl sl r c f h t stC 3)) (cntF pl sl r c f h t stC 4)) (cntF pl sl r c f h t stC 5)) (cntF pl sl r c f h t stC 6)) (cntF pl sl r c f h t stC 7)) (cntF pl sl r c f h t stC 8))]) (nx := 167) okX3_count lkX3_171 (x_count (pl := pl) hsl hgeo hpl hE9 9) (by decide +kernel) (by decide) rfl (Nat.le_of_ble_eq_true rfl) rfl (by decide) ⟨by decide, by decide⟩ ?_
    intro r0 w1 hq
    obtain ⟨rfl, E10, U10, rfl, hE10⟩ := hq
    show g 0 0 167 [(3, .int 9), (1, .long (jn (jn (jn (jn (jn (jn (jn (jn (jn dE (cntF pl sl r c f h t stC 0)) (cntF pl sl r c f h t stC 1)) (cntF pl sl r c f h t stC 2)) (cntF pl sl r c f h t stC 3)) (cntF pl sl r c f h t stC 4)) (cntF pl sl r c f h t stC 5)) (cntF pl sl r c f h t stC 6)) (cntF pl sl r c f h t stC 7)) (cntF pl sl r c f h t stC 8))), (0, .ref 100)] [.int (cntF pl sl r c f h t stC 9), .long (jn (jn (jn (jn (jn (jn (jn (jn (jn dE (cntF pl sl r c f h t stC 0)) (cntF pl sl r c f h t stC 1)) (cntF pl sl r c f h t stC 2)) (cntF pl sl r c f h t stC 3)) (cntF pl sl r c f h t stC 4)) (cntF pl sl r c f h t stC 5)) (cntF pl sl r c f h t stC 6)) (cntF pl sl r c f h t stC 7)) (cntF pl sl r c f h t stC 8))] (WX pgC (nI pl) stC (nI sl) PA PS E10 U10 u)
    refine M.blk (is := [(.i2l, 0, 0, 0)]) (pc1 := 168) (lo1 := [(3, .int 9), (1, .long (jn (jn (jn (jn (jn (jn (jn (jn (jn dE (cntF pl sl r c f h t stC 0)) (cntF pl sl r c f h t stC 1)) (cntF pl sl r c f h t stC 2)) (cntF pl sl r c f h t stC 3)) (cntF pl sl r c f h t stC 4)) (cntF pl sl r c f h t stC 5)) (cntF pl sl r c f h t stC 6)) (cntF pl sl r c f h t stC 7)) (cntF pl sl r c f h t stC 8))), (0, .ref 100)]) (st1 := [.long ((cntF pl sl r c f h t stC 9 : Int32).toInt64), .long (jn (jn (jn (jn (jn (jn (jn (jn (jn dE (cntF pl sl r c f h t stC 0)) (cntF pl sl r c f h t stC 1)) (cntF pl sl r c f h t stC 2)) (cntF pl sl r c f h t stC 3)) (cntF pl sl r c f h t stC 4)) (cntF pl sl r c f h t stC 5)) (cntF pl sl r c f h t stC 6)) (cntF pl sl r c f h t stC 7)) (cntF pl sl r c f h t stC 8))]) (w1 := (WX pgC (nI pl) stC (nI sl) PA PS E10 U10 u)) (by decide +kernel) rfl ?_
    refine M.callSl (as := [.long (jn (jn (jn (jn (jn (jn (jn (jn (jn dE (cntF pl sl r c f h t stC 0)) (cntF pl sl r c f h t stC 1)) (cntF pl sl r c f h t stC 2)) (cntF pl sl r c f h t stC 3)) (cntF pl sl r c f h t stC 4)) (cntF pl sl r c f h t stC 5)) (cntF pl sl r c f h t stC 6)) (cntF pl sl r c f h t stC 7)) (cntF pl sl r c f h t stC 8)), .long ((cntF pl sl r c f h t stC 9 : Int32).toInt64)]) (st := []) (nx := 171) okX3_join lkX3_164 (s_join (WX pgC (nI pl) stC (nI sl) PA PS E10 U10 u) (jn (jn (jn (jn (jn (jn (jn (jn (jn dE (cntF pl sl r c f h t stC 0)) (cntF pl sl r c f h t stC 1)) (cntF pl sl r c f h t stC 2)) (cntF pl sl r c f h t stC 3)) (cntF pl sl r c f h t stC 4)) (cntF pl sl r c f h t stC 5)) (cntF pl sl r c f h t stC 6)) (cntF pl sl r c f h t stC 7)) (cntF pl sl r c f h t stC 8)) ((cntF pl sl r c f h t stC 9 : Int32).toInt64)) (by decide +kernel) (by decide) rfl (Nat.le_of_ble_eq_true rfl) ?_
    refine M.blk (is := [(.lstore_n 1, 1, 0, 0), (.iinc 3 1, 3, 0, 1), (.goto (-20), 155, 0, 0), (.iload_n 3, 3, 0, 0), (.bipush 10, 0, 0, 10)]) (pc1 := 158) (lo1 := [(3, .int 10), (1, .long (jn (jn (jn (jn (jn (jn (jn (jn (jn (jn dE (cntF pl sl r c f h t stC 0)) (cntF pl sl r c f h t stC 1)) (cntF pl sl r c f h t stC 2)) (cntF pl sl r c f h t stC 3)) (cntF pl sl r c f h t stC 4)) (cntF pl sl r c f h t stC 5)) (cntF pl sl r c f h t stC 6)) (cntF pl sl r c f h t stC 7)) (cntF pl sl r c f h t stC 8)) (cntF pl sl r c f h t stC 9))), (0, .ref 100)]) (st1 := [.int 10, .int 10]) (w1 := (WX pgC (nI pl) stC (nI sl) PA PS E10 U10 u)) (by decide +kernel) rfl ?_
    refine M.icmp_gt (off := 20) (tgt := 178) (nx := 161) (by decide +kernel) (fun h => absurd h (by decide)) (fun _ => ?_)
    refine M.blk (is := [(.lload_n 1, 1, 0, 0), (.aload_n 0, 0, 0, 0), (.iload_n 3, 3, 0, 0)]) (pc1 := 164) (lo1 := [(3, .int 10), (1, .long (jn (jn (jn (jn (jn (jn (jn (jn (jn (jn dE (cntF pl sl r c f h t stC 0)) (cntF pl sl r c f h t stC 1)) (cntF pl sl r c f h t stC 2)) (cntF pl sl r c f h t stC 3)) (cntF pl sl r c f h t stC 4)) (cntF pl sl r c f h t stC 5)) (cntF pl sl r c f h t stC 6)) (cntF pl sl r c f h t stC 7)) (cntF pl sl r c f h t stC 8)) (cntF pl sl r c f h t stC 9))), (0, .ref 100)]) (st1 := [.int 10, .ref 100, .long (jn (jn (jn (jn (jn (jn (jn (jn (jn (jn dE (cntF pl sl r c f h t stC 0)) (cntF pl sl r c f h t stC 1)) (cntF pl sl r c f h t stC 2)) (cntF pl sl r c f h t stC 3)) (cntF pl sl r c f h t stC 4)) (cntF pl sl r c f h t stC 5)) (cntF pl sl r c f h t stC 6)) (cntF pl sl r c f h t stC 7)) (cntF pl sl r c f h t stC 8)) (cntF pl sl r c f h t stC 9))]) (w1 := (WX pgC (nI pl) stC (nI sl) PA PS E10 U10 u)) (by decide +kernel) rfl ?_
    refine M.callV (as := [.int 10]) (st := [.long (jn (jn (jn (jn (jn (jn (jn (jn (jn (jn dE (cntF pl sl r c f h t stC 0)) (cntF pl sl r c f h t stC 1)) (cntF pl sl r c f h t stC 2)) (cntF pl sl r c f h t stC 3)) (cntF pl sl r c f h t stC 4)) (cntF pl sl r c f h t stC 5)) (cntF pl sl r c f h t stC 6)) (cntF pl sl r c f h t stC 7)) (cntF pl sl r c f h t stC 8)) (cntF pl sl r c f h t stC 9))]) (nx := 167) okX3_count lkX3_171 (x_count (pl := pl) hsl hgeo hpl hE10 10) (by decide +kernel) (by decide) rfl (Nat.le_of_ble_eq_true rfl) rfl (by decide) ⟨by decide, by decide⟩ ?_
    intro r0 w1 hq
    obtain ⟨rfl, E11, U11, rfl, hE11⟩ := hq
    show g 0 0 167 [(3, .int 10), (1, .long (jn (jn (jn (jn (jn (jn (jn (jn (jn (jn dE (cntF pl sl r c f h t stC 0)) (cntF pl sl r c f h t stC 1)) (cntF pl sl r c f h t stC 2)) (cntF pl sl r c f h t stC 3)) (cntF pl sl r c f h t stC 4)) (cntF pl sl r c f h t stC 5)) (cntF pl sl r c f h t stC 6)) (cntF pl sl r c f h t stC 7)) (cntF pl sl r c f h t stC 8)) (cntF pl sl r c f h t stC 9))), (0, .ref 100)] [.int (cntF pl sl r c f h t stC 10), .long (jn (jn (jn (jn (jn (jn (jn (jn (jn (jn dE (cntF pl sl r c f h t stC 0)) (cntF pl sl r c f h t stC 1)) (cntF pl sl r c f h t stC 2)) (cntF pl sl r c f h t stC 3)) (cntF pl sl r c f h t stC 4)) (cntF pl sl r c f h t stC 5)) (cntF pl sl r c f h t stC 6)) (cntF pl sl r c f h t stC 7)) (cntF pl sl r c f h t stC 8)) (cntF pl sl r c f h t stC 9))] (WX pgC (nI pl) stC (nI sl) PA PS E11 U11 u)
    refine M.blk (is := [(.i2l, 0, 0, 0)]) (pc1 := 168) (lo1 := [(3, .int 10), (1, .long (jn (jn (jn (jn (jn (jn (jn (jn (jn (jn dE (cntF pl sl r c f h t stC 0)) (cntF pl sl r c f h t stC 1)) (cntF pl sl r c f h t stC 2)) (cntF pl sl r c f h t stC 3)) (cntF pl sl r c f h t stC 4)) (cntF pl sl r c f h t stC 5)) (cntF pl sl r c f h t stC 6)) (cntF pl sl r c f h t stC 7)) (cntF pl sl r c f h t stC 8)) (cntF pl sl r c f h t stC 9))), (0, .ref 100)]) (st1 := [.long ((cntF pl sl r c f h t stC 10 : Int32).toInt64), .long (jn (jn (jn (jn (jn (jn (jn (jn (jn (jn dE (cntF pl sl r c f h t stC 0)) (cntF pl sl r c f h t stC 1)) (cntF pl sl r c f h t stC 2)) (cntF pl sl r c f h t stC 3)) (cntF pl sl r c f h t stC 4)) (cntF pl sl r c f h t stC 5)) (cntF pl sl r c f h t stC 6)) (cntF pl sl r c f h t stC 7)) (cntF pl sl r c f h t stC 8)) (cntF pl sl r c f h t stC 9))]) (w1 := (WX pgC (nI pl) stC (nI sl) PA PS E11 U11 u)) (by decide +kernel) rfl ?_
    refine M.callSl (as := [.long (jn (jn (jn (jn (jn (jn (jn (jn (jn (jn dE (cntF pl sl r c f h t stC 0)) (cntF pl sl r c f h t stC 1)) (cntF pl sl r c f h t stC 2)) (cntF pl sl r c f h t stC 3)) (cntF pl sl r c f h t stC 4)) (cntF pl sl r c f h t stC 5)) (cntF pl sl r c f h t stC 6)) (cntF pl sl r c f h t stC 7)) (cntF pl sl r c f h t stC 8)) (cntF pl sl r c f h t stC 9)), .long ((cntF pl sl r c f h t stC 10 : Int32).toInt64)]) (st := []) (nx := 171) okX3_join lkX3_164 (s_join (WX pgC (nI pl) stC (nI sl) PA PS E11 U11 u) (jn (jn (jn (jn (jn (jn (jn (jn (jn (jn dE (cntF pl sl r c f h t stC 0)) (cntF pl sl r c f h t stC 1)) (cntF pl sl r c f h t stC 2)) (cntF pl sl r c f h t stC 3)) (cntF pl sl r c f h t stC 4)) (cntF pl sl r c f h t stC 5)) (cntF pl sl r c f h t stC 6)) (cntF pl sl r c f h t stC 7)) (cntF pl sl r c f h t stC 8)) (cntF pl sl r c f h t stC 9)) ((cntF pl sl r c f h t stC 10 : Int32).toInt64)) (by decide +kernel) (by decide) rfl (Nat.le_of_ble_eq_true rfl) ?_
    refine M.blk (is := [(.lstore_n 1, 1, 0, 0), (.iinc 3 1, 3, 0, 1), (.goto (-20), 155, 0, 0), (.iload_n 3, 3, 0, 0), (.bipush 10, 0, 0, 10)]) (pc1 := 158) (lo1 := [(3, .int 11), (1, .long (jn (jn (jn (jn (jn (jn (jn (jn (jn (jn (jn dE (cntF pl sl r c f h t stC 0)) (cntF pl sl r c f h t stC 1)) (cntF pl sl r c f h t stC 2)) (cntF pl sl r c f h t stC 3)) (cntF pl sl r c f h t stC 4)) (cntF pl sl r c f h t stC 5)) (cntF pl sl r c f h t stC 6)) (cntF pl sl r c f h t stC 7)) (cntF pl sl r c f h t stC 8)) (cntF pl sl r c f h t stC 9)) (cntF pl sl r c f h t stC 10))), (0, .ref 100)]) (st1 := [.int 10, .int 11]) (w1 := (WX pgC (nI pl) stC (nI sl) PA PS E11 U11 u)) (by decide +kernel) rfl ?_
    refine M.icmp_gt (off := 20) (tgt := 178) (nx := 161) (by decide +kernel) (fun _ => ?_) (fun h => absurd h (by decide))
    refine M.blk (is := [(.lload_n 1, 1, 0, 0)]) (pc1 := 179) (lo1 := [(3, .int 11), (1, .long (jn (jn (jn (jn (jn (jn (jn (jn (jn (jn (jn dE (cntF pl sl r c f h t stC 0)) (cntF pl sl r c f h t stC 1)) (cntF pl sl r c f h t stC 2)) (cntF pl sl r c f h t stC 3)) (cntF pl sl r c f h t stC 4)) (cntF pl sl r c f h t stC 5)) (cntF pl sl r c f h t stC 6)) (cntF pl sl r c f h t stC 7)) (cntF pl sl r c f h t stC 8)) (cntF pl sl r c f h t stC 9)) (cntF pl sl r c f h t stC 10))), (0, .ref 100)]) (st1 := [.long (jn (jn (jn (jn (jn (jn (jn (jn (jn (jn (jn dE (cntF pl sl r c f h t stC 0)) (cntF pl sl r c f h t stC 1)) (cntF pl sl r c f h t stC 2)) (cntF pl sl r c f h t stC 3)) (cntF pl sl r c f h t stC 4)) (cntF pl sl r c f h t stC 5)) (cntF pl sl r c f h t stC 6)) (cntF pl sl r c f h t stC 7)) (cntF pl sl r c f h t stC 8)) (cntF pl sl r c f h t stC 9)) (cntF pl sl r c f h t stC 10))]) (w1 := (WX pgC (nI pl) stC (nI sl) PA PS E11 U11 u)) (by decide +kernel) rfl ?_
    exact M.retl (nx := 180) (by decide +kernel) ⟨by rw [← hE]; rfl, E11, U11, rfl, hE11⟩
  have sD : ∀ BB BT, BnOk PA PS stC sl BB BT → ∀ m j, j + m = pl → g 0 0 122 [(0, .ref 100), (1, .long (dgD pgC (dgC (lbA (((1 : Int32) <<< (PS 9 &&& 31)) - 1) PA stC sl) (dgB (r * c) f h (jfF r c stC sl (jfF r c stC sl (dgA PA PS r c stC sl (r * c)) 0 2) (c + 1) 2) (r * c))) j)), (3, .int (nI j))] [] (WX pgC (nI pl) stC (nI sl) PA PS BB BT u) := by
    intro BB BT hB m
    induction m with
    | zero =>
      intro j hj
      have ej : pl = j := by omega
      subst ej
      refine M.blk (is := [(.iload_n 3, 3, 0, 0), (.aload_n 0, 0, 0, 0), (.getfield 10, 3, 0, 0), (.getfield 33, 2, 1, 0)]) (pc1 := 130) (lo1 := [(0, .ref 100), (1, .long (dgD pgC (dgC (lbA (((1 : Int32) <<< (PS 9 &&& 31)) - 1) PA stC sl) (dgB (r * c) f h (jfF r c stC sl (jfF r c stC sl (dgA PA PS r c stC sl (r * c)) 0 2) (c + 1) 2) (r * c))) pl)), (3, .int (nI pl))]) (st1 := [.int (nI pl), .int (nI pl)]) (w1 := (WX pgC (nI pl) stC (nI sl) PA PS BB BT u)) (by decide +kernel) rfl ?_
      refine M.icmp_ge (off := 23) (tgt := 153) (nx := 133) (by decide +kernel) (fun z130 => ?_) (fun z130 => by exfalso; exact z130 (nI_le (Nat.le_refl _) (by omega)))
      refine M.blk (is := [(.iconst 0, 0, 0, 0), (.istore_n 3, 3, 0, 0)]) (pc1 := 155) (lo1 := [(3, .int 0), (0, .ref 100), (1, .long (dgD pgC (dgC (lbA (((1 : Int32) <<< (PS 9 &&& 31)) - 1) PA stC sl) (dgB (r * c) f h (jfF r c stC sl (jfF r c stC sl (dgA PA PS r c stC sl (r * c)) 0 2) (c + 1) 2) (r * c))) pl))]) (st1 := []) (w1 := (WX pgC (nI pl) stC (nI sl) PA PS BB BT u)) (by decide +kernel) rfl ?_
      refine M.lsub [1, 2, 0] (lo1 := [(0, .ref 100), (1, .long (dgD pgC (dgC (lbA (((1 : Int32) <<< (PS 9 &&& 31)) - 1) PA stC sl) (dgB (r * c) f h (jfF r c stC sl (jfF r c stC sl (dgA PA PS r c stC sl (r * c)) 0 2) (c + 1) 2) (r * c))) pl)), (3, .int 0)]) rfl ?_
      exact sE BB BT _ hB rfl
    | succ m ih =>
      intro j hj
      refine M.blk (is := [(.iload_n 3, 3, 0, 0), (.aload_n 0, 0, 0, 0), (.getfield 10, 3, 0, 0), (.getfield 33, 2, 1, 0)]) (pc1 := 130) (lo1 := [(0, .ref 100), (1, .long (dgD pgC (dgC (lbA (((1 : Int32) <<< (PS 9 &&& 31)) - 1) PA stC sl) (dgB (r * c) f h (jfF r c stC sl (jfF r c stC sl (dgA PA PS r c stC sl (r * c)) 0 2) (c + 1) 2) (r * c))) j)), (3, .int (nI j))]) (st1 := [.int (nI pl), .int (nI j)]) (w1 := (WX pgC (nI pl) stC (nI sl) PA PS BB BT u)) (by decide +kernel) rfl ?_
      refine M.icmp_ge (off := 23) (tgt := 153) (nx := 133) (by decide +kernel) (fun z130 => by exfalso; exact nI_ge (show j < pl by omega) (by omega) z130) (fun z130 => ?_)
      refine M.blk (is := [(.lload_n 1, 1, 0, 0), (.aload_n 0, 0, 0, 0), (.getfield 10, 3, 0, 0), (.iload_n 3, 3, 0, 0)]) (pc1 := 139) (lo1 := [(0, .ref 100), (1, .long (dgD pgC (dgC (lbA (((1 : Int32) <<< (PS 9 &&& 31)) - 1) PA stC sl) (dgB (r * c) f h (jfF r c stC sl (jfF r c stC sl (dgA PA PS r c stC sl (r * c)) 0 2) (c + 1) 2) (r * c))) j)), (3, .int (nI j))]) (st1 := [.int (nI j), .ref 101, .long (dgD pgC (dgC (lbA (((1 : Int32) <<< (PS 9 &&& 31)) - 1) PA stC sl) (dgB (r * c) f h (jfF r c stC sl (jfF r c stC sl (dgA PA PS r c stC sl (r * c)) 0 2) (c + 1) 2) (r * c))) j)]) (w1 := (WX pgC (nI pl) stC (nI sl) PA PS BB BT u)) (by decide +kernel) rfl ?_
      refine M.callVi (as := [.int (nI j)]) (st := [.long (dgD pgC (dgC (lbA (((1 : Int32) <<< (PS 9 &&& 31)) - 1) PA stC sl) (dgB (r * c) f h (jfF r c stC sl (jfF r c stC sl (dgA PA PS r c stC sl (r * c)) 0 2) (c + 1) 2) (r * c))) j)]) (nx := 142) okX2_get lkX3_44 (x_get1 (nI j)) (by decide +kernel) (by decide) rfl (Nat.le_of_ble_eq_true rfl) rfl (by decide) ?_
      rw [sGet_nI (show pl ≤ 64 by omega) (show j < pl by omega)]
      refine M.blk (is := [(.i2l, 0, 0, 0)]) (pc1 := 143) (lo1 := [(0, .ref 100), (1, .long (dgD pgC (dgC (lbA (((1 : Int32) <<< (PS 9 &&& 31)) - 1) PA stC sl) (dgB (r * c) f h (jfF r c stC sl (jfF r c stC sl (dgA PA PS r c stC sl (r * c)) 0 2) (c + 1) 2) (r * c))) j)), (3, .int (nI j))]) (st1 := [.long ((pgC j : Int32).toInt64), .long (dgD pgC (dgC (lbA (((1 : Int32) <<< (PS 9 &&& 31)) - 1) PA stC sl) (dgB (r * c) f h (jfF r c stC sl (jfF r c stC sl (dgA PA PS r c stC sl (r * c)) 0 2) (c + 1) 2) (r * c))) j)]) (w1 := (WX pgC (nI pl) stC (nI sl) PA PS BB BT u)) (by decide +kernel) rfl ?_
      refine M.callSl (as := [.long (dgD pgC (dgC (lbA (((1 : Int32) <<< (PS 9 &&& 31)) - 1) PA stC sl) (dgB (r * c) f h (jfF r c stC sl (jfF r c stC sl (dgA PA PS r c stC sl (r * c)) 0 2) (c + 1) 2) (r * c))) j), .long ((pgC j : Int32).toInt64)]) (st := []) (nx := 146) okX3_join lkX3_164 (s_join (WX pgC (nI pl) stC (nI sl) PA PS BB BT u) (dgD pgC (dgC (lbA (((1 : Int32) <<< (PS 9 &&& 31)) - 1) PA stC sl) (dgB (r * c) f h (jfF r c stC sl (jfF r c stC sl (dgA PA PS r c stC sl (r * c)) 0 2) (c + 1) 2) (r * c))) j) ((pgC j : Int32).toInt64)) (by decide +kernel) (by decide) rfl (Nat.le_of_ble_eq_true rfl) ?_
      refine M.blk (is := [(.lstore_n 1, 1, 0, 0), (.iinc 3 1, 3, 0, 1), (.goto (-28), 122, 0, 0)]) (pc1 := 122) (lo1 := [(3, .int ((nI j) + 1)), (1, .long (jn (dgD pgC (dgC (lbA (((1 : Int32) <<< (PS 9 &&& 31)) - 1) PA stC sl) (dgB (r * c) f h (jfF r c stC sl (jfF r c stC sl (dgA PA PS r c stC sl (r * c)) 0 2) (c + 1) 2) (r * c))) j) (pgC j))), (0, .ref 100)]) (st1 := []) (w1 := (WX pgC (nI pl) stC (nI sl) PA PS BB BT u)) (by decide +kernel) rfl ?_
      refine M.lsub [2, 1, 0] (lo1 := [(0, .ref 100), (1, .long (jn (dgD pgC (dgC (lbA (((1 : Int32) <<< (PS 9 &&& 31)) - 1) PA stC sl) (dgB (r * c) f h (jfF r c stC sl (jfF r c stC sl (dgA PA PS r c stC sl (r * c)) 0 2) (c + 1) 2) (r * c))) j) (pgC j))), (3, .int ((nI j) + 1))]) rfl ?_
      rw [nI_1]
      exact ih (j + 1) (by omega)
  have sC : ∀ BB BT dC, BnOk PA PS stC sl BB BT → dC = dgB (r * c) f h (jfF r c stC sl (jfF r c stC sl (dgA PA PS r c stC sl (r * c)) 0 2) (c + 1) 2) (r * c) → g 0 0 97 [(0, .ref 100), (1, .long dC), (3, .int 0)] [] (WX pgC (nI pl) stC (nI sl) PA PS BB BT u) := by
    intro BB BT dC hB hC
    refine M.blk (is := [(.iload_n 3, 3, 0, 0), (.iconst 5, 0, 0, 5)]) (pc1 := 99) (lo1 := [(0, .ref 100), (1, .long dC), (3, .int 0)]) (st1 := [.int 5, .int 0]) (w1 := (WX pgC (nI pl) stC (nI sl) PA PS BB BT u)) (by decide +kernel) rfl ?_
    refine M.icmp_gt (off := 21) (tgt := 120) (nx := 102) (by decide +kernel) (fun h => absurd h (by decide)) (fun _ => ?_)
    refine M.blk (is := [(.lload_n 1, 1, 0, 0), (.aload_n 0, 0, 0, 0), (.iconst (-1), 0, 0, (-1)), (.iload_n 3, 3, 0, 0)]) (pc1 := 106) (lo1 := [(0, .ref 100), (1, .long dC), (3, .int 0)]) (st1 := [.int 0, .int (-1), .ref 100, .long dC]) (w1 := (WX pgC (nI pl) stC (nI sl) PA PS BB BT u)) (by decide +kernel) rfl ?_
    refine M.callV (as := [.int (-1), .int 0]) (st := [.long dC]) (nx := 109) okX3_run lkX3_168 (x_run_none hsl 0) (by decide +kernel) (by decide) rfl (Nat.le_of_ble_eq_true rfl) rfl (by decide) ⟨by decide, by decide⟩ ?_
    intro r0 w1 hq
    obtain ⟨rfl, ⟨ho, _⟩ | ⟨_, rfl⟩⟩ := hq
    · exact absurd ho (by unfold outY; decide)
    show g 0 0 109 [(0, .ref 100), (1, .long dC), (3, .int 0)] [.int (rwoF (lbA (((1 : Int32) <<< (PS 9 &&& 31)) - 1) PA stC sl) 0), .long dC] (WX pgC (nI pl) stC (nI sl) PA PS BB BT u)
    refine M.blk (is := [(.i2l, 0, 0, 0)]) (pc1 := 110) (lo1 := [(0, .ref 100), (1, .long dC), (3, .int 0)]) (st1 := [.long ((rwoF (lbA (((1 : Int32) <<< (PS 9 &&& 31)) - 1) PA stC sl) 0 : Int32).toInt64), .long dC]) (w1 := (WX pgC (nI pl) stC (nI sl) PA PS BB BT u)) (by decide +kernel) rfl ?_
    refine M.callSl (as := [.long dC, .long ((rwoF (lbA (((1 : Int32) <<< (PS 9 &&& 31)) - 1) PA stC sl) 0 : Int32).toInt64)]) (st := []) (nx := 113) okX3_join lkX3_164 (s_join (WX pgC (nI pl) stC (nI sl) PA PS BB BT u) dC ((rwoF (lbA (((1 : Int32) <<< (PS 9 &&& 31)) - 1) PA stC sl) 0 : Int32).toInt64)) (by decide +kernel) (by decide) rfl (Nat.le_of_ble_eq_true rfl) ?_
    refine M.blk (is := [(.lstore_n 1, 1, 0, 0), (.iinc 3 1, 3, 0, 1), (.goto (-20), 97, 0, 0), (.iload_n 3, 3, 0, 0), (.iconst 5, 0, 0, 5)]) (pc1 := 99) (lo1 := [(3, .int 1), (1, .long (jn dC (rwoF (lbA (((1 : Int32) <<< (PS 9 &&& 31)) - 1) PA stC sl) 0))), (0, .ref 100)]) (st1 := [.int 5, .int 1]) (w1 := (WX pgC (nI pl) stC (nI sl) PA PS BB BT u)) (by decide +kernel) rfl ?_
    refine M.icmp_gt (off := 21) (tgt := 120) (nx := 102) (by decide +kernel) (fun h => absurd h (by decide)) (fun _ => ?_)
    refine M.blk (is := [(.lload_n 1, 1, 0, 0), (.aload_n 0, 0, 0, 0), (.iconst (-1), 0, 0, (-1)), (.iload_n 3, 3, 0, 0)]) (pc1 := 106) (lo1 := [(3, .int 1), (1, .long (jn dC (rwoF (lbA (((1 : Int32) <<< (PS 9 &&& 31)) - 1) PA stC sl) 0))), (0, .ref 100)]) (st1 := [.int 1, .int (-1), .ref 100, .long (jn dC (rwoF (lbA (((1 : Int32) <<< (PS 9 &&& 31)) - 1) PA stC sl) 0))]) (w1 := (WX pgC (nI pl) stC (nI sl) PA PS BB BT u)) (by decide +kernel) rfl ?_
    refine M.callV (as := [.int (-1), .int 1]) (st := [.long (jn dC (rwoF (lbA (((1 : Int32) <<< (PS 9 &&& 31)) - 1) PA stC sl) 0))]) (nx := 109) okX3_run lkX3_168 (x_run_none hsl 1) (by decide +kernel) (by decide) rfl (Nat.le_of_ble_eq_true rfl) rfl (by decide) ⟨by decide, by decide⟩ ?_
    intro r0 w1 hq
    obtain ⟨rfl, ⟨ho, _⟩ | ⟨_, rfl⟩⟩ := hq
    · exact absurd ho (by unfold outY; decide)
    show g 0 0 109 [(3, .int 1), (1, .long (jn dC (rwoF (lbA (((1 : Int32) <<< (PS 9 &&& 31)) - 1) PA stC sl) 0))), (0, .ref 100)] [.int (rwoF (lbA (((1 : Int32) <<< (PS 9 &&& 31)) - 1) PA stC sl) 1), .long (jn dC (rwoF (lbA (((1 : Int32) <<< (PS 9 &&& 31)) - 1) PA stC sl) 0))] (WX pgC (nI pl) stC (nI sl) PA PS BB BT u)
    refine M.blk (is := [(.i2l, 0, 0, 0)]) (pc1 := 110) (lo1 := [(3, .int 1), (1, .long (jn dC (rwoF (lbA (((1 : Int32) <<< (PS 9 &&& 31)) - 1) PA stC sl) 0))), (0, .ref 100)]) (st1 := [.long ((rwoF (lbA (((1 : Int32) <<< (PS 9 &&& 31)) - 1) PA stC sl) 1 : Int32).toInt64), .long (jn dC (rwoF (lbA (((1 : Int32) <<< (PS 9 &&& 31)) - 1) PA stC sl) 0))]) (w1 := (WX pgC (nI pl) stC (nI sl) PA PS BB BT u)) (by decide +kernel) rfl ?_
    refine M.callSl (as := [.long (jn dC (rwoF (lbA (((1 : Int32) <<< (PS 9 &&& 31)) - 1) PA stC sl) 0)), .long ((rwoF (lbA (((1 : Int32) <<< (PS 9 &&& 31)) - 1) PA stC sl) 1 : Int32).toInt64)]) (st := []) (nx := 113) okX3_join lkX3_164 (s_join (WX pgC (nI pl) stC (nI sl) PA PS BB BT u) (jn dC (rwoF (lbA (((1 : Int32) <<< (PS 9 &&& 31)) - 1) PA stC sl) 0)) ((rwoF (lbA (((1 : Int32) <<< (PS 9 &&& 31)) - 1) PA stC sl) 1 : Int32).toInt64)) (by decide +kernel) (by decide) rfl (Nat.le_of_ble_eq_true rfl) ?_
    refine M.blk (is := [(.lstore_n 1, 1, 0, 0), (.iinc 3 1, 3, 0, 1), (.goto (-20), 97, 0, 0), (.iload_n 3, 3, 0, 0), (.iconst 5, 0, 0, 5)]) (pc1 := 99) (lo1 := [(3, .int 2), (1, .long (jn (jn dC (rwoF (lbA (((1 : Int32) <<< (PS 9 &&& 31)) - 1) PA stC sl) 0)) (rwoF (lbA (((1 : Int32) <<< (PS 9 &&& 31)) - 1) PA stC sl) 1))), (0, .ref 100)]) (st1 := [.int 5, .int 2]) (w1 := (WX pgC (nI pl) stC (nI sl) PA PS BB BT u)) (by decide +kernel) rfl ?_
    refine M.icmp_gt (off := 21) (tgt := 120) (nx := 102) (by decide +kernel) (fun h => absurd h (by decide)) (fun _ => ?_)
    refine M.blk (is := [(.lload_n 1, 1, 0, 0), (.aload_n 0, 0, 0, 0), (.iconst (-1), 0, 0, (-1)), (.iload_n 3, 3, 0, 0)]) (pc1 := 106) (lo1 := [(3, .int 2), (1, .long (jn (jn dC (rwoF (lbA (((1 : Int32) <<< (PS 9 &&& 31)) - 1) PA stC sl) 0)) (rwoF (lbA (((1 : Int32) <<< (PS 9 &&& 31)) - 1) PA stC sl) 1))), (0, .ref 100)]) (st1 := [.int 2, .int (-1), .ref 100, .long (jn (jn dC (rwoF (lbA (((1 : Int32) <<< (PS 9 &&& 31)) - 1) PA stC sl) 0)) (rwoF (lbA (((1 : Int32) <<< (PS 9 &&& 31)) - 1) PA stC sl) 1))]) (w1 := (WX pgC (nI pl) stC (nI sl) PA PS BB BT u)) (by decide +kernel) rfl ?_
    refine M.callV (as := [.int (-1), .int 2]) (st := [.long (jn (jn dC (rwoF (lbA (((1 : Int32) <<< (PS 9 &&& 31)) - 1) PA stC sl) 0)) (rwoF (lbA (((1 : Int32) <<< (PS 9 &&& 31)) - 1) PA stC sl) 1))]) (nx := 109) okX3_run lkX3_168 (x_run_none hsl 2) (by decide +kernel) (by decide) rfl (Nat.le_of_ble_eq_true rfl) rfl (by decide) ⟨by decide, by decide⟩ ?_
    intro r0 w1 hq
    obtain ⟨rfl, ⟨ho, _⟩ | ⟨_, rfl⟩⟩ := hq
    · exact absurd ho (by unfold outY; decide)
    show g 0 0 109 [(3, .int 2), (1, .long (jn (jn dC (rwoF (lbA (((1 : Int32) <<< (PS 9 &&& 31)) - 1) PA stC sl) 0)) (rwoF (lbA (((1 : Int32) <<< (PS 9 &&& 31)) - 1) PA stC sl) 1))), (0, .ref 100)] [.int (rwoF (lbA (((1 : Int32) <<< (PS 9 &&& 31)) - 1) PA stC sl) 2), .long (jn (jn dC (rwoF (lbA (((1 : Int32) <<< (PS 9 &&& 31)) - 1) PA stC sl) 0)) (rwoF (lbA (((1 : Int32) <<< (PS 9 &&& 31)) - 1) PA stC sl) 1))] (WX pgC (nI pl) stC (nI sl) PA PS BB BT u)
    refine M.blk (is := [(.i2l, 0, 0, 0)]) (pc1 := 110) (lo1 := [(3, .int 2), (1, .long (jn (jn dC (rwoF (lbA (((1 : Int32) <<< (PS 9 &&& 31)) - 1) PA stC sl) 0)) (rwoF (lbA (((1 : Int32) <<< (PS 9 &&& 31)) - 1) PA stC sl) 1))), (0, .ref 100)]) (st1 := [.long ((rwoF (lbA (((1 : Int32) <<< (PS 9 &&& 31)) - 1) PA stC sl) 2 : Int32).toInt64), .long (jn (jn dC (rwoF (lbA (((1 : Int32) <<< (PS 9 &&& 31)) - 1) PA stC sl) 0)) (rwoF (lbA (((1 : Int32) <<< (PS 9 &&& 31)) - 1) PA stC sl) 1))]) (w1 := (WX pgC (nI pl) stC (nI sl) PA PS BB BT u)) (by decide +kernel) rfl ?_
    refine M.callSl (as := [.long (jn (jn dC (rwoF (lbA (((1 : Int32) <<< (PS 9 &&& 31)) - 1) PA stC sl) 0)) (rwoF (lbA (((1 : Int32) <<< (PS 9 &&& 31)) - 1) PA stC sl) 1)), .long ((rwoF (lbA (((1 : Int32) <<< (PS 9 &&& 31)) - 1) PA stC sl) 2 : Int32).toInt64)]) (st := []) (nx := 113) okX3_join lkX3_164 (s_join (WX pgC (nI pl) stC (nI sl) PA PS BB BT u) (jn (jn dC (rwoF (lbA (((1 : Int32) <<< (PS 9 &&& 31)) - 1) PA stC sl) 0)) (rwoF (lbA (((1 : Int32) <<< (PS 9 &&& 31)) - 1) PA stC sl) 1)) ((rwoF (lbA (((1 : Int32) <<< (PS 9 &&& 31)) - 1) PA stC sl) 2 : Int32).toInt64)) (by decide +kernel) (by decide) rfl (Nat.le_of_ble_eq_true rfl) ?_
    refine M.blk (is := [(.lstore_n 1, 1, 0, 0), (.iinc 3 1, 3, 0, 1), (.goto (-20), 97, 0, 0), (.iload_n 3, 3, 0, 0), (.iconst 5, 0, 0, 5)]) (pc1 := 99) (lo1 := [(3, .int 3), (1, .long (jn (jn (jn dC (rwoF (lbA (((1 : Int32) <<< (PS 9 &&& 31)) - 1) PA stC sl) 0)) (rwoF (lbA (((1 : Int32) <<< (PS 9 &&& 31)) - 1) PA stC sl) 1)) (rwoF (lbA (((1 : Int32) <<< (PS 9 &&& 31)) - 1) PA stC sl) 2))), (0, .ref 100)]) (st1 := [.int 5, .int 3]) (w1 := (WX pgC (nI pl) stC (nI sl) PA PS BB BT u)) (by decide +kernel) rfl ?_
    refine M.icmp_gt (off := 21) (tgt := 120) (nx := 102) (by decide +kernel) (fun h => absurd h (by decide)) (fun _ => ?_)
    refine M.blk (is := [(.lload_n 1, 1, 0, 0), (.aload_n 0, 0, 0, 0), (.iconst (-1), 0, 0, (-1)), (.iload_n 3, 3, 0, 0)]) (pc1 := 106) (lo1 := [(3, .int 3), (1, .long (jn (jn (jn dC (rwoF (lbA (((1 : Int32) <<< (PS 9 &&& 31)) - 1) PA stC sl) 0)) (rwoF (lbA (((1 : Int32) <<< (PS 9 &&& 31)) - 1) PA stC sl) 1)) (rwoF (lbA (((1 : Int32) <<< (PS 9 &&& 31)) - 1) PA stC sl) 2))), (0, .ref 100)]) (st1 := [.int 3, .int (-1), .ref 100, .long (jn (jn (jn dC (rwoF (lbA (((1 : Int32) <<< (PS 9 &&& 31)) - 1) PA stC sl) 0)) (rwoF (lbA (((1 : Int32) <<< (PS 9 &&& 31)) - 1) PA stC sl) 1)) (rwoF (lbA (((1 : Int32) <<< (PS 9 &&& 31)) - 1) PA stC sl) 2))]) (w1 := (WX pgC (nI pl) stC (nI sl) PA PS BB BT u)) (by decide +kernel) rfl ?_
    refine M.callV (as := [.int (-1), .int 3]) (st := [.long (jn (jn (jn dC (rwoF (lbA (((1 : Int32) <<< (PS 9 &&& 31)) - 1) PA stC sl) 0)) (rwoF (lbA (((1 : Int32) <<< (PS 9 &&& 31)) - 1) PA stC sl) 1)) (rwoF (lbA (((1 : Int32) <<< (PS 9 &&& 31)) - 1) PA stC sl) 2))]) (nx := 109) okX3_run lkX3_168 (x_run_none hsl 3) (by decide +kernel) (by decide) rfl (Nat.le_of_ble_eq_true rfl) rfl (by decide) ⟨by decide, by decide⟩ ?_
    intro r0 w1 hq
    obtain ⟨rfl, ⟨ho, _⟩ | ⟨_, rfl⟩⟩ := hq
    · exact absurd ho (by unfold outY; decide)
    show g 0 0 109 [(3, .int 3), (1, .long (jn (jn (jn dC (rwoF (lbA (((1 : Int32) <<< (PS 9 &&& 31)) - 1) PA stC sl) 0)) (rwoF (lbA (((1 : Int32) <<< (PS 9 &&& 31)) - 1) PA stC sl) 1)) (rwoF (lbA (((1 : Int32) <<< (PS 9 &&& 31)) - 1) PA stC sl) 2))), (0, .ref 100)] [.int (rwoF (lbA (((1 : Int32) <<< (PS 9 &&& 31)) - 1) PA stC sl) 3), .long (jn (jn (jn dC (rwoF (lbA (((1 : Int32) <<< (PS 9 &&& 31)) - 1) PA stC sl) 0)) (rwoF (lbA (((1 : Int32) <<< (PS 9 &&& 31)) - 1) PA stC sl) 1)) (rwoF (lbA (((1 : Int32) <<< (PS 9 &&& 31)) - 1) PA stC sl) 2))] (WX pgC (nI pl) stC (nI sl) PA PS BB BT u)
    refine M.blk (is := [(.i2l, 0, 0, 0)]) (pc1 := 110) (lo1 := [(3, .int 3), (1, .long (jn (jn (jn dC (rwoF (lbA (((1 : Int32) <<< (PS 9 &&& 31)) - 1) PA stC sl) 0)) (rwoF (lbA (((1 : Int32) <<< (PS 9 &&& 31)) - 1) PA stC sl) 1)) (rwoF (lbA (((1 : Int32) <<< (PS 9 &&& 31)) - 1) PA stC sl) 2))), (0, .ref 100)]) (st1 := [.long ((rwoF (lbA (((1 : Int32) <<< (PS 9 &&& 31)) - 1) PA stC sl) 3 : Int32).toInt64), .long (jn (jn (jn dC (rwoF (lbA (((1 : Int32) <<< (PS 9 &&& 31)) - 1) PA stC sl) 0)) (rwoF (lbA (((1 : Int32) <<< (PS 9 &&& 31)) - 1) PA stC sl) 1)) (rwoF (lbA (((1 : Int32) <<< (PS 9 &&& 31)) - 1) PA stC sl) 2))]) (w1 := (WX pgC (nI pl) stC (nI sl) PA PS BB BT u)) (by decide +kernel) rfl ?_
    refine M.callSl (as := [.long (jn (jn (jn dC (rwoF (lbA (((1 : Int32) <<< (PS 9 &&& 31)) - 1) PA stC sl) 0)) (rwoF (lbA (((1 : Int32) <<< (PS 9 &&& 31)) - 1) PA stC sl) 1)) (rwoF (lbA (((1 : Int32) <<< (PS 9 &&& 31)) - 1) PA stC sl) 2)), .long ((rwoF (lbA (((1 : Int32) <<< (PS 9 &&& 31)) - 1) PA stC sl) 3 : Int32).toInt64)]) (st := []) (nx := 113) okX3_join lkX3_164 (s_join (WX pgC (nI pl) stC (nI sl) PA PS BB BT u) (jn (jn (jn dC (rwoF (lbA (((1 : Int32) <<< (PS 9 &&& 31)) - 1) PA stC sl) 0)) (rwoF (lbA (((1 : Int32) <<< (PS 9 &&& 31)) - 1) PA stC sl) 1)) (rwoF (lbA (((1 : Int32) <<< (PS 9 &&& 31)) - 1) PA stC sl) 2)) ((rwoF (lbA (((1 : Int32) <<< (PS 9 &&& 31)) - 1) PA stC sl) 3 : Int32).toInt64)) (by decide +kernel) (by decide) rfl (Nat.le_of_ble_eq_true rfl) ?_
    refine M.blk (is := [(.lstore_n 1, 1, 0, 0), (.iinc 3 1, 3, 0, 1), (.goto (-20), 97, 0, 0), (.iload_n 3, 3, 0, 0), (.iconst 5, 0, 0, 5)]) (pc1 := 99) (lo1 := [(3, .int 4), (1, .long (jn (jn (jn (jn dC (rwoF (lbA (((1 : Int32) <<< (PS 9 &&& 31)) - 1) PA stC sl) 0)) (rwoF (lbA (((1 : Int32) <<< (PS 9 &&& 31)) - 1) PA stC sl) 1)) (rwoF (lbA (((1 : Int32) <<< (PS 9 &&& 31)) - 1) PA stC sl) 2)) (rwoF (lbA (((1 : Int32) <<< (PS 9 &&& 31)) - 1) PA stC sl) 3))), (0, .ref 100)]) (st1 := [.int 5, .int 4]) (w1 := (WX pgC (nI pl) stC (nI sl) PA PS BB BT u)) (by decide +kernel) rfl ?_
    refine M.icmp_gt (off := 21) (tgt := 120) (nx := 102) (by decide +kernel) (fun h => absurd h (by decide)) (fun _ => ?_)
    refine M.blk (is := [(.lload_n 1, 1, 0, 0), (.aload_n 0, 0, 0, 0), (.iconst (-1), 0, 0, (-1)), (.iload_n 3, 3, 0, 0)]) (pc1 := 106) (lo1 := [(3, .int 4), (1, .long (jn (jn (jn (jn dC (rwoF (lbA (((1 : Int32) <<< (PS 9 &&& 31)) - 1) PA stC sl) 0)) (rwoF (lbA (((1 : Int32) <<< (PS 9 &&& 31)) - 1) PA stC sl) 1)) (rwoF (lbA (((1 : Int32) <<< (PS 9 &&& 31)) - 1) PA stC sl) 2)) (rwoF (lbA (((1 : Int32) <<< (PS 9 &&& 31)) - 1) PA stC sl) 3))), (0, .ref 100)]) (st1 := [.int 4, .int (-1), .ref 100, .long (jn (jn (jn (jn dC (rwoF (lbA (((1 : Int32) <<< (PS 9 &&& 31)) - 1) PA stC sl) 0)) (rwoF (lbA (((1 : Int32) <<< (PS 9 &&& 31)) - 1) PA stC sl) 1)) (rwoF (lbA (((1 : Int32) <<< (PS 9 &&& 31)) - 1) PA stC sl) 2)) (rwoF (lbA (((1 : Int32) <<< (PS 9 &&& 31)) - 1) PA stC sl) 3))]) (w1 := (WX pgC (nI pl) stC (nI sl) PA PS BB BT u)) (by decide +kernel) rfl ?_
    refine M.callV (as := [.int (-1), .int 4]) (st := [.long (jn (jn (jn (jn dC (rwoF (lbA (((1 : Int32) <<< (PS 9 &&& 31)) - 1) PA stC sl) 0)) (rwoF (lbA (((1 : Int32) <<< (PS 9 &&& 31)) - 1) PA stC sl) 1)) (rwoF (lbA (((1 : Int32) <<< (PS 9 &&& 31)) - 1) PA stC sl) 2)) (rwoF (lbA (((1 : Int32) <<< (PS 9 &&& 31)) - 1) PA stC sl) 3))]) (nx := 109) okX3_run lkX3_168 (x_run_none hsl 4) (by decide +kernel) (by decide) rfl (Nat.le_of_ble_eq_true rfl) rfl (by decide) ⟨by decide, by decide⟩ ?_
    intro r0 w1 hq
    obtain ⟨rfl, ⟨ho, _⟩ | ⟨_, rfl⟩⟩ := hq
    · exact absurd ho (by unfold outY; decide)
    show g 0 0 109 [(3, .int 4), (1, .long (jn (jn (jn (jn dC (rwoF (lbA (((1 : Int32) <<< (PS 9 &&& 31)) - 1) PA stC sl) 0)) (rwoF (lbA (((1 : Int32) <<< (PS 9 &&& 31)) - 1) PA stC sl) 1)) (rwoF (lbA (((1 : Int32) <<< (PS 9 &&& 31)) - 1) PA stC sl) 2)) (rwoF (lbA (((1 : Int32) <<< (PS 9 &&& 31)) - 1) PA stC sl) 3))), (0, .ref 100)] [.int (rwoF (lbA (((1 : Int32) <<< (PS 9 &&& 31)) - 1) PA stC sl) 4), .long (jn (jn (jn (jn dC (rwoF (lbA (((1 : Int32) <<< (PS 9 &&& 31)) - 1) PA stC sl) 0)) (rwoF (lbA (((1 : Int32) <<< (PS 9 &&& 31)) - 1) PA stC sl) 1)) (rwoF (lbA (((1 : Int32) <<< (PS 9 &&& 31)) - 1) PA stC sl) 2)) (rwoF (lbA (((1 : Int32) <<< (PS 9 &&& 31)) - 1) PA stC sl) 3))] (WX pgC (nI pl) stC (nI sl) PA PS BB BT u)
    refine M.blk (is := [(.i2l, 0, 0, 0)]) (pc1 := 110) (lo1 := [(3, .int 4), (1, .long (jn (jn (jn (jn dC (rwoF (lbA (((1 : Int32) <<< (PS 9 &&& 31)) - 1) PA stC sl) 0)) (rwoF (lbA (((1 : Int32) <<< (PS 9 &&& 31)) - 1) PA stC sl) 1)) (rwoF (lbA (((1 : Int32) <<< (PS 9 &&& 31)) - 1) PA stC sl) 2)) (rwoF (lbA (((1 : Int32) <<< (PS 9 &&& 31)) - 1) PA stC sl) 3))), (0, .ref 100)]) (st1 := [.long ((rwoF (lbA (((1 : Int32) <<< (PS 9 &&& 31)) - 1) PA stC sl) 4 : Int32).toInt64), .long (jn (jn (jn (jn dC (rwoF (lbA (((1 : Int32) <<< (PS 9 &&& 31)) - 1) PA stC sl) 0)) (rwoF (lbA (((1 : Int32) <<< (PS 9 &&& 31)) - 1) PA stC sl) 1)) (rwoF (lbA (((1 : Int32) <<< (PS 9 &&& 31)) - 1) PA stC sl) 2)) (rwoF (lbA (((1 : Int32) <<< (PS 9 &&& 31)) - 1) PA stC sl) 3))]) (w1 := (WX pgC (nI pl) stC (nI sl) PA PS BB BT u)) (by decide +kernel) rfl ?_
    refine M.callSl (as := [.long (jn (jn (jn (jn dC (rwoF (lbA (((1 : Int32) <<< (PS 9 &&& 31)) - 1) PA stC sl) 0)) (rwoF (lbA (((1 : Int32) <<< (PS 9 &&& 31)) - 1) PA stC sl) 1)) (rwoF (lbA (((1 : Int32) <<< (PS 9 &&& 31)) - 1) PA stC sl) 2)) (rwoF (lbA (((1 : Int32) <<< (PS 9 &&& 31)) - 1) PA stC sl) 3)), .long ((rwoF (lbA (((1 : Int32) <<< (PS 9 &&& 31)) - 1) PA stC sl) 4 : Int32).toInt64)]) (st := []) (nx := 113) okX3_join lkX3_164 (s_join (WX pgC (nI pl) stC (nI sl) PA PS BB BT u) (jn (jn (jn (jn dC (rwoF (lbA (((1 : Int32) <<< (PS 9 &&& 31)) - 1) PA stC sl) 0)) (rwoF (lbA (((1 : Int32) <<< (PS 9 &&& 31)) - 1) PA stC sl) 1)) (rwoF (lbA (((1 : Int32) <<< (PS 9 &&& 31)) - 1) PA stC sl) 2)) (rwoF (lbA (((1 : Int32) <<< (PS 9 &&& 31)) - 1) PA stC sl) 3)) ((rwoF (lbA (((1 : Int32) <<< (PS 9 &&& 31)) - 1) PA stC sl) 4 : Int32).toInt64)) (by decide +kernel) (by decide) rfl (Nat.le_of_ble_eq_true rfl) ?_
    refine M.blk (is := [(.lstore_n 1, 1, 0, 0), (.iinc 3 1, 3, 0, 1), (.goto (-20), 97, 0, 0), (.iload_n 3, 3, 0, 0), (.iconst 5, 0, 0, 5)]) (pc1 := 99) (lo1 := [(3, .int 5), (1, .long (jn (jn (jn (jn (jn dC (rwoF (lbA (((1 : Int32) <<< (PS 9 &&& 31)) - 1) PA stC sl) 0)) (rwoF (lbA (((1 : Int32) <<< (PS 9 &&& 31)) - 1) PA stC sl) 1)) (rwoF (lbA (((1 : Int32) <<< (PS 9 &&& 31)) - 1) PA stC sl) 2)) (rwoF (lbA (((1 : Int32) <<< (PS 9 &&& 31)) - 1) PA stC sl) 3)) (rwoF (lbA (((1 : Int32) <<< (PS 9 &&& 31)) - 1) PA stC sl) 4))), (0, .ref 100)]) (st1 := [.int 5, .int 5]) (w1 := (WX pgC (nI pl) stC (nI sl) PA PS BB BT u)) (by decide +kernel) rfl ?_
    refine M.icmp_gt (off := 21) (tgt := 120) (nx := 102) (by decide +kernel) (fun h => absurd h (by decide)) (fun _ => ?_)
    refine M.blk (is := [(.lload_n 1, 1, 0, 0), (.aload_n 0, 0, 0, 0), (.iconst (-1), 0, 0, (-1)), (.iload_n 3, 3, 0, 0)]) (pc1 := 106) (lo1 := [(3, .int 5), (1, .long (jn (jn (jn (jn (jn dC (rwoF (lbA (((1 : Int32) <<< (PS 9 &&& 31)) - 1) PA stC sl) 0)) (rwoF (lbA (((1 : Int32) <<< (PS 9 &&& 31)) - 1) PA stC sl) 1)) (rwoF (lbA (((1 : Int32) <<< (PS 9 &&& 31)) - 1) PA stC sl) 2)) (rwoF (lbA (((1 : Int32) <<< (PS 9 &&& 31)) - 1) PA stC sl) 3)) (rwoF (lbA (((1 : Int32) <<< (PS 9 &&& 31)) - 1) PA stC sl) 4))), (0, .ref 100)]) (st1 := [.int 5, .int (-1), .ref 100, .long (jn (jn (jn (jn (jn dC (rwoF (lbA (((1 : Int32) <<< (PS 9 &&& 31)) - 1) PA stC sl) 0)) (rwoF (lbA (((1 : Int32) <<< (PS 9 &&& 31)) - 1) PA stC sl) 1)) (rwoF (lbA (((1 : Int32) <<< (PS 9 &&& 31)) - 1) PA stC sl) 2)) (rwoF (lbA (((1 : Int32) <<< (PS 9 &&& 31)) - 1) PA stC sl) 3)) (rwoF (lbA (((1 : Int32) <<< (PS 9 &&& 31)) - 1) PA stC sl) 4))]) (w1 := (WX pgC (nI pl) stC (nI sl) PA PS BB BT u)) (by decide +kernel) rfl ?_
    refine M.callV (as := [.int (-1), .int 5]) (st := [.long (jn (jn (jn (jn (jn dC (rwoF (lbA (((1 : Int32) <<< (PS 9 &&& 31)) - 1) PA stC sl) 0)) (rwoF (lbA (((1 : Int32) <<< (PS 9 &&& 31)) - 1) PA stC sl) 1)) (rwoF (lbA (((1 : Int32) <<< (PS 9 &&& 31)) - 1) PA stC sl) 2)) (rwoF (lbA (((1 : Int32) <<< (PS 9 &&& 31)) - 1) PA stC sl) 3)) (rwoF (lbA (((1 : Int32) <<< (PS 9 &&& 31)) - 1) PA stC sl) 4))]) (nx := 109) okX3_run lkX3_168 (x_run_none hsl 5) (by decide +kernel) (by decide) rfl (Nat.le_of_ble_eq_true rfl) rfl (by decide) ⟨by decide, by decide⟩ ?_
    intro r0 w1 hq
    obtain ⟨rfl, ⟨ho, _⟩ | ⟨_, rfl⟩⟩ := hq
    · exact absurd ho (by unfold outY; decide)
    show g 0 0 109 [(3, .int 5), (1, .long (jn (jn (jn (jn (jn dC (rwoF (lbA (((1 : Int32) <<< (PS 9 &&& 31)) - 1) PA stC sl) 0)) (rwoF (lbA (((1 : Int32) <<< (PS 9 &&& 31)) - 1) PA stC sl) 1)) (rwoF (lbA (((1 : Int32) <<< (PS 9 &&& 31)) - 1) PA stC sl) 2)) (rwoF (lbA (((1 : Int32) <<< (PS 9 &&& 31)) - 1) PA stC sl) 3)) (rwoF (lbA (((1 : Int32) <<< (PS 9 &&& 31)) - 1) PA stC sl) 4))), (0, .ref 100)] [.int (rwoF (lbA (((1 : Int32) <<< (PS 9 &&& 31)) - 1) PA stC sl) 5), .long (jn (jn (jn (jn (jn dC (rwoF (lbA (((1 : Int32) <<< (PS 9 &&& 31)) - 1) PA stC sl) 0)) (rwoF (lbA (((1 : Int32) <<< (PS 9 &&& 31)) - 1) PA stC sl) 1)) (rwoF (lbA (((1 : Int32) <<< (PS 9 &&& 31)) - 1) PA stC sl) 2)) (rwoF (lbA (((1 : Int32) <<< (PS 9 &&& 31)) - 1) PA stC sl) 3)) (rwoF (lbA (((1 : Int32) <<< (PS 9 &&& 31)) - 1) PA stC sl) 4))] (WX pgC (nI pl) stC (nI sl) PA PS BB BT u)
    refine M.blk (is := [(.i2l, 0, 0, 0)]) (pc1 := 110) (lo1 := [(3, .int 5), (1, .long (jn (jn (jn (jn (jn dC (rwoF (lbA (((1 : Int32) <<< (PS 9 &&& 31)) - 1) PA stC sl) 0)) (rwoF (lbA (((1 : Int32) <<< (PS 9 &&& 31)) - 1) PA stC sl) 1)) (rwoF (lbA (((1 : Int32) <<< (PS 9 &&& 31)) - 1) PA stC sl) 2)) (rwoF (lbA (((1 : Int32) <<< (PS 9 &&& 31)) - 1) PA stC sl) 3)) (rwoF (lbA (((1 : Int32) <<< (PS 9 &&& 31)) - 1) PA stC sl) 4))), (0, .ref 100)]) (st1 := [.long ((rwoF (lbA (((1 : Int32) <<< (PS 9 &&& 31)) - 1) PA stC sl) 5 : Int32).toInt64), .long (jn (jn (jn (jn (jn dC (rwoF (lbA (((1 : Int32) <<< (PS 9 &&& 31)) - 1) PA stC sl) 0)) (rwoF (lbA (((1 : Int32) <<< (PS 9 &&& 31)) - 1) PA stC sl) 1)) (rwoF (lbA (((1 : Int32) <<< (PS 9 &&& 31)) - 1) PA stC sl) 2)) (rwoF (lbA (((1 : Int32) <<< (PS 9 &&& 31)) - 1) PA stC sl) 3)) (rwoF (lbA (((1 : Int32) <<< (PS 9 &&& 31)) - 1) PA stC sl) 4))]) (w1 := (WX pgC (nI pl) stC (nI sl) PA PS BB BT u)) (by decide +kernel) rfl ?_
    refine M.callSl (as := [.long (jn (jn (jn (jn (jn dC (rwoF (lbA (((1 : Int32) <<< (PS 9 &&& 31)) - 1) PA stC sl) 0)) (rwoF (lbA (((1 : Int32) <<< (PS 9 &&& 31)) - 1) PA stC sl) 1)) (rwoF (lbA (((1 : Int32) <<< (PS 9 &&& 31)) - 1) PA stC sl) 2)) (rwoF (lbA (((1 : Int32) <<< (PS 9 &&& 31)) - 1) PA stC sl) 3)) (rwoF (lbA (((1 : Int32) <<< (PS 9 &&& 31)) - 1) PA stC sl) 4)), .long ((rwoF (lbA (((1 : Int32) <<< (PS 9 &&& 31)) - 1) PA stC sl) 5 : Int32).toInt64)]) (st := []) (nx := 113) okX3_join lkX3_164 (s_join (WX pgC (nI pl) stC (nI sl) PA PS BB BT u) (jn (jn (jn (jn (jn dC (rwoF (lbA (((1 : Int32) <<< (PS 9 &&& 31)) - 1) PA stC sl) 0)) (rwoF (lbA (((1 : Int32) <<< (PS 9 &&& 31)) - 1) PA stC sl) 1)) (rwoF (lbA (((1 : Int32) <<< (PS 9 &&& 31)) - 1) PA stC sl) 2)) (rwoF (lbA (((1 : Int32) <<< (PS 9 &&& 31)) - 1) PA stC sl) 3)) (rwoF (lbA (((1 : Int32) <<< (PS 9 &&& 31)) - 1) PA stC sl) 4)) ((rwoF (lbA (((1 : Int32) <<< (PS 9 &&& 31)) - 1) PA stC sl) 5 : Int32).toInt64)) (by decide +kernel) (by decide) rfl (Nat.le_of_ble_eq_true rfl) ?_
    refine M.blk (is := [(.lstore_n 1, 1, 0, 0), (.iinc 3 1, 3, 0, 1), (.goto (-20), 97, 0, 0), (.iload_n 3, 3, 0, 0), (.iconst 5, 0, 0, 5)]) (pc1 := 99) (lo1 := [(3, .int 6), (1, .long (jn (jn (jn (jn (jn (jn dC (rwoF (lbA (((1 : Int32) <<< (PS 9 &&& 31)) - 1) PA stC sl) 0)) (rwoF (lbA (((1 : Int32) <<< (PS 9 &&& 31)) - 1) PA stC sl) 1)) (rwoF (lbA (((1 : Int32) <<< (PS 9 &&& 31)) - 1) PA stC sl) 2)) (rwoF (lbA (((1 : Int32) <<< (PS 9 &&& 31)) - 1) PA stC sl) 3)) (rwoF (lbA (((1 : Int32) <<< (PS 9 &&& 31)) - 1) PA stC sl) 4)) (rwoF (lbA (((1 : Int32) <<< (PS 9 &&& 31)) - 1) PA stC sl) 5))), (0, .ref 100)]) (st1 := [.int 5, .int 6]) (w1 := (WX pgC (nI pl) stC (nI sl) PA PS BB BT u)) (by decide +kernel) rfl ?_
    refine M.icmp_gt (off := 21) (tgt := 120) (nx := 102) (by decide +kernel) (fun _ => ?_) (fun h => absurd h (by decide))
    refine M.blk (is := [(.iconst 0, 0, 0, 0), (.istore_n 3, 3, 0, 0)]) (pc1 := 122) (lo1 := [(3, .int 0), (1, .long (jn (jn (jn (jn (jn (jn dC (rwoF (lbA (((1 : Int32) <<< (PS 9 &&& 31)) - 1) PA stC sl) 0)) (rwoF (lbA (((1 : Int32) <<< (PS 9 &&& 31)) - 1) PA stC sl) 1)) (rwoF (lbA (((1 : Int32) <<< (PS 9 &&& 31)) - 1) PA stC sl) 2)) (rwoF (lbA (((1 : Int32) <<< (PS 9 &&& 31)) - 1) PA stC sl) 3)) (rwoF (lbA (((1 : Int32) <<< (PS 9 &&& 31)) - 1) PA stC sl) 4)) (rwoF (lbA (((1 : Int32) <<< (PS 9 &&& 31)) - 1) PA stC sl) 5))), (0, .ref 100)]) (st1 := []) (w1 := (WX pgC (nI pl) stC (nI sl) PA PS BB BT u)) (by decide +kernel) rfl ?_
    refine M.lsub [2, 1, 0] (lo1 := [(0, .ref 100), (1, .long (jn (jn (jn (jn (jn (jn dC (rwoF (lbA (((1 : Int32) <<< (PS 9 &&& 31)) - 1) PA stC sl) 0)) (rwoF (lbA (((1 : Int32) <<< (PS 9 &&& 31)) - 1) PA stC sl) 1)) (rwoF (lbA (((1 : Int32) <<< (PS 9 &&& 31)) - 1) PA stC sl) 2)) (rwoF (lbA (((1 : Int32) <<< (PS 9 &&& 31)) - 1) PA stC sl) 3)) (rwoF (lbA (((1 : Int32) <<< (PS 9 &&& 31)) - 1) PA stC sl) 4)) (rwoF (lbA (((1 : Int32) <<< (PS 9 &&& 31)) - 1) PA stC sl) 5))), (3, .int 0)]) rfl ?_
    have e := sD BB BT hB pl 0 (by omega)
    rw [← hC] at e
    exact e
  have sB : ∀ BB BT, BnOk PA PS stC sl BB BT → ∀ m a, a + m = r * c → g 0 0 67 [(0, .ref 100), (1, .long (dgB (r * c) f h (jfF r c stC sl (jfF r c stC sl (dgA PA PS r c stC sl (r * c)) 0 2) (c + 1) 2) a)), (3, .int (nI a))] [] (WX pgC (nI pl) stC (nI sl) PA PS BB BT u) := by
    intro BB BT hB m
    induction m with
    | zero =>
      intro a ha
      have ea : r * c = a := by omega
      rw [← ea]
      refine M.blk (is := [(.iload_n 3, 3, 0, 0), (.aload_n 0, 0, 0, 0), (.getfield 22, 3, 2, 0), (.getfield 68, 1, 9, 0)]) (pc1 := 75) (lo1 := [(0, .ref 100), (1, .long (dgB (r * c) f h (jfF r c stC sl (jfF r c stC sl (dgA PA PS r c stC sl (r * c)) 0 2) (c + 1) 2) (r * c))), (3, .int (nI (r * c)))]) (st1 := [.int (PS 9), .int (nI (r * c))]) (w1 := (WX pgC (nI pl) stC (nI sl) PA PS BB BT u)) (by decide +kernel) rfl ?_
      refine M.icmp_ge (off := 20) (tgt := 95) (nx := 78) (by decide +kernel) (fun z75 => ?_) (fun z75 => by exfalso; exact z75 (by rw [hpl.1.2.2.1]; exact nI_le (Nat.le_refl _) (by omega)))
      refine M.blk (is := [(.iconst 0, 0, 0, 0), (.istore_n 3, 3, 0, 0)]) (pc1 := 97) (lo1 := [(3, .int 0), (0, .ref 100), (1, .long (dgB (r * c) f h (jfF r c stC sl (jfF r c stC sl (dgA PA PS r c stC sl (r * c)) 0 2) (c + 1) 2) (r * c)))]) (st1 := []) (w1 := (WX pgC (nI pl) stC (nI sl) PA PS BB BT u)) (by decide +kernel) rfl ?_
      refine M.lsub [1, 2, 0] (lo1 := [(0, .ref 100), (1, .long (dgB (r * c) f h (jfF r c stC sl (jfF r c stC sl (dgA PA PS r c stC sl (r * c)) 0 2) (c + 1) 2) (r * c))), (3, .int 0)]) rfl ?_
      exact sC BB BT _ hB rfl
    | succ m ih =>
      intro a ha
      have han : a < r * c := by omega
      refine M.blk (is := [(.iload_n 3, 3, 0, 0), (.aload_n 0, 0, 0, 0), (.getfield 22, 3, 2, 0), (.getfield 68, 1, 9, 0)]) (pc1 := 75) (lo1 := [(0, .ref 100), (1, .long (dgB (r * c) f h (jfF r c stC sl (jfF r c stC sl (dgA PA PS r c stC sl (r * c)) 0 2) (c + 1) 2) a)), (3, .int (nI a))]) (st1 := [.int (PS 9), .int (nI a)]) (w1 := (WX pgC (nI pl) stC (nI sl) PA PS BB BT u)) (by decide +kernel) rfl ?_
      refine M.icmp_ge (off := 20) (tgt := 95) (nx := 78) (by decide +kernel) (fun z75 => by exfalso; rw [hpl.1.2.2.1] at z75; exact nI_ge han (by omega) z75) (fun z75 => ?_)
      refine M.blk (is := [(.lload_n 1, 1, 0, 0), (.aload_n 0, 0, 0, 0), (.iload_n 3, 3, 0, 0)]) (pc1 := 81) (lo1 := [(0, .ref 100), (1, .long (dgB (r * c) f h (jfF r c stC sl (jfF r c stC sl (dgA PA PS r c stC sl (r * c)) 0 2) (c + 1) 2) a)), (3, .int (nI a))]) (st1 := [.int (nI a), .ref 100, .long (dgB (r * c) f h (jfF r c stC sl (jfF r c stC sl (dgA PA PS r c stC sl (r * c)) 0 2) (c + 1) 2) a)]) (w1 := (WX pgC (nI pl) stC (nI sl) PA PS BB BT u)) (by decide +kernel) rfl ?_
      refine M.callVi (as := [.int (nI a)]) (st := [.long (dgB (r * c) f h (jfF r c stC sl (jfF r c stC sl (dgA PA PS r c stC sl (r * c)) 0 2) (c + 1) 2) a)]) (nx := 84) okX3_at lkX3_161 (x_at (nI a)) (by decide +kernel) (by decide) rfl (Nat.le_of_ble_eq_true rfl) rfl (by decide) ?_
      rw [if_neg (show ¬ hasF PS (nI a) = 0 by rw [hasF_nI hpl.1.2.2.1 h25 han]; decide), pl_cl hpl h25 han]
      refine M.blk (is := [(.i2l, 0, 0, 0)]) (pc1 := 85) (lo1 := [(0, .ref 100), (1, .long (dgB (r * c) f h (jfF r c stC sl (jfF r c stC sl (dgA PA PS r c stC sl (r * c)) 0 2) (c + 1) 2) a)), (3, .int (nI a))]) (st1 := [.long ((nI ((f * a + h) % (r * c)) : Int32).toInt64), .long (dgB (r * c) f h (jfF r c stC sl (jfF r c stC sl (dgA PA PS r c stC sl (r * c)) 0 2) (c + 1) 2) a)]) (w1 := (WX pgC (nI pl) stC (nI sl) PA PS BB BT u)) (by decide +kernel) rfl ?_
      refine M.callSl (as := [.long (dgB (r * c) f h (jfF r c stC sl (jfF r c stC sl (dgA PA PS r c stC sl (r * c)) 0 2) (c + 1) 2) a), .long ((nI ((f * a + h) % (r * c)) : Int32).toInt64)]) (st := []) (nx := 88) okX3_join lkX3_164 (s_join (WX pgC (nI pl) stC (nI sl) PA PS BB BT u) (dgB (r * c) f h (jfF r c stC sl (jfF r c stC sl (dgA PA PS r c stC sl (r * c)) 0 2) (c + 1) 2) a) ((nI ((f * a + h) % (r * c)) : Int32).toInt64)) (by decide +kernel) (by decide) rfl (Nat.le_of_ble_eq_true rfl) ?_
      refine M.blk (is := [(.lstore_n 1, 1, 0, 0), (.iinc 3 1, 3, 0, 1), (.goto (-25), 67, 0, 0)]) (pc1 := 67) (lo1 := [(3, .int ((nI a) + 1)), (1, .long (jn (dgB (r * c) f h (jfF r c stC sl (jfF r c stC sl (dgA PA PS r c stC sl (r * c)) 0 2) (c + 1) 2) a) (nI ((f * a + h) % (r * c))))), (0, .ref 100)]) (st1 := []) (w1 := (WX pgC (nI pl) stC (nI sl) PA PS BB BT u)) (by decide +kernel) rfl ?_
      refine M.lsub [2, 1, 0] (lo1 := [(0, .ref 100), (1, .long (jn (dgB (r * c) f h (jfF r c stC sl (jfF r c stC sl (dgA PA PS r c stC sl (r * c)) 0 2) (c + 1) 2) a) (nI ((f * a + h) % (r * c))))), (3, .int ((nI a) + 1))]) rfl ?_
      rw [nI_1]
      exact ih (a + 1) (by omega)
  have sA : ∀ m k BB BT, BnOk PA PS stC sl BB BT → k + m = r * c → g 0 0 6 [(0, .ref 100), (1, .long (dgA PA PS r c stC sl k)), (3, .int (nI k))] [] (WX pgC (nI pl) stC (nI sl) PA PS BB BT u) := by
    intro m
    induction m with
    | zero =>
      intro k BB BT hB hk
      have ek : r * c = k := by omega
      rw [← ek]
      refine M.blk (is := [(.iload_n 3, 3, 0, 0), (.aload_n 0, 0, 0, 0), (.getfield 22, 3, 2, 0), (.getfield 68, 1, 9, 0)]) (pc1 := 14) (lo1 := [(0, .ref 100), (1, .long (dgA PA PS r c stC sl (r * c))), (3, .int (nI (r * c)))]) (st1 := [.int (PS 9), .int (nI (r * c))]) (w1 := (WX pgC (nI pl) stC (nI sl) PA PS BB BT u)) (by decide +kernel) rfl ?_
      refine M.icmp_ge (off := 25) (tgt := 39) (nx := 17) (by decide +kernel) (fun z14 => ?_) (fun z14 => by exfalso; exact z14 (by rw [hpl.1.2.2.1]; exact nI_le (Nat.le_refl _) (by omega)))
      refine M.blk (is := [(.aload_n 0, 0, 0, 0), (.lload_n 1, 1, 0, 0), (.iconst 0, 0, 0, 0), (.iconst 2, 0, 0, 2), (.iconst 2, 0, 0, 2)]) (pc1 := 44) (lo1 := [(0, .ref 100), (1, .long (dgA PA PS r c stC sl (r * c))), (3, .int (nI (r * c)))]) (st1 := [.int 2, .int 2, .int 0, .long (dgA PA PS r c stC sl (r * c)), .ref 100]) (w1 := (WX pgC (nI pl) stC (nI sl) PA PS BB BT u)) (by decide +kernel) rfl ?_
      refine M.callV (as := [.long (dgA PA PS r c stC sl (r * c)), .int 0, .int 2, .int 2]) (st := []) (nx := 47) okX3_joinFound lkX3_157 (x_joinFound22 (k := 0) hsl hgeo hpl hB (by omega) (dgA PA PS r c stC sl (r * c))) (by decide +kernel) (by decide) rfl (Nat.le_of_ble_eq_true rfl) rfl (by decide) ⟨by decide, by decide⟩ ?_
      intro r0 w1 hq
      obtain ⟨rfl, F1, G1, rfl, hF1⟩ := hq
      show g 0 0 47 [(0, .ref 100), (1, .long (dgA PA PS r c stC sl (r * c))), (3, .int (nI (r * c)))] [.long (jfF r c stC sl (dgA PA PS r c stC sl (r * c)) 0 2)] (WX pgC (nI pl) stC (nI sl) PA PS F1 G1 u)
      refine M.blk (is := [(.lstore_n 1, 1, 0, 0), (.aload_n 0, 0, 0, 0), (.lload_n 1, 1, 0, 0), (.aload_n 0, 0, 0, 0), (.getfield 22, 3, 2, 0), (.getfield 127, 1, 8, 0), (.iconst 1, 0, 0, 1), (.iadd, 0, 0, 0)]) (pc1 := 59) (lo1 := [(1, .long (jfF r c stC sl (dgA PA PS r c stC sl (r * c)) 0 2)), (0, .ref 100), (3, .int (nI (r * c)))]) (st1 := [.int ((PS 8) + 1), .long (jfF r c stC sl (dgA PA PS r c stC sl (r * c)) 0 2), .ref 100]) (w1 := (WX pgC (nI pl) stC (nI sl) PA PS F1 G1 u)) (by decide +kernel) rfl ?_
      rw [hpl.1.2.1, nI_1]
      refine M.blk (is := [(.iconst 2, 0, 0, 2), (.iconst 2, 0, 0, 2)]) (pc1 := 61) (lo1 := [(1, .long (jfF r c stC sl (dgA PA PS r c stC sl (r * c)) 0 2)), (0, .ref 100), (3, .int (nI (r * c)))]) (st1 := [.int 2, .int 2, .int (nI (c + 1)), .long (jfF r c stC sl (dgA PA PS r c stC sl (r * c)) 0 2), .ref 100]) (w1 := (WX pgC (nI pl) stC (nI sl) PA PS F1 G1 u)) (by decide +kernel) rfl ?_
      refine M.callV (as := [.long (jfF r c stC sl (dgA PA PS r c stC sl (r * c)) 0 2), .int (nI (c + 1)), .int 2, .int 2]) (st := []) (nx := 64) okX3_joinFound lkX3_157 (x_joinFound22 (k := c + 1) hsl hgeo hpl hF1 (by omega) (jfF r c stC sl (dgA PA PS r c stC sl (r * c)) 0 2)) (by decide +kernel) (by decide) rfl (Nat.le_of_ble_eq_true rfl) rfl (by decide) ⟨by decide, by decide⟩ ?_
      intro r0 w1 hq
      obtain ⟨rfl, F2, G2, rfl, hF2⟩ := hq
      show g 0 0 64 [(1, .long (jfF r c stC sl (dgA PA PS r c stC sl (r * c)) 0 2)), (0, .ref 100), (3, .int (nI (r * c)))] [.long (jfF r c stC sl (jfF r c stC sl (dgA PA PS r c stC sl (r * c)) 0 2) (c + 1) 2)] (WX pgC (nI pl) stC (nI sl) PA PS F2 G2 u)
      refine M.blk (is := [(.lstore_n 1, 1, 0, 0), (.iconst 0, 0, 0, 0), (.istore_n 3, 3, 0, 0)]) (pc1 := 67) (lo1 := [(3, .int 0), (1, .long (jfF r c stC sl (jfF r c stC sl (dgA PA PS r c stC sl (r * c)) 0 2) (c + 1) 2)), (0, .ref 100)]) (st1 := []) (w1 := (WX pgC (nI pl) stC (nI sl) PA PS F2 G2 u)) (by decide +kernel) rfl ?_
      refine M.lsub [2, 1, 0] (lo1 := [(0, .ref 100), (1, .long (jfF r c stC sl (jfF r c stC sl (dgA PA PS r c stC sl (r * c)) 0 2) (c + 1) 2)), (3, .int 0)]) rfl ?_
      exact sB F2 G2 hF2 (r * c) 0 (by omega)
    | succ m ih =>
      intro k BB BT hB hk
      have hkn : k < r * c := by omega
      refine M.blk (is := [(.iload_n 3, 3, 0, 0), (.aload_n 0, 0, 0, 0), (.getfield 22, 3, 2, 0), (.getfield 68, 1, 9, 0)]) (pc1 := 14) (lo1 := [(0, .ref 100), (1, .long (dgA PA PS r c stC sl k)), (3, .int (nI k))]) (st1 := [.int (PS 9), .int (nI k)]) (w1 := (WX pgC (nI pl) stC (nI sl) PA PS BB BT u)) (by decide +kernel) rfl ?_
      refine M.icmp_ge (off := 25) (tgt := 39) (nx := 17) (by decide +kernel) (fun z14 => by exfalso; rw [hpl.1.2.2.1] at z14; exact nI_ge hkn (by omega) z14) (fun z14 => ?_)
      refine M.blk (is := [(.aload_n 0, 0, 0, 0), (.lload_n 1, 1, 0, 0), (.iload_n 3, 3, 0, 0)]) (pc1 := 20) (lo1 := [(0, .ref 100), (1, .long (dgA PA PS r c stC sl k)), (3, .int (nI k))]) (st1 := [.int (nI k), .long (dgA PA PS r c stC sl k), .ref 100]) (w1 := (WX pgC (nI pl) stC (nI sl) PA PS BB BT u)) (by decide +kernel) rfl ?_
      refine M.callV (as := [.long (dgA PA PS r c stC sl k), .int (nI k)]) (st := []) (nx := 23) okX3_joinCell lkX3_153 (x_joinCell hsl hgeo hpl hB hkn (dgA PA PS r c stC sl k)) (by decide +kernel) (by decide) rfl (Nat.le_of_ble_eq_true rfl) rfl (by decide) ⟨by decide, by decide⟩ ?_
      intro r0 w1 hq
      obtain ⟨rfl, F1, G1, rfl, hF1⟩ := hq
      show g 0 0 23 [(0, .ref 100), (1, .long (dgA PA PS r c stC sl k)), (3, .int (nI k))] [.long (jcF PA PS r c stC sl (dgA PA PS r c stC sl k) k)] (WX pgC (nI pl) stC (nI sl) PA PS F1 G1 u)
      refine M.blk (is := [(.lstore_n 1, 1, 0, 0), (.aload_n 0, 0, 0, 0), (.lload_n 1, 1, 0, 0), (.iload_n 3, 3, 0, 0), (.iconst 0, 0, 0, 0), (.iconst 1, 0, 0, 1)]) (pc1 := 29) (lo1 := [(1, .long (jcF PA PS r c stC sl (dgA PA PS r c stC sl k) k)), (0, .ref 100), (3, .int (nI k))]) (st1 := [.int 1, .int 0, .int (nI k), .long (jcF PA PS r c stC sl (dgA PA PS r c stC sl k) k), .ref 100]) (w1 := (WX pgC (nI pl) stC (nI sl) PA PS F1 G1 u)) (by decide +kernel) rfl ?_
      refine M.callV (as := [.long (jcF PA PS r c stC sl (dgA PA PS r c stC sl k) k), .int (nI k), .int 0, .int 1]) (st := []) (nx := 32) okX3_joinFound lkX3_157 (x_joinFound01 (k := k) hsl hgeo hpl hF1 (by omega) (jcF PA PS r c stC sl (dgA PA PS r c stC sl k) k)) (by decide +kernel) (by decide) rfl (Nat.le_of_ble_eq_true rfl) rfl (by decide) ⟨by decide, by decide⟩ ?_
      intro r0 w1 hq
      obtain ⟨rfl, F2, G2, rfl, hF2⟩ := hq
      show g 0 0 32 [(1, .long (jcF PA PS r c stC sl (dgA PA PS r c stC sl k) k)), (0, .ref 100), (3, .int (nI k))] [.long (jfF r c stC sl (jfF r c stC sl (jcF PA PS r c stC sl (dgA PA PS r c stC sl k) k) k 0) k 1)] (WX pgC (nI pl) stC (nI sl) PA PS F2 G2 u)
      refine M.blk (is := [(.lstore_n 1, 1, 0, 0), (.iinc 3 1, 3, 0, 1), (.goto (-30), 6, 0, 0)]) (pc1 := 6) (lo1 := [(3, .int ((nI k) + 1)), (1, .long (jfF r c stC sl (jfF r c stC sl (jcF PA PS r c stC sl (dgA PA PS r c stC sl k) k) k 0) k 1)), (0, .ref 100)]) (st1 := []) (w1 := (WX pgC (nI pl) stC (nI sl) PA PS F2 G2 u)) (by decide +kernel) rfl ?_
      refine M.lsub [2, 1, 0] (lo1 := [(0, .ref 100), (1, .long (jfF r c stC sl (jfF r c stC sl (jcF PA PS r c stC sl (dgA PA PS r c stC sl k) k) k 0) k 1)), (3, .int ((nI k) + 1))]) rfl ?_
      rw [nI_1]
      exact ih (k + 1) F2 G2 hF2 (by omega)
  show g 0 0 0 [(0, .ref 100)] [] (WX pgC (nI pl) stC (nI sl) PA PS BA BS u)
  refine M.ldl (v := 1721) (idx := 151) (nx := 3) (by decide +kernel) (lw_in 479 (by decide +kernel) (by decide +kernel)) ?_
  refine M.blk (is := [(.lstore_n 1, 1, 0, 0), (.iconst 0, 0, 0, 0), (.istore_n 3, 3, 0, 0)]) (pc1 := 6) (lo1 := [(3, .int 0), (1, .long 1721), (0, .ref 100)]) (st1 := []) (w1 := (WX pgC (nI pl) stC (nI sl) PA PS BA BS u)) (by decide +kernel) rfl ?_
  refine M.lsub [2, 1, 0] (lo1 := [(0, .ref 100), (1, .long 1721), (3, .int 0)]) rfl ?_
  exact sA (r * c) 0 BA BS hbn (by omega)
end DIGEST
end
section
section MONE
variable {MA : Nat → Nat → Int32} {MS : Nat → Int32} {Mh : Int64} {v : List Cl}
def withF (x a b : Int32) : Int32 := if x < a then 0 else if b < x then 0 else 1
theorem wf_cases (x : Int32) {a b : Nat} (hb : b < 2147483647) (hab : a ≤ b + 1) : (withF x (nI a) (nI b) = 0 ∧ ∀ k, a ≤ k → k ≤ b → ¬ x = nI k) ∨ (withF x (nI a) (nI b) = 1 ∧ ∃ k, a ≤ k ∧ k ≤ b ∧ x = nI k) := by
  unfold withF
  by_cases h1 : x < nI a
  · left
    rw [if_pos h1]
    refine ⟨rfl, fun k hk1 hk2 e => ?_⟩
    rw [e] at h1
    exact nI_nlt hk1 (by omega) h1
  · rw [if_neg h1]
    by_cases h2 : nI b < x
    · left
      rw [if_pos h2]
      refine ⟨rfl, fun k hk1 hk2 e => ?_⟩
      rw [e] at h2
      exact nI_nlt hk2 (by omega) h2
    · right
      rw [if_neg h2]
      refine ⟨rfl, ?_⟩
      have h0 : ¬ x < 0 := by
        rw [Int32.lt_iff_toInt_lt] at h1 ⊢
        rw [nI_toInt (by omega)] at h1
        have : (0 : Int32).toInt = 0 := by decide
        omega
      obtain ⟨j, hj, rfl⟩ := nI_of h0
      refine ⟨j, ?_, ?_, rfl⟩
      · rcases Nat.lt_or_ge j a with h | h
        · exact absurd (nI_lt h (by omega)) h1
        · exact h
      · rcases Nat.lt_or_ge b j with h | h
        · exact absurd (nI_lt h (by omega)) h2
        · exact h
def hbF (b k : Int32) : Int32 := if (b >>> (k &&& 31)) &&& 1 = 1 then 1 else 0
def onA (b : Int32) (k : Nat) : Int32 := match k with
  | 0 => 0
  | k + 1 => onA b k + ((b >>> (nI k &&& 31)) &&& 1)
theorem s_within (w0 : Wd) (x a b : Int32) : CC 0 mX4_within 0 0 [.int x, .int a, .int b] w0 (Rt (withF x a b) w0) := by
  refine CC.of okX4_within.1 (Nat.le_of_ble_eq_true rfl) (fun g M => ?_)
  show g 0 0 0 [(0, .int x), (1, .int a), (2, .int b)] [] w0
  refine M.blk (is := [(.iload_n 0, 0, 0, 0), (.iload_n 1, 1, 0, 0)]) (pc1 := 2) (lo1 := [(0, .int x), (1, .int a), (2, .int b)]) (st1 := [.int a, .int x]) (w1 := w0) (by decide +kernel) rfl ?_
  refine M.icmp_lt (off := 12) (tgt := 14) (nx := 5) (by decide +kernel) (fun z2 => ?_) (fun z2 => ?_)
  · refine M.blk (is := [(.iconst 0, 0, 0, 0)]) (pc1 := 15) (lo1 := [(0, .int x), (1, .int a), (2, .int b)]) (st1 := [.int 0]) (w1 := w0) (by decide +kernel) rfl ?_
    exact M.retz (nx := 16) (by decide +kernel) (by decide) ⟨by simp [withF, *], rfl⟩
  · refine M.blk (is := [(.iload_n 0, 0, 0, 0), (.iload_n 2, 2, 0, 0)]) (pc1 := 7) (lo1 := [(0, .int x), (1, .int a), (2, .int b)]) (st1 := [.int b, .int x]) (w1 := w0) (by decide +kernel) rfl ?_
    refine M.icmp_gt (off := 7) (tgt := 14) (nx := 10) (by decide +kernel) (fun z7 => ?_) (fun z7 => ?_)
    · refine M.blk (is := [(.iconst 0, 0, 0, 0)]) (pc1 := 15) (lo1 := [(0, .int x), (1, .int a), (2, .int b)]) (st1 := [.int 0]) (w1 := w0) (by decide +kernel) rfl ?_
      exact M.retz (nx := 16) (by decide +kernel) (by decide) ⟨by simp [withF, *], rfl⟩
    · refine M.blk (is := [(.iconst 1, 0, 0, 1), (.goto 4, 15, 0, 0)]) (pc1 := 15) (lo1 := [(0, .int x), (1, .int a), (2, .int b)]) (st1 := [.int 1]) (w1 := w0) (by decide +kernel) rfl ?_
      exact M.retz (nx := 16) (by decide +kernel) (by decide) ⟨by simp [withF, *], rfl⟩
theorem s_hasM (w0 : Wd) (b k : Int32) : CC 0 mX4_has 0 0 [.int b, .int k] w0 (Rt (hbF b k) w0) := by
  refine CC.of okX4_has.1 (Nat.le_of_ble_eq_true rfl) (fun g M => ?_)
  show g 0 0 0 [(0, .int b), (1, .int k)] [] w0
  refine M.blk (is := [(.iload_n 0, 0, 0, 0), (.iload_n 1, 1, 0, 0), (.ishr, 0, 0, 0), (.iconst 1, 0, 0, 1), (.iand, 0, 0, 0), (.iconst 1, 0, 0, 1)]) (pc1 := 6) (lo1 := [(0, .int b), (1, .int k)]) (st1 := [.int 1, .int ((b >>> (k &&& 31)) &&& 1)]) (w1 := w0) (by decide +kernel) rfl ?_
  refine M.icmp_ne (off := 7) (tgt := 13) (nx := 9) (by decide +kernel) (fun z6 => ?_) (fun z6 => ?_)
  · refine M.blk (is := [(.iconst 0, 0, 0, 0)]) (pc1 := 14) (lo1 := [(0, .int b), (1, .int k)]) (st1 := [.int 0]) (w1 := w0) (by decide +kernel) rfl ?_
    exact M.retz (nx := 15) (by decide +kernel) (by decide) ⟨by simp [hbF, *], rfl⟩
  · refine M.blk (is := [(.iconst 1, 0, 0, 1), (.goto 4, 14, 0, 0)]) (pc1 := 14) (lo1 := [(0, .int b), (1, .int k)]) (st1 := [.int 1]) (w1 := w0) (by decide +kernel) rfl ?_
    exact M.retz (nx := 15) (by decide +kernel) (by decide) ⟨by simp [hbF, *], rfl⟩
theorem s_ones (w0 : Wd) (b : Int32) : CC 0 mX4_ones 0 0 [.int b] w0 (Rt (onA b 25) w0) := by
  refine CC.of okX4_ones.1 (Nat.le_of_ble_eq_true rfl) (fun g M => ?_)
  have lp : ∀ m k, k + m = 25 → g 0 0 4 [(0, .int b), (1, .int (onA b k)), (2, .int (nI k))] [] w0 := by
    intro m
    induction m with
    | zero =>
      intro k hk
      have ek : k = 25 := by omega
      subst ek
      refine M.blk (is := [(.iload_n 2, 2, 0, 0), (.bipush 25, 0, 0, 25)]) (pc1 := 7) (lo1 := [(0, .int b), (1, .int (onA b 25)), (2, .int (nI 25))]) (st1 := [.int 25, .int (nI 25)]) (w1 := w0) (by decide +kernel) rfl ?_
      refine M.icmp_ge (off := 17) (tgt := 24) (nx := 10) (by decide +kernel) (fun z7 => ?_) (fun z7 => by exfalso; exact z7 (by decide))
      refine M.blk (is := [(.iload_n 1, 1, 0, 0)]) (pc1 := 25) (lo1 := [(0, .int b), (1, .int (onA b 25)), (2, .int (nI 25))]) (st1 := [.int (onA b 25)]) (w1 := w0) (by decide +kernel) rfl ?_
      exact M.reti (nx := 26) (by decide +kernel) ⟨rfl, rfl⟩
    | succ m ih =>
      intro k hk
      refine M.blk (is := [(.iload_n 2, 2, 0, 0), (.bipush 25, 0, 0, 25)]) (pc1 := 7) (lo1 := [(0, .int b), (1, .int (onA b k)), (2, .int (nI k))]) (st1 := [.int 25, .int (nI k)]) (w1 := w0) (by decide +kernel) rfl ?_
      refine M.icmp_ge (off := 17) (tgt := 24) (nx := 10) (by decide +kernel) (fun z7 => by exfalso; exact nI_ge (a := k) (b := 25) (by omega) (by decide) z7) (fun z7 => ?_)
      refine M.blk (is := [(.iload_n 1, 1, 0, 0), (.iload_n 0, 0, 0, 0), (.iload_n 2, 2, 0, 0), (.ishr, 0, 0, 0), (.iconst 1, 0, 0, 1), (.iand, 0, 0, 0), (.iadd, 0, 0, 0), (.istore_n 1, 1, 0, 0), (.iinc 2 1, 2, 0, 1), (.goto (-17), 4, 0, 0)]) (pc1 := 4) (lo1 := [(2, .int ((nI k) + 1)), (1, .int ((onA b k) + ((b >>> ((nI k) &&& 31)) &&& 1))), (0, .int b)]) (st1 := []) (w1 := w0) (by decide +kernel) rfl ?_
      refine M.lsub [2, 1, 0] (lo1 := [(0, .int b), (1, .int ((onA b k) + ((b >>> ((nI k) &&& 31)) &&& 1))), (2, .int ((nI k) + 1))]) rfl ?_
      rw [nI_1]
      exact ih (k + 1) (by omega)
  show g 0 0 0 [(0, .int b)] [] w0
  refine M.blk (is := [(.iconst 0, 0, 0, 0), (.istore_n 1, 1, 0, 0), (.iconst 0, 0, 0, 0), (.istore_n 2, 2, 0, 0)]) (pc1 := 4) (lo1 := [(2, .int 0), (1, .int 0), (0, .int b)]) (st1 := []) (w1 := w0) (by decide +kernel) rfl ?_
  refine M.lsub [2, 1, 0] (lo1 := [(0, .int b), (1, .int 0), (2, .int 0)]) rfl ?_
  exact lp 25 0 (by omega)
theorem sgnB_wf {x : Int32} (h1 : ¬ x = 122) (h2 : ¬ x = 111) (h3 : ¬ x = 114) : b2i (sgnB x) = withF x 48 52 := by
  rw [sgnB_fig h1 h2 h3]
  unfold figF withF
  by_cases h4 : x < 48
  · rw [if_pos h4, if_pos h4]
  · rw [if_neg h4, if_neg h4]
    by_cases h5 : 53 ≤ x
    · rw [if_pos h5, if_pos (i32_nle (fun e => (i32_52 x).mp e h5))]
    · rw [if_neg h5, if_neg (fun e => i32_nlt e ((i32_52 x).mpr h5))]
theorem wf_1 {x a b : Int32} (h : ¬ withF x a b = 0) : withF x a b = 1 := by
  unfold withF at h ⊢
  split
  · rename_i h1; rw [if_pos h1] at h; exact absurd rfl h
  · rename_i h1
    rw [if_neg h1] at h
    split
    · rename_i h2; rw [if_pos h2] at h; exact absurd rfl h
    · rfl
theorem s_isSignM (w0 : Wd) (x : Int32) : CC 1 mX4_isSign 0 0 [.int x] w0 (Rt (b2i (sgnB x)) w0) := by
  refine CC.of okX4_isSign.1 (Nat.le_of_ble_eq_true rfl) (fun g M => ?_)
  show g 0 0 0 [(0, .int x)] [] w0
  refine M.blk (is := [(.iload_n 0, 0, 0, 0), (.bipush 122, 0, 0, 122)]) (pc1 := 3) (lo1 := [(0, .int x)]) (st1 := [.int 122, .int x]) (w1 := w0) (by decide +kernel) rfl ?_
  refine M.icmp_eq (off := 26) (tgt := 29) (nx := 6) (by decide +kernel) (fun z3 => ?_) (fun z3 => ?_)
  · refine M.blk (is := [(.iconst 1, 0, 0, 1), (.goto 4, 34, 0, 0)]) (pc1 := 34) (lo1 := [(0, .int x)]) (st1 := [.int 1]) (w1 := w0) (by decide +kernel) rfl ?_
    exact M.retz (nx := 35) (by decide +kernel) (by decide) ⟨by simp [sgnB, b2i, *], rfl⟩
  · refine M.blk (is := [(.iload_n 0, 0, 0, 0), (.bipush 111, 0, 0, 111)]) (pc1 := 9) (lo1 := [(0, .int x)]) (st1 := [.int 111, .int x]) (w1 := w0) (by decide +kernel) rfl ?_
    refine M.icmp_eq (off := 20) (tgt := 29) (nx := 12) (by decide +kernel) (fun z9 => ?_) (fun z9 => ?_)
    · refine M.blk (is := [(.iconst 1, 0, 0, 1), (.goto 4, 34, 0, 0)]) (pc1 := 34) (lo1 := [(0, .int x)]) (st1 := [.int 1]) (w1 := w0) (by decide +kernel) rfl ?_
      exact M.retz (nx := 35) (by decide +kernel) (by decide) ⟨by simp [sgnB, b2i, *], rfl⟩
    · refine M.blk (is := [(.iload_n 0, 0, 0, 0), (.bipush 114, 0, 0, 114)]) (pc1 := 15) (lo1 := [(0, .int x)]) (st1 := [.int 114, .int x]) (w1 := w0) (by decide +kernel) rfl ?_
      refine M.icmp_eq (off := 14) (tgt := 29) (nx := 18) (by decide +kernel) (fun z15 => ?_) (fun z15 => ?_)
      · refine M.blk (is := [(.iconst 1, 0, 0, 1), (.goto 4, 34, 0, 0)]) (pc1 := 34) (lo1 := [(0, .int x)]) (st1 := [.int 1]) (w1 := w0) (by decide +kernel) rfl ?_
        exact M.retz (nx := 35) (by decide +kernel) (by decide) ⟨by simp [sgnB, b2i, *], rfl⟩
      · refine M.blk (is := [(.iload_n 0, 0, 0, 0), (.bipush 48, 0, 0, 48), (.bipush 52, 0, 0, 52)]) (pc1 := 23) (lo1 := [(0, .int x)]) (st1 := [.int 52, .int 48, .int x]) (w1 := w0) (by decide +kernel) rfl ?_
        refine M.callSi (as := [.int x, .int 48, .int 52]) (st := []) (nx := 26) okX4_within lkX4_36 (s_within w0 x 48 52) (by decide +kernel) (by decide) rfl (Nat.le_of_ble_eq_true rfl) ?_
        refine M.if_eq (off := 7) (tgt := 33) (nx := 29) (by decide +kernel) (fun z26 => ?_) (fun z26 => ?_)
        · refine M.blk (is := [(.iconst 0, 0, 0, 0)]) (pc1 := 34) (lo1 := [(0, .int x)]) (st1 := [.int 0]) (w1 := w0) (by decide +kernel) rfl ?_
          exact M.retz (nx := 35) (by decide +kernel) (by decide) ⟨by rw [sgnB_wf z3 z9 z15, z26], rfl⟩
        · refine M.blk (is := [(.iconst 1, 0, 0, 1), (.goto 4, 34, 0, 0)]) (pc1 := 34) (lo1 := [(0, .int x)]) (st1 := [.int 1]) (w1 := w0) (by decide +kernel) rfl ?_
          exact M.retz (nx := 35) (by decide +kernel) (by decide) ⟨by rw [sgnB_wf z3 z9 z15, wf_1 z26], rfl⟩
theorem wf_out {x a b : Int32} (h : withF x a b = 0) : x < a ∨ b < x := by
  unfold withF at h
  by_cases h1 : x < a
  · exact Or.inl h1
  · rw [if_neg h1] at h
    by_cases h2 : b < x
    · exact Or.inr h2
    · rw [if_neg h2] at h; exact absurd h (by decide)
theorem wf_in {x a b : Int32} (h : ¬ withF x a b = 0) : ¬ (x < a ∨ b < x) := by
  intro e
  apply h
  unfold withF
  by_cases h1 : x < a
  · rw [if_pos h1]
  · rw [if_neg h1, if_pos (e.resolve_left h1)]
theorem m_letter {pl : Nat} (h0 : MS 0 = nI pl) (hp : pl ≤ 60) (x : Int32) : CC 1 mX4_letter 0 0 [.ref 0, .int x] (WM MA MS Mh v) (fun r w1 => ((x < 32 ∨ 126 < x) ∧ r = some (.int (-1002)) ∧ w1 = (WM MA MS Mh v)) ∨ (¬ (x < 32 ∨ 126 < x) ∧ pl = 60 ∧ r = some (.int (-1004)) ∧ w1 = (WM MA MS Mh v)) ∨ (¬ (x < 32 ∨ 126 < x) ∧ pl < 60 ∧ r = some (.int (nI (pl + 1))) ∧ w1 = (WM (va_up MA 1 (upd (MA 1) pl x)) (upd MS 0 (nI (pl + 1))) Mh v))) := by
  refine CC.of okX4_letter.1 (Nat.le_of_ble_eq_true rfl) (fun g M => ?_)
  show g 0 0 0 [(0, .ref 0), (1, .int x)] [] (WM MA MS Mh v)
  refine M.blk (is := [(.iload_n 1, 1, 0, 0), (.bipush 32, 0, 0, 32), (.bipush 126, 0, 0, 126)]) (pc1 := 5) (lo1 := [(0, .ref 0), (1, .int x)]) (st1 := [.int 126, .int 32, .int x]) (w1 := (WM MA MS Mh v)) (by decide +kernel) rfl ?_
  refine M.callSi (as := [.int x, .int 32, .int 126]) (st := []) (nx := 8) okX4_within lkX4_36 (s_within (WM MA MS Mh v) x 32 126) (by decide +kernel) (by decide) rfl (Nat.le_of_ble_eq_true rfl) ?_
  refine M.if_ne (off := 7) (tgt := 15) (nx := 11) (by decide +kernel) (fun z8 => ?_) (fun z8 => ?_)
  · refine M.blk (is := [(.aload_n 0, 0, 0, 0), (.getfield 40, 4, 0, 0), (.bipush 60, 0, 0, 60)]) (pc1 := 21) (lo1 := [(0, .ref 0), (1, .int x)]) (st1 := [.int 60, .int (MS 0)]) (w1 := (WM MA MS Mh v)) (by decide +kernel) rfl ?_
    refine M.icmp_ne (off := 7) (tgt := 28) (nx := 24) (by decide +kernel) (fun z21 => ?_) (fun z21 => ?_)
    · have hlt : pl < 60 := by
        rcases Nat.lt_or_ge pl 60 with h | h
        · exact h
        · exact absurd (by rw [h0, show pl = 60 by omega]; rfl) z21
      refine M.blk (is := [(.aload_n 0, 0, 0, 0), (.getfield 7, 4, 1, 0), (.aload_n 0, 0, 0, 0), (.getfield 40, 4, 0, 0), (.iload_n 1, 1, 0, 0)]) (pc1 := 37) (lo1 := [(0, .ref 0), (1, .int x)]) (st1 := [.int x, .int (MS 0), .ref 1]) (w1 := (WM MA MS Mh v)) (by decide +kernel) rfl ?_
      refine M.ast (n := 60) (f := MA 1) (j := pl) (nx := 38) (by decide +kernel) rfl h0 hlt (by decide) ?_
      show g 0 0 38 [(0, .ref 0), (1, .int x)] [] (WM (va_up MA 1 (upd (MA 1) pl x)) MS Mh v)
      refine M.blk (is := [(.aload_n 0, 0, 0, 0), (.dup, 0, 0, 0), (.getfield 40, 4, 0, 0), (.iconst 1, 0, 0, 1), (.iadd, 0, 0, 0), (.putfield 40, 4, 0, 0), (.aload_n 0, 0, 0, 0), (.getfield 40, 4, 0, 0)]) (pc1 := 52) (lo1 := [(0, .ref 0), (1, .int x)]) (st1 := [.int ((MS 0) + 1)]) (w1 := (WM (va_up MA 1 (upd (MA 1) pl x)) (upd MS 0 ((MS 0) + 1)) Mh v)) (by decide +kernel) rfl ?_
      exact M.reti (nx := 53) (by decide +kernel) (Or.inr (Or.inr ⟨wf_in z8, hlt, by rw [h0, nI_1], by rw [h0, nI_1]⟩))
    · refine M.blk (is := [(.sipush (-1004), 0, 0, (-1004))]) (pc1 := 27) (lo1 := [(0, .ref 0), (1, .int x)]) (st1 := [.int (-1004)]) (w1 := (WM MA MS Mh v)) (by decide +kernel) rfl ?_
      exact M.reti (nx := 28) (by decide +kernel) (Or.inr (Or.inl ⟨wf_in z8, nI_inj (by omega) (by decide) (h0.symm.trans z21), rfl, rfl⟩))
  · refine M.blk (is := [(.sipush (-1002), 0, 0, (-1002))]) (pc1 := 14) (lo1 := [(0, .ref 0), (1, .int x)]) (st1 := [.int (-1002)]) (w1 := (WM MA MS Mh v)) (by decide +kernel) rfl ?_
    exact M.reti (nx := 15) (by decide +kernel) (Or.inl ⟨wf_out z8, rfl, rfl⟩)
theorem m_blank : CC 0 mX4_blank 0 0 [.ref 0] (WM MA MS Mh v) (Rt (MS 0) (WM MA (upd MS 0 0) Mh v)) := by
  refine CC.of okX4_blank.1 (Nat.le_of_ble_eq_true rfl) (fun g M => ?_)
  show g 0 0 0 [(0, .ref 0)] [] (WM MA MS Mh v)
  refine M.blk (is := [(.aload_n 0, 0, 0, 0), (.getfield 40, 4, 0, 0), (.istore_n 1, 1, 0, 0), (.aload_n 0, 0, 0, 0), (.iconst 0, 0, 0, 0), (.putfield 40, 4, 0, 0), (.iload_n 1, 1, 0, 0)]) (pc1 := 11) (lo1 := [(1, .int (MS 0)), (0, .ref 0)]) (st1 := [.int (MS 0)]) (w1 := (WM MA (upd MS 0 0) Mh v)) (by decide +kernel) rfl ?_
  exact M.reti (nx := 12) (by decide +kernel) ⟨rfl, rfl⟩
theorem m_fault {pl : Nat} (h0 : MS 0 = nI pl) (hp : pl ≤ 60) : CC 2 mX4_fault 0 0 [.ref 0] (WM MA MS Mh v) (Rt (nI (flt (MA 1) pl 0)) (WM MA MS Mh v)) := by
  refine CC.of okX4_fault.1 (Nat.le_of_ble_eq_true rfl) (fun g M => ?_)
  have lp : ∀ m k, k + m = pl → flt (MA 1) pl 0 = flt (MA 1) m k → g 0 0 2 [(0, .ref 0), (1, .int (nI k))] [] (WM MA MS Mh v) := by
    intro m
    induction m with
    | zero =>
      intro k hk he
      have ek : pl = k := by omega
      subst ek
      refine M.blk (is := [(.iload_n 1, 1, 0, 0), (.aload_n 0, 0, 0, 0), (.getfield 40, 4, 0, 0)]) (pc1 := 7) (lo1 := [(0, .ref 0), (1, .int (nI pl))]) (st1 := [.int (MS 0), .int (nI pl)]) (w1 := (WM MA MS Mh v)) (by decide +kernel) rfl ?_
      refine M.icmp_ge (off := 21) (tgt := 28) (nx := 10) (by decide +kernel) (fun z7 => ?_) (fun z7 => by exfalso; exact z7 (by rw [h0]; exact nI_le (Nat.le_refl _) (by omega)))
      refine M.blk (is := [(.iload_n 1, 1, 0, 0)]) (pc1 := 29) (lo1 := [(0, .ref 0), (1, .int (nI pl))]) (st1 := [.int (nI pl)]) (w1 := (WM MA MS Mh v)) (by decide +kernel) rfl ?_
      exact M.reti (nx := 30) (by decide +kernel) ⟨by rw [he]; rfl, rfl⟩
    | succ m ih =>
      intro k hk he
      rw [flt_succ] at he
      refine M.blk (is := [(.iload_n 1, 1, 0, 0), (.aload_n 0, 0, 0, 0), (.getfield 40, 4, 0, 0)]) (pc1 := 7) (lo1 := [(0, .ref 0), (1, .int (nI k))]) (st1 := [.int (MS 0), .int (nI k)]) (w1 := (WM MA MS Mh v)) (by decide +kernel) rfl ?_
      refine M.icmp_ge (off := 21) (tgt := 28) (nx := 10) (by decide +kernel) (fun z7 => by exfalso; rw [h0] at z7; exact nI_ge (show k < pl by omega) (by omega) z7) (fun z7 => ?_)
      refine M.blk (is := [(.aload_n 0, 0, 0, 0), (.getfield 7, 4, 1, 0), (.iload_n 1, 1, 0, 0)]) (pc1 := 15) (lo1 := [(0, .ref 0), (1, .int (nI k))]) (st1 := [.int (nI k), .ref 1]) (w1 := (WM MA MS Mh v)) (by decide +kernel) rfl ?_
      refine M.ald (n := 60) (f := MA 1) (j := k) (nx := 16) (by decide +kernel) rfl rfl (by omega) (by decide) ?_
      refine M.callSi (as := [.int ((MA 1) k)]) (st := []) (nx := 19) okX4_isSign lkX4_43 (s_isSignM (WM MA MS Mh v) ((MA 1) k)) (by decide +kernel) (by decide) rfl (Nat.le_of_ble_eq_true rfl) ?_
      refine M.if_eq (off := 9) (tgt := 28) (nx := 22) (by decide +kernel) (fun z19 => ?_) (fun z19 => ?_)
      · refine M.blk (is := [(.iload_n 1, 1, 0, 0)]) (pc1 := 29) (lo1 := [(0, .ref 0), (1, .int (nI k))]) (st1 := [.int (nI k)]) (w1 := (WM MA MS Mh v)) (by decide +kernel) rfl ?_
        exact M.reti (nx := 30) (by decide +kernel) ⟨by rw [he, if_neg (b2i_f z19)], rfl⟩
      · refine M.blk (is := [(.iinc 1 1, 1, 0, 1), (.goto (-23), 2, 0, 0)]) (pc1 := 2) (lo1 := [(1, .int ((nI k) + 1)), (0, .ref 0)]) (st1 := []) (w1 := (WM MA MS Mh v)) (by decide +kernel) rfl ?_
        refine M.lsub [1, 0] (lo1 := [(0, .ref 0), (1, .int ((nI k) + 1))]) rfl ?_
        rw [nI_1]
        exact ih (k + 1) (by omega) (by rw [he, if_pos (b2i_t z19)])
  show g 0 0 0 [(0, .ref 0)] [] (WM MA MS Mh v)
  refine M.blk (is := [(.iconst 0, 0, 0, 0), (.istore_n 1, 1, 0, 0)]) (pc1 := 2) (lo1 := [(1, .int 0), (0, .ref 0)]) (st1 := []) (w1 := (WM MA MS Mh v)) (by decide +kernel) rfl ?_
  refine M.lsub [1, 0] (lo1 := [(0, .ref 0), (1, .int 0)]) rfl ?_
  exact lp pl 0 (by omega) rfl
theorem wf_sl (x : Int32) {sl : Nat} (hs : sl < 1000) : (withF x 0 (nI sl - 1) = 0 ∧ ∀ k, k < sl → ¬ x = nI k) ∨ (withF x 0 (nI sl - 1) = 1 ∧ ∃ k, k < sl ∧ x = nI k) := by
  rcases Nat.eq_zero_or_pos sl with e | e
  · subst e
    left
    refine ⟨?_, fun k hk => absurd hk (Nat.not_lt_zero _)⟩
    unfold withF
    by_cases h1 : x < 0
    · rw [if_pos h1]
    · rw [if_neg h1, if_pos]
      rw [Int32.lt_iff_toInt_lt] at h1 ⊢
      have e1 : (nI 0 - 1).toInt = -1 := by decide
      have e2 : (0 : Int32).toInt = 0 := by decide
      omega
  · rw [show nI sl - 1 = nI (sl - 1) by rw [show (1 : Int32) = nI 1 from rfl, pk_sub (by omega)]]
    rcases wf_cases x (a := 0) (b := sl - 1) (by omega) (by omega) with ⟨h1, h2⟩ | ⟨h1, k, _, hk, e2⟩
    · exact Or.inl ⟨h1, fun k hk => h2 k (Nat.zero_le _) (by omega)⟩
    · exact Or.inr ⟨h1, k, by omega, e2⟩
theorem m_step {sl : Nat} (h2 : MS 2 = nI sl) (hs : sl ≤ 64) (x : Int32) : CC 1 mX4_step 0 0 [.ref 0, .int x] (WM MA MS Mh v) (fun r w1 => w1 = (WM MA MS Mh v) ∧ ((∃ k, k < sl ∧ x = nI k ∧ r = some (.int (MA 3 k))) ∨ ((∀ k, k < sl → ¬ x = nI k) ∧ r = some (.int (-1001))))) := by
  refine CC.of okX4_step.1 (Nat.le_of_ble_eq_true rfl) (fun g M => ?_)
  have hcs := wf_sl x (sl := sl) (by omega)
  rw [← h2] at hcs
  show g 0 0 0 [(0, .ref 0), (1, .int x)] [] (WM MA MS Mh v)
  refine M.blk (is := [(.iload_n 1, 1, 0, 0), (.iconst 0, 0, 0, 0), (.aload_n 0, 0, 0, 0), (.getfield 51, 4, 2, 0), (.iconst 1, 0, 0, 1), (.isub, 0, 0, 0)]) (pc1 := 8) (lo1 := [(0, .ref 0), (1, .int x)]) (st1 := [.int ((MS 2) - 1), .int 0, .int x]) (w1 := (WM MA MS Mh v)) (by decide +kernel) rfl ?_
  refine M.callSi (as := [.int x, .int 0, .int ((MS 2) - 1)]) (st := []) (nx := 11) okX4_within lkX4_36 (s_within (WM MA MS Mh v) x 0 ((MS 2) - 1)) (by decide +kernel) (by decide) rfl (Nat.le_of_ble_eq_true rfl) ?_
  refine M.if_eq (off := 12) (tgt := 23) (nx := 14) (by decide +kernel) (fun z11 => ?_) (fun z11 => ?_)
  · refine M.blk (is := [(.sipush (-1001), 0, 0, (-1001))]) (pc1 := 26) (lo1 := [(0, .ref 0), (1, .int x)]) (st1 := [.int (-1001)]) (w1 := (WM MA MS Mh v)) (by decide +kernel) rfl ?_
    exact M.reti (nx := 27) (by decide +kernel) ⟨rfl, Or.inr ⟨by rcases hcs with ⟨_, h⟩ | ⟨e, _⟩; exact h; rw [z11] at e; exact absurd e (by decide), rfl⟩⟩
  · obtain ⟨k, hk, rfl⟩ : ∃ k, k < sl ∧ x = nI k := by
      rcases hcs with ⟨e, _⟩ | ⟨_, h⟩
      · exact absurd e z11
      · exact h
    refine M.blk (is := [(.aload_n 0, 0, 0, 0), (.getfield 13, 4, 3, 0), (.iload_n 1, 1, 0, 0)]) (pc1 := 19) (lo1 := [(0, .ref 0), (1, .int (nI k))]) (st1 := [.int (nI k), .ref 2]) (w1 := (WM MA MS Mh v)) (by decide +kernel) rfl ?_
    refine M.ald (n := 64) (f := MA 3) (j := k) (nx := 20) (by decide +kernel) rfl rfl (by omega) (by decide) ?_
    refine M.blk (is := [(.goto 6, 26, 0, 0)]) (pc1 := 26) (lo1 := [(0, .ref 0), (1, .int (nI k))]) (st1 := [.int ((MA 3) k)]) (w1 := (WM MA MS Mh v)) (by decide +kernel) rfl ?_
    exact M.reti (nx := 27) (by decide +kernel) ⟨rfl, Or.inl ⟨k, hk, rfl, rfl⟩⟩
theorem m_altered : CC 0 mX4_altered 0 0 [.ref 0] (WM MA MS Mh v) (fun r w1 => r = none ∧ ∃ MB, w1 = WM MB MS Mh v ∧ (∀ i, i ≠ 24 → MB i = MA i) ∧ (∀ a, a < 75 → MB 24 a = 0)) := by
  refine CC.of okX4_altered.1 (Nat.le_of_ble_eq_true rfl) (fun g M => ?_)
  have lp : ∀ m k MB, k + m = 75 → (∀ i, i ≠ 24 → MB i = MA i) → (∀ a, a < k → MB 24 a = 0) → g 0 0 2 [(0, .ref 0), (1, .int (nI k))] [] (WM MB MS Mh v) := by
    intro m
    induction m with
    | zero =>
      intro k MB hk h1 h2
      have ek : k = 75 := by omega
      subst ek
      refine M.blk (is := [(.iload_n 1, 1, 0, 0), (.bipush 75, 0, 0, 75)]) (pc1 := 5) (lo1 := [(0, .ref 0), (1, .int (nI 75))]) (st1 := [.int 75, .int (nI 75)]) (w1 := (WM MB MS Mh v)) (by decide +kernel) rfl ?_
      refine M.icmp_ge (off := 16) (tgt := 21) (nx := 8) (by decide +kernel) (fun z5 => ?_) (fun z5 => by exfalso; exact z5 (by decide))
      exact M.retv (nx := 22) (by decide +kernel) ⟨rfl, MB, rfl, h1, h2⟩
    | succ m ih =>
      intro k MB hk h1 h2
      refine M.blk (is := [(.iload_n 1, 1, 0, 0), (.bipush 75, 0, 0, 75)]) (pc1 := 5) (lo1 := [(0, .ref 0), (1, .int (nI k))]) (st1 := [.int 75, .int (nI k)]) (w1 := (WM MB MS Mh v)) (by decide +kernel) rfl ?_
      refine M.icmp_ge (off := 16) (tgt := 21) (nx := 8) (by decide +kernel) (fun z5 => by exfalso; exact nI_ge (a := k) (b := 75) (by omega) (by decide) z5) (fun z5 => ?_)
      refine M.blk (is := [(.aload_n 0, 0, 0, 0), (.getfield 29, 4, 24, 0), (.iload_n 1, 1, 0, 0), (.iconst 0, 0, 0, 0)]) (pc1 := 14) (lo1 := [(0, .ref 0), (1, .int (nI k))]) (st1 := [.int 0, .int (nI k), .ref 4]) (w1 := (WM MB MS Mh v)) (by decide +kernel) rfl ?_
      refine M.zst (n := 75) (f := MB 24) (j := k) (nx := 15) (by decide +kernel) rfl rfl (by omega) (by decide) (by decide) ?_
      show g 0 0 15 [(0, .ref 0), (1, .int (nI k))] [] (WM (va_up MB 24 (upd (MB 24) k 0)) MS Mh v)
      refine M.blk (is := [(.iinc 1 1, 1, 0, 1), (.goto (-16), 2, 0, 0)]) (pc1 := 2) (lo1 := [(1, .int ((nI k) + 1)), (0, .ref 0)]) (st1 := []) (w1 := (WM (va_up MB 24 (upd (MB 24) k 0)) MS Mh v)) (by decide +kernel) rfl ?_
      refine M.lsub [1, 0] (lo1 := [(0, .ref 0), (1, .int ((nI k) + 1))]) rfl ?_
      rw [nI_1]
      refine ih (k + 1) _ (by omega) (fun i hi => (va_upN _ _ hi).trans (h1 i hi)) (fun a ha => ?_)
      by_cases e : a = k
      · subst e; rw [va_upS, pk_us]
      · rw [va_upS, pk_un e]; exact h2 a (by omega)
  show g 0 0 0 [(0, .ref 0)] [] (WM MA MS Mh v)
  refine M.blk (is := [(.iconst 0, 0, 0, 0), (.istore_n 1, 1, 0, 0)]) (pc1 := 2) (lo1 := [(1, .int 0), (0, .ref 0)]) (st1 := []) (w1 := (WM MA MS Mh v)) (by decide +kernel) rfl ?_
  refine M.lsub [1, 0] (lo1 := [(0, .ref 0), (1, .int 0)]) rfl ?_
  exact lp 75 0 MA (by omega) (fun _ _ => rfl) (fun a ha => absurd ha (Nat.not_lt_zero _))
theorem m_test {pl : Nat} (h0 : MS 0 = nI pl) (hp : pl ≤ 60) : CC 3 mX4_test 0 0 [.ref 0] (WM MA MS Mh v) (fun r w1 => ((pl = 0 ∨ flt (MA 1) pl 0 < pl) ∧ r = some (.int (-1003)) ∧ w1 = (WM MA MS Mh v)) ∨ (¬ (pl = 0 ∨ flt (MA 1) pl 0 < pl) ∧ r = some (.int (nI pl)) ∧ ∃ MB, w1 = WM MB (upd (upd MS 2 (nI pl)) 0 0) Mh v ∧ (∀ j, j < pl → MB 3 j = MA 1 j) ∧ (∀ i, i ≠ 24 → i ≠ 3 → MB i = MA i) ∧ (∀ a, a < 75 → MB 24 a = 0))) := by
  refine CC.of okX4_test.1 (Nat.le_of_ble_eq_true rfl) (fun g M => ?_)
  have hfl := (flt_ge (MA 1) pl 0).2
  show g 0 0 0 [(0, .ref 0)] [] (WM MA MS Mh v)
  refine M.blk (is := [(.aload_n 0, 0, 0, 0), (.getfield 40, 4, 0, 0)]) (pc1 := 4) (lo1 := [(0, .ref 0)]) (st1 := [.int (MS 0)]) (w1 := (WM MA MS Mh v)) (by decide +kernel) rfl ?_
  refine M.if_eq (off := 14) (tgt := 18) (nx := 7) (by decide +kernel) (fun z4 => ?_) (fun z4 => ?_)
  · refine M.blk (is := [(.sipush (-1003), 0, 0, (-1003))]) (pc1 := 21) (lo1 := [(0, .ref 0)]) (st1 := [.int (-1003)]) (w1 := (WM MA MS Mh v)) (by decide +kernel) rfl ?_
    exact M.reti (nx := 22) (by decide +kernel) (Or.inl ⟨Or.inl (nI_inj (by omega) (by decide) (h0.symm.trans z4)), rfl, rfl⟩)
  · refine M.blk (is := [(.aload_n 0, 0, 0, 0)]) (pc1 := 8) (lo1 := [(0, .ref 0)]) (st1 := [.ref 0]) (w1 := (WM MA MS Mh v)) (by decide +kernel) rfl ?_
    refine M.callVi (as := []) (st := []) (nx := 11) okX4_fault lkX4_47 (m_fault h0 hp) (by decide +kernel) (by decide) rfl (Nat.le_of_ble_eq_true rfl) rfl (by decide) ?_
    refine M.blk (is := [(.aload_n 0, 0, 0, 0), (.getfield 40, 4, 0, 0)]) (pc1 := 15) (lo1 := [(0, .ref 0)]) (st1 := [.int (MS 0), .int (nI (flt (MA 1) pl 0))]) (w1 := (WM MA MS Mh v)) (by decide +kernel) rfl ?_
    refine M.icmp_ge (off := 7) (tgt := 22) (nx := 18) (by decide +kernel) (fun z15 => ?_) (fun z15 => ?_)
    · have hp0 : ¬ pl = 0 := fun e => z4 (by rw [h0, e]; rfl)
      have hge : ¬ flt (MA 1) pl 0 < pl := fun e => by rw [h0] at z15; exact nI_ge e (by omega) z15
      have lp : ∀ m k MD, k + m = pl → (∀ i, i ≠ 3 → MD i = MA i) → (∀ j, j < k → MD 3 j = MA 1 j) → g 0 0 32 [(0, .ref 0), (1, .int (nI k))] [] (WM MD (upd MS 2 (nI pl)) Mh v) := by
        intro m
        induction m with
        | zero =>
          intro k MD hk hi hj
          have ek : pl = k := by omega
          subst ek
          refine M.blk (is := [(.iload_n 1, 1, 0, 0), (.aload_n 0, 0, 0, 0), (.getfield 51, 4, 2, 0)]) (pc1 := 37) (lo1 := [(0, .ref 0), (1, .int (nI pl))]) (st1 := [.int (nI pl), .int (nI pl)]) (w1 := (WM MD (upd MS 2 (nI pl)) Mh v)) (by decide +kernel) rfl ?_
          refine M.icmp_ge (off := 21) (tgt := 58) (nx := 40) (by decide +kernel) (fun z37 => ?_) (fun z37 => by exfalso; exact z37 (nI_le (Nat.le_refl _) (by omega)))
          refine M.blk (is := [(.aload_n 0, 0, 0, 0), (.iconst 0, 0, 0, 0), (.putfield 40, 4, 0, 0), (.aload_n 0, 0, 0, 0)]) (pc1 := 64) (lo1 := [(0, .ref 0), (1, .int (nI pl))]) (st1 := [.ref 0]) (w1 := (WM MD (upd (upd MS 2 (nI pl)) 0 0) Mh v)) (by decide +kernel) rfl ?_
          refine M.callV (as := []) (st := []) (nx := 67) okX4_altered lkX4_54 m_altered (by decide +kernel) (by decide) rfl (Nat.le_of_ble_eq_true rfl) rfl (by decide) ⟨by decide, by decide⟩ ?_
          intro r0 w1 hq
          obtain ⟨rfl, MB, rfl, hal1, hal2⟩ := hq
          show g 0 0 67 [(0, .ref 0), (1, .int (nI pl))] [] (WM MB (upd (upd MS 2 (nI pl)) 0 0) Mh v)
          refine M.blk (is := [(.aload_n 0, 0, 0, 0), (.getfield 51, 4, 2, 0)]) (pc1 := 71) (lo1 := [(0, .ref 0), (1, .int (nI pl))]) (st1 := [.int (nI pl)]) (w1 := (WM MB (upd (upd MS 2 (nI pl)) 0 0) Mh v)) (by decide +kernel) rfl ?_
          exact M.reti (nx := 72) (by decide +kernel) (Or.inr ⟨fun e => e.elim hp0 hge, rfl, MB, rfl, fun j h => by rw [hal1 3 (by decide)]; exact hj j h, fun i h1 h2 => (hal1 i h1).trans (hi i h2), hal2⟩)
        | succ m ih =>
          intro k MD hk hi hj
          refine M.blk (is := [(.iload_n 1, 1, 0, 0), (.aload_n 0, 0, 0, 0), (.getfield 51, 4, 2, 0)]) (pc1 := 37) (lo1 := [(0, .ref 0), (1, .int (nI k))]) (st1 := [.int (nI pl), .int (nI k)]) (w1 := (WM MD (upd MS 2 (nI pl)) Mh v)) (by decide +kernel) rfl ?_
          refine M.icmp_ge (off := 21) (tgt := 58) (nx := 40) (by decide +kernel) (fun z37 => by exfalso; exact nI_ge (show k < pl by omega) (by omega) z37) (fun z37 => ?_)
          refine M.blk (is := [(.aload_n 0, 0, 0, 0), (.getfield 13, 4, 3, 0), (.iload_n 1, 1, 0, 0), (.aload_n 0, 0, 0, 0), (.getfield 7, 4, 1, 0), (.iload_n 1, 1, 0, 0)]) (pc1 := 50) (lo1 := [(0, .ref 0), (1, .int (nI k))]) (st1 := [.int (nI k), .ref 1, .int (nI k), .ref 2]) (w1 := (WM MD (upd MS 2 (nI pl)) Mh v)) (by decide +kernel) rfl ?_
          refine M.ald (n := 60) (f := MD 1) (j := k) (nx := 51) (by decide +kernel) rfl rfl (by omega) (by decide) ?_
          refine M.ast (n := 64) (f := MD 3) (j := k) (nx := 52) (by decide +kernel) rfl rfl (by omega) (by decide) ?_
          show g 0 0 52 [(0, .ref 0), (1, .int (nI k))] [] (WM (va_up MD 3 (upd (MD 3) k ((MD 1) k))) (upd MS 2 (nI pl)) Mh v)
          refine M.blk (is := [(.iinc 1 1, 1, 0, 1), (.goto (-23), 32, 0, 0)]) (pc1 := 32) (lo1 := [(1, .int ((nI k) + 1)), (0, .ref 0)]) (st1 := []) (w1 := (WM (va_up MD 3 (upd (MD 3) k ((MD 1) k))) (upd MS 2 (nI pl)) Mh v)) (by decide +kernel) rfl ?_
          refine M.lsub [1, 0] (lo1 := [(0, .ref 0), (1, .int ((nI k) + 1))]) rfl ?_
          rw [nI_1]
          refine ih (k + 1) _ (by omega) (fun i h => (va_upN _ _ h).trans (hi i h)) (fun j h => ?_)
          by_cases e : j = k
          · subst e; rw [va_upS, pk_us, hi 1 (by decide)]
          · rw [va_upS, pk_un e]; exact hj j (by omega)
      refine M.blk (is := [(.aload_n 0, 0, 0, 0), (.aload_n 0, 0, 0, 0), (.getfield 40, 4, 0, 0), (.putfield 51, 4, 2, 0)]) (pc1 := 30) (lo1 := [(0, .ref 0)]) (st1 := []) (w1 := (WM MA (upd MS 2 (MS 0)) Mh v)) (by decide +kernel) rfl ?_
      rw [h0]
      refine M.blk (is := [(.iconst 0, 0, 0, 0), (.istore_n 1, 1, 0, 0)]) (pc1 := 32) (lo1 := [(1, .int 0), (0, .ref 0)]) (st1 := []) (w1 := (WM MA (upd MS 2 (nI pl)) Mh v)) (by decide +kernel) rfl ?_
      refine M.lsub [1, 0] (lo1 := [(0, .ref 0), (1, .int 0)]) rfl ?_
      exact lp pl 0 MA (by omega) (fun _ _ => rfl) (fun j h => absurd h (Nat.not_lt_zero _))
    · refine M.blk (is := [(.sipush (-1003), 0, 0, (-1003))]) (pc1 := 21) (lo1 := [(0, .ref 0)]) (st1 := [.int (-1003)]) (w1 := (WM MA MS Mh v)) (by decide +kernel) rfl ?_
      exact M.reti (nx := 22) (by decide +kernel) (Or.inl ⟨Or.inr ((nI_ltI (by omega) (by omega)).mp (h0 ▸ i32_nle z15)), rfl, rfl⟩)
theorem gr_t : ∀ (k : Fin 32) (t : Fin 6), 1 ≤ k.val → (((nI k.val >>> ((nI t.val + 1) &&& 31)) <<< ((nI t.val + 1) &&& 31) = nI k.val) ↔ t.val < ntz k.val) ∨ ntz k.val < t.val := by decide +kernel
theorem m_gray : CC 3 mX4_gray 0 0 [.ref 0] (WM MA MS Mh v) (fun r w1 => r = some (.int 64) ∧ ∃ MB, w1 = WM MB (upd MS 2 64) Mh v ∧ (∀ j, j < 64 → MB 3 j = gry j) ∧ (∀ i, i ≠ 24 → i ≠ 3 → MB i = MA i) ∧ (∀ a, a < 75 → MB 24 a = 0)) := by
  refine CC.of okX4_gray.1 (Nat.le_of_ble_eq_true rfl) (fun g M => ?_)
  have lp : ∀ m k MD, k + m = 32 → 1 ≤ k → (∀ i, i ≠ 3 → MD i = MA i) → (∀ j, j < 2 * k → MD 3 j = gry j) → g 0 0 24 [(0, .ref 0), (1, .int (nI k))] [] (WM MD (upd MS 2 64) Mh v) := by
    intro m
    induction m with
    | zero =>
      intro k MD hk h1 hi hj
      have ek : k = 32 := by omega
      subst ek
      refine M.blk (is := [(.iload_n 1, 1, 0, 0), (.bipush 32, 0, 0, 32)]) (pc1 := 27) (lo1 := [(0, .ref 0), (1, .int (nI 32))]) (st1 := [.int 32, .int (nI 32)]) (w1 := (WM MD (upd MS 2 64) Mh v)) (by decide +kernel) rfl ?_
      refine M.icmp_ge (off := 54) (tgt := 81) (nx := 30) (by decide +kernel) (fun z27 => ?_) (fun z27 => by exfalso; exact z27 (by decide))
      refine M.blk (is := [(.aload_n 0, 0, 0, 0)]) (pc1 := 82) (lo1 := [(0, .ref 0), (1, .int (nI 32))]) (st1 := [.ref 0]) (w1 := (WM MD (upd MS 2 64) Mh v)) (by decide +kernel) rfl ?_
      refine M.callV (as := []) (st := []) (nx := 85) okX4_altered lkX4_54 m_altered (by decide +kernel) (by decide) rfl (Nat.le_of_ble_eq_true rfl) rfl (by decide) ⟨by decide, by decide⟩ ?_
      intro r0 w1 hq
      obtain ⟨rfl, MB, rfl, hal1, hal2⟩ := hq
      show g 0 0 85 [(0, .ref 0), (1, .int (nI 32))] [] (WM MB (upd MS 2 64) Mh v)
      refine M.blk (is := [(.aload_n 0, 0, 0, 0), (.getfield 51, 4, 2, 0)]) (pc1 := 89) (lo1 := [(0, .ref 0), (1, .int (nI 32))]) (st1 := [.int 64]) (w1 := (WM MB (upd MS 2 64) Mh v)) (by decide +kernel) rfl ?_
      exact M.reti (nx := 90) (by decide +kernel) ⟨rfl, MB, rfl, fun j h => by rw [hal1 3 (by decide)]; exact hj j h, fun i h1 h2 => (hal1 i h1).trans (hi i h2), hal2⟩
    | succ m ih =>
      intro k MD hk h1 hi hj
      have h4 := ntz_4 k
      have lt : ∀ m2 t, t + m2 = ntz k → g 0 0 32 [(0, .ref 0), (1, .int (nI k)), (2, .int (nI t))] [] (WM MD (upd MS 2 64) Mh v) := by
        intro m2
        induction m2 with
        | zero =>
          intro t ht
          have et : t = ntz k := by omega
          subst et
          have hg := gr_t ⟨k, by omega⟩ ⟨ntz k, by omega⟩ h1
          dsimp only at hg
          refine M.blk (is := [(.iload_n 1, 1, 0, 0), (.iload_n 2, 2, 0, 0), (.iconst 1, 0, 0, 1), (.iadd, 0, 0, 0), (.ishr, 0, 0, 0), (.iload_n 2, 2, 0, 0), (.iconst 1, 0, 0, 1), (.iadd, 0, 0, 0), (.ishl, 0, 0, 0), (.iload_n 1, 1, 0, 0)]) (pc1 := 42) (lo1 := [(0, .ref 0), (1, .int (nI k)), (2, .int (nI (ntz k)))]) (st1 := [.int (nI k), .int (((nI k) >>> (((nI (ntz k)) + 1) &&& 31)) <<< (((nI (ntz k)) + 1) &&& 31))]) (w1 := (WM MD (upd MS 2 64) Mh v)) (by decide +kernel) rfl ?_
          refine M.icmp_ne (off := 9) (tgt := 51) (nx := 45) (by decide +kernel) (fun z42 => ?_) (fun z42 => by exfalso; rcases hg with hg | hg; exact absurd (hg.mp z42) (Nat.lt_irrefl _); omega)
          refine M.blk (is := [(.aload_n 0, 0, 0, 0), (.getfield 13, 4, 3, 0), (.iconst 2, 0, 0, 2), (.iload_n 1, 1, 0, 0), (.imul, 0, 0, 0), (.bipush 48, 0, 0, 48), (.iload_n 2, 2, 0, 0), (.iadd, 0, 0, 0)]) (pc1 := 62) (lo1 := [(0, .ref 0), (1, .int (nI k)), (2, .int (nI (ntz k)))]) (st1 := [.int (48 + (nI (ntz k))), .int (2 * (nI k)), .ref 2]) (w1 := (WM MD (upd MS 2 64) Mh v)) (by decide +kernel) rfl ?_
          refine M.ast (n := 64) (f := MD 3) (j := 2 * k) (nx := 63) (by decide +kernel) rfl (by rw [show (2 : Int32) = nI 2 from rfl, pk_mul]) (by omega) (by decide) ?_
          show g 0 0 63 [(0, .ref 0), (1, .int (nI k)), (2, .int (nI (ntz k)))] [] (WM (va_up MD 3 (upd (MD 3) (2 * k) (48 + (nI (ntz k))))) (upd MS 2 64) Mh v)
          refine M.blk (is := [(.aload_n 0, 0, 0, 0), (.getfield 13, 4, 3, 0), (.iconst 2, 0, 0, 2), (.iload_n 1, 1, 0, 0), (.imul, 0, 0, 0), (.iconst 1, 0, 0, 1), (.iadd, 0, 0, 0), (.bipush 114, 0, 0, 114)]) (pc1 := 74) (lo1 := [(0, .ref 0), (1, .int (nI k)), (2, .int (nI (ntz k)))]) (st1 := [.int 114, .int ((2 * (nI k)) + 1), .ref 2]) (w1 := (WM (va_up MD 3 (upd (MD 3) (2 * k) (48 + (nI (ntz k))))) (upd MS 2 64) Mh v)) (by decide +kernel) rfl ?_
          refine M.ast (n := 64) (f := upd (MD 3) (2 * k) (48 + (nI (ntz k)))) (j := 2 * k + 1) (nx := 75) (by decide +kernel) rfl (by rw [show (2 : Int32) = nI 2 from rfl, pk_mul, nI_1]) (by omega) (by decide) ?_
          show g 0 0 75 [(0, .ref 0), (1, .int (nI k)), (2, .int (nI (ntz k)))] [] (WM (va_up MD 3 (upd (upd (MD 3) (2 * k) (48 + (nI (ntz k)))) (2 * k + 1) 114)) (upd MS 2 64) Mh v)
          refine M.blk (is := [(.iinc 1 1, 1, 0, 1), (.goto (-54), 24, 0, 0)]) (pc1 := 24) (lo1 := [(1, .int ((nI k) + 1)), (0, .ref 0), (2, .int (nI (ntz k)))]) (st1 := []) (w1 := (WM (va_up MD 3 (upd (upd (MD 3) (2 * k) (48 + (nI (ntz k)))) (2 * k + 1) 114)) (upd MS 2 64) Mh v)) (by decide +kernel) rfl ?_
          refine M.lsub [1, 0] (lo1 := [(0, .ref 0), (1, .int ((nI k) + 1))]) rfl ?_
          rw [nI_1]
          refine ih (k + 1) _ (by omega) (by omega) (fun i h => (va_upN _ _ h).trans (hi i h)) (fun j h => ?_)
          rw [va_upS]
          by_cases e1 : j = 2 * k + 1
          · rw [e1, pk_us]; unfold gry; rw [if_neg (by omega), if_pos (by omega)]
          · rw [pk_un e1]
            by_cases e2 : j = 2 * k
            · rw [e2, pk_us]; unfold gry; rw [if_neg (by omega), if_neg (by omega), show 2 * k / 2 = k by omega, ← nI_add]; rfl
            · rw [pk_un e2]; exact hj j (by omega)
        | succ m2 ih2 =>
          intro t ht
          have hg := gr_t ⟨k, by omega⟩ ⟨t, by omega⟩ h1
          dsimp only at hg
          refine M.blk (is := [(.iload_n 1, 1, 0, 0), (.iload_n 2, 2, 0, 0), (.iconst 1, 0, 0, 1), (.iadd, 0, 0, 0), (.ishr, 0, 0, 0), (.iload_n 2, 2, 0, 0), (.iconst 1, 0, 0, 1), (.iadd, 0, 0, 0), (.ishl, 0, 0, 0), (.iload_n 1, 1, 0, 0)]) (pc1 := 42) (lo1 := [(0, .ref 0), (1, .int (nI k)), (2, .int (nI t))]) (st1 := [.int (nI k), .int (((nI k) >>> (((nI t) + 1) &&& 31)) <<< (((nI t) + 1) &&& 31))]) (w1 := (WM MD (upd MS 2 64) Mh v)) (by decide +kernel) rfl ?_
          refine M.icmp_ne (off := 9) (tgt := 51) (nx := 45) (by decide +kernel) (fun z42 => by exfalso; rcases hg with hg | hg; exact z42 (hg.mpr (by omega)); omega) (fun z42 => ?_)
          refine M.blk (is := [(.iinc 2 1, 2, 0, 1), (.goto (-16), 32, 0, 0)]) (pc1 := 32) (lo1 := [(2, .int ((nI t) + 1)), (0, .ref 0), (1, .int (nI k))]) (st1 := []) (w1 := (WM MD (upd MS 2 64) Mh v)) (by decide +kernel) rfl ?_
          refine M.lsub [1, 2, 0] (lo1 := [(0, .ref 0), (1, .int (nI k)), (2, .int ((nI t) + 1))]) rfl ?_
          rw [nI_1]
          exact ih2 (t + 1) (by omega)
      refine M.blk (is := [(.iload_n 1, 1, 0, 0), (.bipush 32, 0, 0, 32)]) (pc1 := 27) (lo1 := [(0, .ref 0), (1, .int (nI k))]) (st1 := [.int 32, .int (nI k)]) (w1 := (WM MD (upd MS 2 64) Mh v)) (by decide +kernel) rfl ?_
      refine M.icmp_ge (off := 54) (tgt := 81) (nx := 30) (by decide +kernel) (fun z27 => by exfalso; exact nI_ge (a := k) (b := 32) (by omega) (by decide) z27) (fun z27 => ?_)
      refine M.blk (is := [(.iconst 0, 0, 0, 0), (.istore_n 2, 2, 0, 0)]) (pc1 := 32) (lo1 := [(2, .int 0), (0, .ref 0), (1, .int (nI k))]) (st1 := []) (w1 := (WM MD (upd MS 2 64) Mh v)) (by decide +kernel) rfl ?_
      refine M.lsub [1, 2, 0] (lo1 := [(0, .ref 0), (1, .int (nI k)), (2, .int 0)]) rfl ?_
      exact lt (ntz k) 0 (by omega)
  show g 0 0 0 [(0, .ref 0)] [] (WM MA MS Mh v)
  refine M.blk (is := [(.aload_n 0, 0, 0, 0), (.bipush 64, 0, 0, 64), (.putfield 51, 4, 2, 0), (.aload_n 0, 0, 0, 0), (.getfield 13, 4, 3, 0), (.iconst 0, 0, 0, 0), (.bipush 122, 0, 0, 122)]) (pc1 := 13) (lo1 := [(0, .ref 0)]) (st1 := [.int 122, .int 0, .ref 2]) (w1 := (WM MA (upd MS 2 64) Mh v)) (by decide +kernel) rfl ?_
  refine M.ast (n := 64) (f := MA 3) (j := 0) (nx := 14) (by decide +kernel) rfl rfl (by decide) (by decide) ?_
  show g 0 0 14 [(0, .ref 0)] [] (WM (va_up MA 3 (upd (MA 3) 0 122)) (upd MS 2 64) Mh v)
  refine M.blk (is := [(.aload_n 0, 0, 0, 0), (.getfield 13, 4, 3, 0), (.iconst 1, 0, 0, 1), (.bipush 114, 0, 0, 114)]) (pc1 := 21) (lo1 := [(0, .ref 0)]) (st1 := [.int 114, .int 1, .ref 2]) (w1 := (WM (va_up MA 3 (upd (MA 3) 0 122)) (upd MS 2 64) Mh v)) (by decide +kernel) rfl ?_
  refine M.ast (n := 64) (f := upd (MA 3) 0 122) (j := 1) (nx := 22) (by decide +kernel) rfl rfl (by decide) (by decide) ?_
  show g 0 0 22 [(0, .ref 0)] [] (WM (va_up MA 3 (upd (upd (MA 3) 0 122) 1 114)) (upd MS 2 64) Mh v)
  refine M.blk (is := [(.iconst 1, 0, 0, 1), (.istore_n 1, 1, 0, 0)]) (pc1 := 24) (lo1 := [(1, .int 1), (0, .ref 0)]) (st1 := []) (w1 := (WM (va_up MA 3 (upd (upd (MA 3) 0 122) 1 114)) (upd MS 2 64) Mh v)) (by decide +kernel) rfl ?_
  refine M.lsub [1, 0] (lo1 := [(0, .ref 0), (1, .int 1)]) rfl ?_
  exact lp 31 1 _ (by omega) (by omega) (fun i h => va_upN _ _ h) (fun j hj => by rcases (show j = 0 ∨ j = 1 by omega) with rfl | rfl <;> rfl)
def MSok (r c f h t : Nat) (MS : Nat → Int32) : Prop := MS 4 = nI r ∧ MS 5 = nI c ∧ MS 6 = nI f ∧ MS 7 = nI h ∧ MS 8 = nI t
theorem m_cells {r c : Nat} (h4 : MS 4 = nI r) (h5 : MS 5 = nI c) : CC 0 mX4_cells 0 0 [.ref 0] (WM MA MS Mh v) (Rt (nI (r * c)) (WM MA MS Mh v)) := by
  refine CC.of okX4_cells.1 (Nat.le_of_ble_eq_true rfl) (fun g M => ?_)
  show g 0 0 0 [(0, .ref 0)] [] (WM MA MS Mh v)
  refine M.blk (is := [(.aload_n 0, 0, 0, 0), (.getfield 16, 4, 4, 0), (.aload_n 0, 0, 0, 0), (.getfield 20, 4, 5, 0), (.imul, 0, 0, 0)]) (pc1 := 9) (lo1 := [(0, .ref 0)]) (st1 := [.int ((MS 4) * (MS 5))]) (w1 := (WM MA MS Mh v)) (by decide +kernel) rfl ?_
  exact M.reti (nx := 10) (by decide +kernel) ⟨by rw [h4, h5, pk_mul], rfl⟩
theorem wf_01 (x a b : Int32) : withF x a b = 0 ∨ withF x a b = 1 := by
  by_cases h : withF x a b = 0
  · exact Or.inl h
  · exact Or.inr (wf_1 h)
theorem m_isCell {r c f h t : Nat} (hgeo : GeoOk r c f h t) (hms : MSok r c f h t MS) (x : Int32) : CC 1 mX4_isCell 0 0 [.ref 0, .int x] (WM MA MS Mh v) (Rt (withF x 0 (nI (r * c) - 1)) (WM MA MS Mh v)) := by
  refine CC.of okX4_isCell.1 (Nat.le_of_ble_eq_true rfl) (fun g M => ?_)
  show g 0 0 0 [(0, .ref 0), (1, .int x)] [] (WM MA MS Mh v)
  refine M.blk (is := [(.iload_n 1, 1, 0, 0), (.iconst 0, 0, 0, 0), (.aload_n 0, 0, 0, 0)]) (pc1 := 3) (lo1 := [(0, .ref 0), (1, .int x)]) (st1 := [.ref 0, .int 0, .int x]) (w1 := (WM MA MS Mh v)) (by decide +kernel) rfl ?_
  refine M.callVi (as := []) (st := [.int 0, .int x]) (nx := 6) okX4_cells lkX4_57 (m_cells hms.1 hms.2.1) (by decide +kernel) (by decide) rfl (Nat.le_of_ble_eq_true rfl) rfl (by decide) ?_
  refine M.blk (is := [(.iconst 1, 0, 0, 1), (.isub, 0, 0, 0)]) (pc1 := 8) (lo1 := [(0, .ref 0), (1, .int x)]) (st1 := [.int ((nI (r * c)) - 1), .int 0, .int x]) (w1 := (WM MA MS Mh v)) (by decide +kernel) rfl ?_
  refine M.callSi (as := [.int x, .int 0, .int ((nI (r * c)) - 1)]) (st := []) (nx := 11) okX4_within lkX4_36 (s_within (WM MA MS Mh v) x 0 ((nI (r * c)) - 1)) (by decide +kernel) (by decide) rfl (Nat.le_of_ble_eq_true rfl) ?_
  exact M.retz (nx := 12) (by decide +kernel) (wf_01 _ _ _) ⟨rfl, rfl⟩
theorem s_common (w0 : Wd) {a b : Nat} (ha : a < 2147483648) (hb : b < 2147483648) : CC 0 mX4_common 0 0 [.int (nI a), .int (nI b)] w0 (Rt (nI (Nat.gcd a b)) w0) := by
  refine CC.of okX4_common.1 (Nat.le_of_ble_eq_true rfl) (fun g M => ?_)
  have lp : ∀ N x y : Nat, y ≤ N → x < 2147483648 → y < 2147483648 → Nat.gcd a b = Nat.gcd x y → g 0 0 4 [(2, .int (nI x)), (3, .int (nI y))] [] w0 := by
    intro N
    induction N with
    | zero =>
      intro x y hy hx _ he
      have ey : y = 0 := by omega
      subst ey
      refine M.blk (is := [(.iload_n 3, 3, 0, 0)]) (pc1 := 5) (lo1 := [(2, .int (nI x)), (3, .int (nI 0))]) (st1 := [.int (nI 0)]) (w1 := w0) (by decide +kernel) rfl ?_
      refine M.if_eq (off := 16) (tgt := 21) (nx := 8) (by decide +kernel) (fun z5 => ?_) (fun z5 => by exfalso; exact z5 rfl)
      refine M.blk (is := [(.iload_n 2, 2, 0, 0)]) (pc1 := 22) (lo1 := [(2, .int (nI x)), (3, .int (nI 0))]) (st1 := [.int (nI x)]) (w1 := w0) (by decide +kernel) rfl ?_
      exact M.reti (nx := 23) (by decide +kernel) ⟨by rw [he, Nat.gcd_zero_right], rfl⟩
    | succ N ih =>
      intro x y hy hx hy2 he
      rcases Nat.eq_zero_or_pos y with e0 | e0
      · subst e0
        refine M.blk (is := [(.iload_n 3, 3, 0, 0)]) (pc1 := 5) (lo1 := [(2, .int (nI x)), (3, .int (nI 0))]) (st1 := [.int (nI 0)]) (w1 := w0) (by decide +kernel) rfl ?_
        refine M.if_eq (off := 16) (tgt := 21) (nx := 8) (by decide +kernel) (fun z5 => ?_) (fun z5 => by exfalso; exact z5 rfl)
        refine M.blk (is := [(.iload_n 2, 2, 0, 0)]) (pc1 := 22) (lo1 := [(2, .int (nI x)), (3, .int (nI 0))]) (st1 := [.int (nI x)]) (w1 := w0) (by decide +kernel) rfl ?_
        exact M.reti (nx := 23) (by decide +kernel) ⟨by rw [he, Nat.gcd_zero_right], rfl⟩
      · have hl := Nat.mod_lt x e0
        refine M.blk (is := [(.iload_n 3, 3, 0, 0)]) (pc1 := 5) (lo1 := [(2, .int (nI x)), (3, .int (nI y))]) (st1 := [.int (nI y)]) (w1 := w0) (by decide +kernel) rfl ?_
        refine M.if_eq (off := 16) (tgt := 21) (nx := 8) (by decide +kernel) (fun z5 => by exfalso; exact nI_ne0 e0 hy2 z5) (fun z5 => ?_)
        refine M.blk (is := [(.iload_n 2, 2, 0, 0), (.iload_n 3, 3, 0, 0)]) (pc1 := 10) (lo1 := [(2, .int (nI x)), (3, .int (nI y))]) (st1 := [.int (nI y), .int (nI x)]) (w1 := w0) (by decide +kernel) rfl ?_
        refine M.irm (nx := 11) (by decide +kernel) (nI_ne0 e0 hy2) ?_
        refine M.blk (is := [(.istore 4, 4, 0, 0), (.iload_n 3, 3, 0, 0), (.istore_n 2, 2, 0, 0), (.iload 4, 4, 0, 0), (.istore_n 3, 3, 0, 0), (.goto (-14), 4, 0, 0)]) (pc1 := 4) (lo1 := [(3, .int (jrem (nI x) (nI y))), (2, .int (nI y)), (4, .int (jrem (nI x) (nI y)))]) (st1 := []) (w1 := w0) (by decide +kernel) rfl ?_
        refine M.lsub [1, 0] (lo1 := [(2, .int (nI y)), (3, .int (jrem (nI x) (nI y)))]) rfl ?_
        rw [hf_rem hx e0 hy2]
        exact ih y (x % y) (by omega) hy2 (by omega) (by rw [he, Nat.gcd_comm, Nat.gcd_rec, Nat.gcd_comm])
  show g 0 0 0 [(0, .int (nI a)), (1, .int (nI b))] [] w0
  refine M.blk (is := [(.iload_n 0, 0, 0, 0), (.istore_n 2, 2, 0, 0), (.iload_n 1, 1, 0, 0), (.istore_n 3, 3, 0, 0)]) (pc1 := 4) (lo1 := [(3, .int (nI b)), (2, .int (nI a)), (0, .int (nI a)), (1, .int (nI b))]) (st1 := []) (w1 := w0) (by decide +kernel) rfl ?_
  refine M.lsub [1, 0] (lo1 := [(2, .int (nI a)), (3, .int (nI b))]) rfl ?_
  exact lp b a b (Nat.le_refl _) ha hb rfl
end MONE
end
section
def bt (x : Int32) (i : Nat) : Bool := x.toBitVec.getLsbD i
theorem b_ext {x y : Int32} (h : ∀ i, i < 32 → bt x i = bt y i) : x = y := Int32.toBitVec_inj.mp (BitVec.eq_of_getLsbD_eq (fun i hi => h i hi))
theorem b_or (x y : Int32) (i : Nat) : bt (x ||| y) i = (bt x i || bt y i) := by unfold bt; rw [Int32.toBitVec_or, BitVec.getLsbD_or]
theorem b_and (x y : Int32) (i : Nat) : bt (x &&& y) i = (bt x i && bt y i) := by unfold bt; rw [Int32.toBitVec_and, BitVec.getLsbD_and]
theorem b_xor (x y : Int32) (i : Nat) : bt (x ^^^ y) i = (bt x i ^^ bt y i) := by unfold bt; rw [Int32.toBitVec_xor, BitVec.getLsbD_xor]
theorem b_big {x : Int32} {i : Nat} (h : 32 ≤ i) : bt x i = false := BitVec.getLsbD_of_ge _ _ h
theorem b_m1 : ∀ i, i < 32 → bt (-1) i = true := by decide +kernel
theorem b_0 (i : Nat) : bt 0 i = false := BitVec.getLsbD_zero
theorem s_l : ∀ n, n < 32 → ((nI n &&& 31).toBitVec.smod 32).toNat = n := by decide +kernel
theorem b_shl (n : Nat) (hn : n < 32) (x : Int32) {i : Nat} (hi : i < 32) : bt (x <<< (nI n &&& 31)) i = (decide (n ≤ i) && bt x (i - n)) := by
  unfold bt
  rw [Int32.toBitVec_shiftLeft]
  show (x.toBitVec <<< ((nI n &&& 31).toBitVec.smod 32).toNat).getLsbD i = _
  rw [s_l n hn, BitVec.getLsbD_shiftLeft]
  rcases Nat.lt_or_ge i n with h | h
  · simp [h, Nat.not_le.mpr h]
  · simp [hi, h, Nat.not_lt.mpr h]
theorem b_sshr (n : Nat) (hn : n < 32) (x : Int32) {i : Nat} (hi : i < 32) : bt (x >>> (nI n &&& 31)) i = if n + i < 32 then bt x (n + i) else bt x 31 := by
  unfold bt
  rw [Int32.toBitVec_shiftRight]
  show (x.toBitVec.sshiftRight ((nI n &&& 31).toBitVec.smod 32).toNat).getLsbD i = _
  rw [s_l n hn, BitVec.getLsbD_sshiftRight, BitVec.msb_eq_getLsbD_last]
  simp [hi]
def bN (B : Int32) (m : Nat) : Nat := if bt B m = true then 1 else 0
theorem bN_2 (B : Int32) (m : Nat) : bN B m < 2 := by unfold bN; split <;> omega
theorem b_one : ∀ i, i < 32 → bt 1 i = decide (i = 0) := by decide +kernel
theorem b_nI01 {v : Nat} (hv : v < 2) : ∀ i, i < 32 → bt (nI v) i = (decide (i = 0) && decide (v = 1)) := by
  rcases (show v = 0 ∨ v = 1 by omega) with rfl | rfl
  · decide +kernel
  · decide +kernel
theorem bit_nI (B : Int32) {m : Nat} (hm : m < 32) : (B >>> (nI m &&& 31)) &&& 1 = nI (bN B m) := by
  apply b_ext
  intro i hi
  rw [b_and, b_one i hi, b_nI01 (bN_2 B m) i hi]
  by_cases e : i = 0
  · subst e
    rw [b_sshr m hm B hi, if_pos (by omega)]
    unfold bN
    cases h : bt B m <;> simp [h]
  · simp [e]
theorem b_1shl {m : Nat} (hm : m < 32) {i : Nat} (hi : i < 32) : bt ((1 : Int32) <<< (nI m &&& 31)) i = decide (i = m) := by
  rw [b_shl m hm 1 hi]
  by_cases h : m ≤ i
  · rw [b_one (i - m) (by omega)]
    by_cases e : i = m
    · subst e; simp
    · simp [h, e, show ¬ i - m = 0 by omega]
  · simp [h, show ¬ i = m by omega]
def putI (B : Int32) (k : Nat) (v : Int32) : Int32 := if ¬ v = 1 then B &&& ((1 <<< (nI k &&& 31)) ^^^ (-1)) else B ||| (1 <<< (nI k &&& 31))
theorem bt_put (B : Int32) {k : Nat} (hk : k < 32) (v : Int32) {i : Nat} (hi : i < 32) : bt (putI B k v) i = if i = k then decide (v = 1) else bt B i := by
  unfold putI
  by_cases hv : v = 1
  · rw [if_neg (fun h => h hv), b_or, b_1shl hk hi]
    by_cases e : i = k
    · simp [e, hv]
    · simp [e]
  · rw [if_pos hv, b_and, b_xor, b_1shl hk hi, b_m1 i hi]
    by_cases e : i = k
    · simp [e, hv]
    · simp [e]
theorem hb_iff (B : Int32) {m : Nat} (hm : m < 32) : hbF B (nI m) = b2i (bt B m) := by
  unfold hbF
  rw [bit_nI B hm]
  unfold bN b2i
  cases h : bt B m
  · rw [if_neg (by decide), if_neg (by decide)]
  · rw [if_pos rfl, if_pos rfl]; rfl
theorem pigeon : ∀ (n : Nat) (g : Nat → Nat), (∀ a, a < n → g a < n) → (∀ a b, a < n → b < n → g a = g b → a = b) → ∀ k, k < n → ∃ a, a < n ∧ g a = k
  | 0, _, _, _, k, hk => absurd hk (Nat.not_lt_zero _)
  | n + 1, g, hg, hi, k, hk => by
    by_cases hl : g n = k
    · exact ⟨n, by omega, hl⟩
    · -- the others, with the last one's value taken by n
      have hgn := hg n (by omega)
      have key := pigeon n (fun a => if g a = n then g n else g a) (fun a ha => by
        have h1 := hg a (by omega)
        by_cases e : g a = n
        · rw [if_pos e]
          have : g n ≠ n := fun e2 => by have := hi a n (by omega) (by omega) (e.trans e2.symm); omega
          omega
        · rw [if_neg e]; omega) (fun a b ha hb e => by
        by_cases e1 : g a = n
        · rw [if_pos e1] at e
          by_cases e2 : g b = n
          · exact hi a b (by omega) (by omega) (e1.trans e2.symm)
          · rw [if_neg e2] at e
            have := hi n b (by omega) (by omega) e
            omega
        · rw [if_neg e1] at e
          by_cases e2 : g b = n
          · rw [if_pos e2] at e
            have := hi a n (by omega) (by omega) e
            omega
          · rw [if_neg e2] at e
            exact hi a b (by omega) (by omega) e)
      by_cases hkn : k = n
      · -- n itself: hit by the last, or by the one whose value was changed
        subst hkn
        by_cases h2 : ∃ a, a < k ∧ g a = k
        · obtain ⟨a, ha, e⟩ := h2
          exact ⟨a, by omega, e⟩
        · exfalso
          have hlt : g k < k := by omega
          obtain ⟨a, ha, e⟩ := key (g k) hlt
          rw [if_neg (fun z => h2 ⟨a, ha, z⟩)] at e
          have := hi a k (by omega) (by omega) e
          omega
      · obtain ⟨a, ha, e⟩ := key k (by omega)
        by_cases e1 : g a = n
        · rw [if_pos e1] at e
          exact absurd e hl
        · rw [if_neg e1] at e
          exact ⟨a, by omega, e⟩
theorem mod_sur {n f h k : Nat} (hg : Nat.gcd n f = 1) (hk : k < n) : ∃ a, a < n ∧ (f * a + h) % n = k := pigeon n (fun a => (f * a + h) % n) (fun a ha => Nat.mod_lt _ (by omega)) (fun a b ha hb e => mod_inj hg ha hb e) k hk
end
section
section MTWO
variable {MA : Nat → Nat → Int32} {MS : Nat → Int32} {Mh : Int64} {v : List Cl}
theorem wf_side {x : Int32} : (withF x 3 5 = 0 → ∀ r : Nat, x = nI r → ¬ (3 ≤ r ∧ r ≤ 5)) ∧ (¬ withF x 3 5 = 0 → ∃ r : Nat, (3 ≤ r ∧ r ≤ 5) ∧ x = nI r) := by
  rcases wf_cases x (a := 3) (b := 5) (by decide) (by decide) with ⟨h1, h2⟩ | ⟨h1, k, hk1, hk2, e⟩
  · exact ⟨fun _ r e hr => h2 r hr.1 hr.2 e, fun h => absurd h1 h⟩
  · exact ⟨fun h => absurd (h.symm.trans h1) (by decide), fun _ => ⟨k, ⟨hk1, hk2⟩, e⟩⟩
theorem m_sheet (x y : Int32) : CC 1 mX4_sheet 0 0 [.ref 0, .int x, .int y] (WM MA MS Mh v) (fun r0 w1 => (¬ layP x y ∧ r0 = some (.int (-1002)) ∧ w1 = (WM MA MS Mh v)) ∨ (∃ r c : Nat, x = nI r ∧ y = nI c ∧ (3 ≤ r ∧ r ≤ 5) ∧ (3 ≤ c ∧ c ≤ 5) ∧ r0 = some (.int (nI (r * c))) ∧ ∃ MB MT, w1 = WM MB MT Mh v ∧ MSok r c 1 0 0 MT ∧ (∀ i, ¬ (4 ≤ i ∧ i ≤ 8) → MT i = MS i) ∧ (∀ i, i ≠ 24 → MB i = MA i) ∧ (∀ a, a < 75 → MB 24 a = 0))) := by
  refine CC.of okX4_sheet.1 (Nat.le_of_ble_eq_true rfl) (fun g M => ?_)
  show g 0 0 0 [(0, .ref 0), (1, .int x), (2, .int y)] [] (WM MA MS Mh v)
  refine M.blk (is := [(.iload_n 1, 1, 0, 0), (.iconst 3, 0, 0, 3), (.iconst 5, 0, 0, 5)]) (pc1 := 3) (lo1 := [(0, .ref 0), (1, .int x), (2, .int y)]) (st1 := [.int 5, .int 3, .int x]) (w1 := (WM MA MS Mh v)) (by decide +kernel) rfl ?_
  refine M.callSi (as := [.int x, .int 3, .int 5]) (st := []) (nx := 6) okX4_within lkX4_36 (s_within (WM MA MS Mh v) x 3 5) (by decide +kernel) (by decide) rfl (Nat.le_of_ble_eq_true rfl) ?_
  refine M.if_eq (off := 12) (tgt := 18) (nx := 9) (by decide +kernel) (fun z6 => ?_) (fun z6 => ?_)
  · refine M.blk (is := [(.sipush (-1002), 0, 0, (-1002))]) (pc1 := 21) (lo1 := [(0, .ref 0), (1, .int x), (2, .int y)]) (st1 := [.int (-1002)]) (w1 := (WM MA MS Mh v)) (by decide +kernel) rfl ?_
    exact M.reti (nx := 22) (by decide +kernel) (Or.inl ⟨fun ⟨r, c, e1, e2, a1, a2⟩ => wf_side.1 z6 r e1 a1, rfl, rfl⟩)
  · refine M.blk (is := [(.iload_n 2, 2, 0, 0), (.iconst 3, 0, 0, 3), (.iconst 5, 0, 0, 5)]) (pc1 := 12) (lo1 := [(0, .ref 0), (1, .int x), (2, .int y)]) (st1 := [.int 5, .int 3, .int y]) (w1 := (WM MA MS Mh v)) (by decide +kernel) rfl ?_
    refine M.callSi (as := [.int y, .int 3, .int 5]) (st := []) (nx := 15) okX4_within lkX4_36 (s_within (WM MA MS Mh v) y 3 5) (by decide +kernel) (by decide) rfl (Nat.le_of_ble_eq_true rfl) ?_
    refine M.if_ne (off := 7) (tgt := 22) (nx := 18) (by decide +kernel) (fun z15 => ?_) (fun z15 => ?_)
    · obtain ⟨r, hr, rfl⟩ := wf_side.2 z6
      obtain ⟨c, hc, rfl⟩ := wf_side.2 z15
      refine M.blk (is := [(.aload_n 0, 0, 0, 0), (.iload_n 1, 1, 0, 0), (.putfield 16, 4, 4, 0), (.aload_n 0, 0, 0, 0), (.iload_n 2, 2, 0, 0), (.putfield 20, 4, 5, 0), (.aload_n 0, 0, 0, 0), (.iconst 1, 0, 0, 1), (.putfield 23, 4, 6, 0), (.aload_n 0, 0, 0, 0), (.iconst 0, 0, 0, 0), (.putfield 60, 4, 7, 0), (.aload_n 0, 0, 0, 0), (.iconst 0, 0, 0, 0), (.putfield 63, 4, 8, 0), (.aload_n 0, 0, 0, 0)]) (pc1 := 48) (lo1 := [(0, .ref 0), (1, .int (nI r)), (2, .int (nI c))]) (st1 := [.ref 0]) (w1 := (WM MA (upd (upd (upd (upd (upd MS 4 (nI r)) 5 (nI c)) 6 1) 7 0) 8 0) Mh v)) (by decide +kernel) rfl ?_
      refine M.callV (as := []) (st := []) (nx := 51) okX4_altered lkX4_54 m_altered (by decide +kernel) (by decide) rfl (Nat.le_of_ble_eq_true rfl) rfl (by decide) ⟨by decide, by decide⟩ ?_
      intro r0 w1 hq
      obtain ⟨rfl, MB, rfl, hal1, hal2⟩ := hq
      show g 0 0 51 [(0, .ref 0), (1, .int (nI r)), (2, .int (nI c))] [] (WM MB (upd (upd (upd (upd (upd MS 4 (nI r)) 5 (nI c)) 6 1) 7 0) 8 0) Mh v)
      refine M.blk (is := [(.aload_n 0, 0, 0, 0)]) (pc1 := 52) (lo1 := [(0, .ref 0), (1, .int (nI r)), (2, .int (nI c))]) (st1 := [.ref 0]) (w1 := (WM MB (upd (upd (upd (upd (upd MS 4 (nI r)) 5 (nI c)) 6 1) 7 0) 8 0) Mh v)) (by decide +kernel) rfl ?_
      refine M.callVi (as := []) (st := []) (nx := 55) okX4_cells lkX4_57 (m_cells (r := r) (c := c) rfl rfl) (by decide +kernel) (by decide) rfl (Nat.le_of_ble_eq_true rfl) rfl (by decide) ?_
      exact M.reti (nx := 56) (by decide +kernel) (Or.inr ⟨r, c, rfl, rfl, hr, hc, rfl, MB, _, rfl, ⟨rfl, rfl, rfl, rfl, rfl⟩, fun i hi => by rw [pk_un (by omega), pk_un (by omega), pk_un (by omega), pk_un (by omega), pk_un (by omega)], hal1, hal2⟩)
    · refine M.blk (is := [(.sipush (-1002), 0, 0, (-1002))]) (pc1 := 21) (lo1 := [(0, .ref 0), (1, .int x), (2, .int y)]) (st1 := [.int (-1002)]) (w1 := (WM MA MS Mh v)) (by decide +kernel) rfl ?_
      exact M.reti (nx := 22) (by decide +kernel) (Or.inl ⟨fun ⟨r, c, e1, e2, a1, a2⟩ => wf_side.1 z15 c e2 a2, rfl, rfl⟩)
theorem m_cellAt {r c f h t : Nat} (hgeo : GeoOk r c f h t) (hms : MSok r c f h t MS) {a : Nat} (ha : a < 1000) : CC 1 mX4_cellAt 0 0 [.ref 0, .int (nI a)] (WM MA MS Mh v) (Rt (nI ((f * a + h) % (r * c))) (WM MA MS Mh v)) := by
  have h25 : r * c ≤ 25 := Nat.mul_le_mul hgeo.1.2 hgeo.2.1.2
  have h9a : 9 ≤ r * c := Nat.mul_le_mul hgeo.1.1 hgeo.2.1.1
  have hfa : f * a ≤ 25 * 1000 := Nat.mul_le_mul (by have := hgeo.2.2.1.2; omega) (by omega)
  have hh := hgeo.2.2.2.2.1
  refine CC.of okX4_cellAt.1 (Nat.le_of_ble_eq_true rfl) (fun g M => ?_)
  show g 0 0 0 [(0, .ref 0), (1, .int (nI a))] [] (WM MA MS Mh v)
  refine M.blk (is := [(.aload_n 0, 0, 0, 0), (.getfield 23, 4, 6, 0), (.iload_n 1, 1, 0, 0), (.imul, 0, 0, 0), (.aload_n 0, 0, 0, 0), (.getfield 60, 4, 7, 0), (.iadd, 0, 0, 0), (.aload_n 0, 0, 0, 0)]) (pc1 := 12) (lo1 := [(0, .ref 0), (1, .int (nI a))]) (st1 := [.ref 0, .int (((MS 6) * (nI a)) + (MS 7))]) (w1 := (WM MA MS Mh v)) (by decide +kernel) rfl ?_
  refine M.callVi (as := []) (st := [.int (((MS 6) * (nI a)) + (MS 7))]) (nx := 15) okX4_cells lkX4_57 (m_cells hms.1 hms.2.1) (by decide +kernel) (by decide) rfl (Nat.le_of_ble_eq_true rfl) rfl (by decide) ?_
  refine M.irm (nx := 16) (by decide +kernel) (nI_ne0 (by omega) (by omega)) ?_
  exact M.reti (nx := 17) (by decide +kernel) ⟨by rw [hms.2.2.1, hms.2.2.2.1, pk_mul, nI_add, hf_rem (by omega) (by omega) (by omega)], rfl⟩
theorem m_scramble {r c f0 h0 t0 : Nat} (hgeo : GeoOk r c f0 h0 t0) (hms : MSok r c f0 h0 t0 MS) (x y z : Int32) : CC 2 mX4_scramble 0 0 [.ref 0, .int x, .int y, .int z] (WM MA MS Mh v) (fun r0 w1 => (¬ mixP r (r * c) x y z ∧ r0 = some (.int (-1002)) ∧ w1 = (WM MA MS Mh v)) ∨ (∃ f h t : Nat, (x = nI f ∧ y = nI h ∧ z = nI t) ∧ GeoOk r c f h t ∧ r0 = some (.int (nI (fixC (r * c) f h (r * c)))) ∧ ∃ MT, w1 = WM MA MT Mh v ∧ MSok r c f h t MT ∧ (∀ i, ¬ (6 ≤ i ∧ i ≤ 8) → MT i = MS i))) := by
  have h25 : r * c ≤ 25 := Nat.mul_le_mul hgeo.1.2 hgeo.2.1.2
  have h9a : 9 ≤ r * c := Nat.mul_le_mul hgeo.1.1 hgeo.2.1.1
  have h2r : 2 ^ r ≤ 32 := Nat.pow_le_pow_right (n := 2) (by decide) hgeo.1.2
  have h2p : 0 < 2 ^ r := Nat.pow_pos (by decide)
  refine CC.of okX4_scramble.1 (Nat.le_of_ble_eq_true rfl) (fun g M => ?_)
  have en1 : nI (r * c) - 1 = nI (r * c - 1) := by rw [show (1 : Int32) = nI 1 from rfl, pk_sub (by omega)]
  have er1 : ((1 : Int32) <<< (MS 4 &&& 31)) - 1 = nI (2 ^ r - 1) := by rw [hms.1, shl1 (by have := hgeo.1.2; omega), show (1 : Int32) = nI 1 from rfl, pk_sub (by omega)]
  have cx := wf_cases x (a := 1) (b := r * c - 1) (by omega) (by omega)
  have cy := wf_cases y (a := 0) (b := r * c - 1) (by omega) (by omega)
  have cz := wf_cases z (a := 0) (b := 2 ^ r - 1) (by omega) (by omega)
  show g 0 0 0 [(0, .ref 0), (1, .int x), (2, .int y), (3, .int z)] [] (WM MA MS Mh v)
  refine M.blk (is := [(.iload_n 1, 1, 0, 0), (.iconst 1, 0, 0, 1), (.aload_n 0, 0, 0, 0)]) (pc1 := 3) (lo1 := [(0, .ref 0), (1, .int x), (2, .int y), (3, .int z)]) (st1 := [.ref 0, .int 1, .int x]) (w1 := (WM MA MS Mh v)) (by decide +kernel) rfl ?_
  refine M.callVi (as := []) (st := [.int 1, .int x]) (nx := 6) okX4_cells lkX4_57 (m_cells hms.1 hms.2.1) (by decide +kernel) (by decide) rfl (Nat.le_of_ble_eq_true rfl) rfl (by decide) ?_
  refine M.blk (is := [(.iconst 1, 0, 0, 1), (.isub, 0, 0, 0)]) (pc1 := 8) (lo1 := [(0, .ref 0), (1, .int x), (2, .int y), (3, .int z)]) (st1 := [.int ((nI (r * c)) - 1), .int 1, .int x]) (w1 := (WM MA MS Mh v)) (by decide +kernel) rfl ?_
  rw [en1]
  refine M.callSi (as := [.int x, .int 1, .int (nI (r * c - 1))]) (st := []) (nx := 11) okX4_within lkX4_36 (s_within (WM MA MS Mh v) x 1 (nI (r * c - 1))) (by decide +kernel) (by decide) rfl (Nat.le_of_ble_eq_true rfl) ?_
  refine M.if_eq (off := 49) (tgt := 60) (nx := 14) (by decide +kernel) (fun z11 => ?_) (fun z11 => ?_)
  · refine M.blk (is := [(.iconst 0, 0, 0, 0), (.istore 4, 4, 0, 0), (.iload 4, 4, 0, 0)]) (pc1 := 65) (lo1 := [(4, .int 0), (0, .ref 0), (1, .int x), (2, .int y), (3, .int z)]) (st1 := [.int 0]) (w1 := (WM MA MS Mh v)) (by decide +kernel) rfl ?_
    refine M.if_ne (off := 7) (tgt := 72) (nx := 68) (by decide +kernel) (fun h => absurd h (by decide)) (fun _ => ?_)
    refine M.blk (is := [(.sipush (-1002), 0, 0, (-1002))]) (pc1 := 71) (lo1 := [(4, .int 0), (0, .ref 0), (1, .int x), (2, .int y), (3, .int z)]) (st1 := [.int (-1002)]) (w1 := (WM MA MS Mh v)) (by decide +kernel) rfl ?_
    exact M.reti (nx := 72) (by decide +kernel) (Or.inl ⟨(fun ⟨f, h, t, e1, e2, e3, a1, a2, a3, a4, a5⟩ => by rcases cx with ⟨_, e⟩ | ⟨e, _⟩; exact e f a1 (by omega) e1; exact absurd (z11.symm.trans e) (by decide)), rfl, rfl⟩)
  · obtain ⟨f, hf1, hf2, rfl⟩ : ∃ f : Nat, 1 ≤ f ∧ f ≤ r * c - 1 ∧ x = nI f := by
      rcases cx with ⟨e, _⟩ | ⟨_, h⟩
      · exact absurd e z11
      · exact h
    refine M.blk (is := [(.iload_n 1, 1, 0, 0), (.aload_n 0, 0, 0, 0)]) (pc1 := 16) (lo1 := [(0, .ref 0), (1, .int (nI f)), (2, .int y), (3, .int z)]) (st1 := [.ref 0, .int (nI f)]) (w1 := (WM MA MS Mh v)) (by decide +kernel) rfl ?_
    refine M.callVi (as := []) (st := [.int (nI f)]) (nx := 19) okX4_cells lkX4_57 (m_cells hms.1 hms.2.1) (by decide +kernel) (by decide) rfl (Nat.le_of_ble_eq_true rfl) rfl (by decide) ?_
    refine M.callSi (as := [.int (nI f), .int (nI (r * c))]) (st := []) (nx := 22) okX4_common lkX4_66 (s_common (WM MA MS Mh v) (a := f) (b := r * c) (by omega) (by omega)) (by decide +kernel) (by decide) rfl (Nat.le_of_ble_eq_true rfl) ?_
    refine M.blk (is := [(.iconst 1, 0, 0, 1)]) (pc1 := 23) (lo1 := [(0, .ref 0), (1, .int (nI f)), (2, .int y), (3, .int z)]) (st1 := [.int 1, .int (nI (Nat.gcd f (r * c)))]) (w1 := (WM MA MS Mh v)) (by decide +kernel) rfl ?_
    refine M.icmp_ne (off := 37) (tgt := 60) (nx := 26) (by decide +kernel) (fun z23 => ?_) (fun z23 => ?_)
    · refine M.blk (is := [(.iconst 0, 0, 0, 0), (.istore 4, 4, 0, 0), (.iload 4, 4, 0, 0)]) (pc1 := 65) (lo1 := [(4, .int 0), (0, .ref 0), (1, .int (nI f)), (2, .int y), (3, .int z)]) (st1 := [.int 0]) (w1 := (WM MA MS Mh v)) (by decide +kernel) rfl ?_
      refine M.if_ne (off := 7) (tgt := 72) (nx := 68) (by decide +kernel) (fun h => absurd h (by decide)) (fun _ => ?_)
      refine M.blk (is := [(.sipush (-1002), 0, 0, (-1002))]) (pc1 := 71) (lo1 := [(4, .int 0), (0, .ref 0), (1, .int (nI f)), (2, .int y), (3, .int z)]) (st1 := [.int (-1002)]) (w1 := (WM MA MS Mh v)) (by decide +kernel) rfl ?_
      exact M.reti (nx := 72) (by decide +kernel) (Or.inl ⟨(fun ⟨f1, h, t, e1, e2, e3, a1, a2, a3, a4, a5⟩ => z23 (by rw [nI_inj (by omega) (by omega) e1, Nat.gcd_comm, a3]; rfl)), rfl, rfl⟩)
    · refine M.blk (is := [(.iload_n 2, 2, 0, 0), (.iconst 0, 0, 0, 0), (.aload_n 0, 0, 0, 0)]) (pc1 := 29) (lo1 := [(0, .ref 0), (1, .int (nI f)), (2, .int y), (3, .int z)]) (st1 := [.ref 0, .int 0, .int y]) (w1 := (WM MA MS Mh v)) (by decide +kernel) rfl ?_
      refine M.callVi (as := []) (st := [.int 0, .int y]) (nx := 32) okX4_cells lkX4_57 (m_cells hms.1 hms.2.1) (by decide +kernel) (by decide) rfl (Nat.le_of_ble_eq_true rfl) rfl (by decide) ?_
      refine M.blk (is := [(.iconst 1, 0, 0, 1), (.isub, 0, 0, 0)]) (pc1 := 34) (lo1 := [(0, .ref 0), (1, .int (nI f)), (2, .int y), (3, .int z)]) (st1 := [.int ((nI (r * c)) - 1), .int 0, .int y]) (w1 := (WM MA MS Mh v)) (by decide +kernel) rfl ?_
      rw [en1]
      refine M.callSi (as := [.int y, .int 0, .int (nI (r * c - 1))]) (st := []) (nx := 37) okX4_within lkX4_36 (s_within (WM MA MS Mh v) y 0 (nI (r * c - 1))) (by decide +kernel) (by decide) rfl (Nat.le_of_ble_eq_true rfl) ?_
      refine M.if_eq (off := 23) (tgt := 60) (nx := 40) (by decide +kernel) (fun z37 => ?_) (fun z37 => ?_)
      · refine M.blk (is := [(.iconst 0, 0, 0, 0), (.istore 4, 4, 0, 0), (.iload 4, 4, 0, 0)]) (pc1 := 65) (lo1 := [(4, .int 0), (0, .ref 0), (1, .int (nI f)), (2, .int y), (3, .int z)]) (st1 := [.int 0]) (w1 := (WM MA MS Mh v)) (by decide +kernel) rfl ?_
        refine M.if_ne (off := 7) (tgt := 72) (nx := 68) (by decide +kernel) (fun h => absurd h (by decide)) (fun _ => ?_)
        refine M.blk (is := [(.sipush (-1002), 0, 0, (-1002))]) (pc1 := 71) (lo1 := [(4, .int 0), (0, .ref 0), (1, .int (nI f)), (2, .int y), (3, .int z)]) (st1 := [.int (-1002)]) (w1 := (WM MA MS Mh v)) (by decide +kernel) rfl ?_
        exact M.reti (nx := 72) (by decide +kernel) (Or.inl ⟨(fun ⟨f1, h, t, e1, e2, e3, a1, a2, a3, a4, a5⟩ => by rcases cy with ⟨_, e⟩ | ⟨e, _⟩; exact e h (Nat.zero_le _) (by omega) e2; exact absurd (z37.symm.trans e) (by decide)), rfl, rfl⟩)
      · refine M.blk (is := [(.iload_n 3, 3, 0, 0), (.iconst 0, 0, 0, 0), (.iconst 1, 0, 0, 1), (.aload_n 0, 0, 0, 0), (.getfield 16, 4, 4, 0), (.ishl, 0, 0, 0), (.iconst 1, 0, 0, 1), (.isub, 0, 0, 0)]) (pc1 := 50) (lo1 := [(0, .ref 0), (1, .int (nI f)), (2, .int y), (3, .int z)]) (st1 := [.int (((1 : Int32) <<< ((MS 4) &&& 31)) - 1), .int 0, .int z]) (w1 := (WM MA MS Mh v)) (by decide +kernel) rfl ?_
        rw [er1]
        refine M.callSi (as := [.int z, .int 0, .int (nI (2 ^ r - 1))]) (st := []) (nx := 53) okX4_within lkX4_36 (s_within (WM MA MS Mh v) z 0 (nI (2 ^ r - 1))) (by decide +kernel) (by decide) rfl (Nat.le_of_ble_eq_true rfl) ?_
        refine M.if_eq (off := 7) (tgt := 60) (nx := 56) (by decide +kernel) (fun z53 => ?_) (fun z53 => ?_)
        · refine M.blk (is := [(.iconst 0, 0, 0, 0), (.istore 4, 4, 0, 0), (.iload 4, 4, 0, 0)]) (pc1 := 65) (lo1 := [(4, .int 0), (0, .ref 0), (1, .int (nI f)), (2, .int y), (3, .int z)]) (st1 := [.int 0]) (w1 := (WM MA MS Mh v)) (by decide +kernel) rfl ?_
          refine M.if_ne (off := 7) (tgt := 72) (nx := 68) (by decide +kernel) (fun h => absurd h (by decide)) (fun _ => ?_)
          refine M.blk (is := [(.sipush (-1002), 0, 0, (-1002))]) (pc1 := 71) (lo1 := [(4, .int 0), (0, .ref 0), (1, .int (nI f)), (2, .int y), (3, .int z)]) (st1 := [.int (-1002)]) (w1 := (WM MA MS Mh v)) (by decide +kernel) rfl ?_
          exact M.reti (nx := 72) (by decide +kernel) (Or.inl ⟨(fun ⟨f1, h, t, e1, e2, e3, a1, a2, a3, a4, a5⟩ => by rcases cz with ⟨_, e⟩ | ⟨e, _⟩; exact e t (Nat.zero_le _) (by omega) e3; exact absurd (z53.symm.trans e) (by decide)), rfl, rfl⟩)
        · refine M.blk (is := [(.iconst 1, 0, 0, 1), (.goto 4, 61, 0, 0), (.istore 4, 4, 0, 0), (.iload 4, 4, 0, 0)]) (pc1 := 65) (lo1 := [(4, .int 1), (0, .ref 0), (1, .int (nI f)), (2, .int y), (3, .int z)]) (st1 := [.int 1]) (w1 := (WM MA MS Mh v)) (by decide +kernel) rfl ?_
          refine M.if_ne (off := 7) (tgt := 72) (nx := 68) (by decide +kernel) (fun _ => ?_) (fun h => absurd h (by decide))
          obtain ⟨h, _, hh2, rfl⟩ : ∃ h : Nat, 0 ≤ h ∧ h ≤ r * c - 1 ∧ y = nI h := by
            rcases cy with ⟨e, _⟩ | ⟨_, h⟩
            · exact absurd e z37
            · exact h
          obtain ⟨t, _, ht2, rfl⟩ : ∃ t : Nat, 0 ≤ t ∧ t ≤ 2 ^ r - 1 ∧ z = nI t := by
            rcases cz with ⟨e, _⟩ | ⟨_, h⟩
            · exact absurd e z53
            · exact h
          have hg : Nat.gcd (r * c) f = 1 := by rw [Nat.gcd_comm]; exact nI_inj (Nat.lt_of_le_of_lt (Nat.gcd_le_left _ hf1) (by omega)) (by decide) z23
          have hgeo2 : GeoOk r c f h t := ⟨hgeo.1, hgeo.2.1, ⟨hf1, by omega⟩, hg, by omega, by omega⟩
          have hms2 : MSok r c f h t (upd (upd (upd MS 6 (nI f)) 7 (nI h)) 8 (nI t)) := ⟨hms.1, hms.2.1, rfl, rfl, rfl⟩
          have lp : ∀ k m, m + k = r * c → g 0 0 93 [(0, .ref 0), (5, .int (nI (fixC (r * c) f h m))), (6, .int (nI m))] [] (WM MA (upd (upd (upd MS 6 (nI f)) 7 (nI h)) 8 (nI t)) Mh v) := by
            intro k
            induction k with
            | zero =>
              intro m hm
              have em : r * c = m := by omega
              rw [← em]
              refine M.blk (is := [(.iload 6, 6, 0, 0), (.aload_n 0, 0, 0, 0)]) (pc1 := 96) (lo1 := [(0, .ref 0), (5, .int (nI (fixC (r * c) f h (r * c)))), (6, .int (nI (r * c)))]) (st1 := [.ref 0, .int (nI (r * c))]) (w1 := (WM MA (upd (upd (upd MS 6 (nI f)) 7 (nI h)) 8 (nI t)) Mh v)) (by decide +kernel) rfl ?_
              refine M.callVi (as := []) (st := [.int (nI (r * c))]) (nx := 99) okX4_cells lkX4_57 (m_cells (MS := (upd (upd (upd MS 6 (nI f)) 7 (nI h)) 8 (nI t))) hms2.1 hms2.2.1) (by decide +kernel) (by decide) rfl (Nat.le_of_ble_eq_true rfl) rfl (by decide) ?_
              refine M.icmp_ge (off := 30) (tgt := 129) (nx := 102) (by decide +kernel) (fun z99 => ?_) (fun z99 => by exfalso; exact z99 (nI_le (Nat.le_refl _) (by omega)))
              refine M.blk (is := [(.iload 5, 5, 0, 0)]) (pc1 := 131) (lo1 := [(0, .ref 0), (5, .int (nI (fixC (r * c) f h (r * c)))), (6, .int (nI (r * c)))]) (st1 := [.int (nI (fixC (r * c) f h (r * c)))]) (w1 := (WM MA (upd (upd (upd MS 6 (nI f)) 7 (nI h)) 8 (nI t)) Mh v)) (by decide +kernel) rfl ?_
              exact M.reti (nx := 132) (by decide +kernel) (Or.inr ⟨f, h, t, ⟨rfl, rfl, rfl⟩, hgeo2, rfl, _, rfl, hms2, fun i hi => by rw [pk_un (by omega), pk_un (by omega), pk_un (by omega)]⟩)
            | succ k ih =>
              intro m hm
              refine M.blk (is := [(.iload 6, 6, 0, 0), (.aload_n 0, 0, 0, 0)]) (pc1 := 96) (lo1 := [(0, .ref 0), (5, .int (nI (fixC (r * c) f h m))), (6, .int (nI m))]) (st1 := [.ref 0, .int (nI m)]) (w1 := (WM MA (upd (upd (upd MS 6 (nI f)) 7 (nI h)) 8 (nI t)) Mh v)) (by decide +kernel) rfl ?_
              refine M.callVi (as := []) (st := [.int (nI m)]) (nx := 99) okX4_cells lkX4_57 (m_cells (MS := (upd (upd (upd MS 6 (nI f)) 7 (nI h)) 8 (nI t))) hms2.1 hms2.2.1) (by decide +kernel) (by decide) rfl (Nat.le_of_ble_eq_true rfl) rfl (by decide) ?_
              refine M.icmp_ge (off := 30) (tgt := 129) (nx := 102) (by decide +kernel) (fun z99 => by exfalso; exact nI_ge (show m < r * c by omega) (by omega) z99) (fun z99 => ?_)
              refine M.blk (is := [(.iload 5, 5, 0, 0), (.aload_n 0, 0, 0, 0), (.iload 6, 6, 0, 0)]) (pc1 := 107) (lo1 := [(0, .ref 0), (5, .int (nI (fixC (r * c) f h m))), (6, .int (nI m))]) (st1 := [.int (nI m), .ref 0, .int (nI (fixC (r * c) f h m))]) (w1 := (WM MA (upd (upd (upd MS 6 (nI f)) 7 (nI h)) 8 (nI t)) Mh v)) (by decide +kernel) rfl ?_
              refine M.callVi (as := [.int (nI m)]) (st := [.int (nI (fixC (r * c) f h m))]) (nx := 110) okX4_cellAt lkX4_70 (m_cellAt (MS := (upd (upd (upd MS 6 (nI f)) 7 (nI h)) 8 (nI t))) hgeo2 hms2 (a := m) (by omega)) (by decide +kernel) (by decide) rfl (Nat.le_of_ble_eq_true rfl) rfl (by decide) ?_
              refine M.blk (is := [(.iload 6, 6, 0, 0)]) (pc1 := 112) (lo1 := [(0, .ref 0), (5, .int (nI (fixC (r * c) f h m))), (6, .int (nI m))]) (st1 := [.int (nI m), .int (nI ((f * m + h) % (r * c))), .int (nI (fixC (r * c) f h m))]) (w1 := (WM MA (upd (upd (upd MS 6 (nI f)) 7 (nI h)) 8 (nI t)) Mh v)) (by decide +kernel) rfl ?_
              have j112 : ∀ b112 : Int32, b112 = (if ¬ nI ((f * m + h) % (r * c)) = nI m then (0 : Int32) else 1) → g 0 0 120 [(0, .ref 0), (5, .int (nI (fixC (r * c) f h m))), (6, .int (nI m))] [.int b112, .int (nI (fixC (r * c) f h m))] (WM MA (upd (upd (upd MS 6 (nI f)) 7 (nI h)) 8 (nI t)) Mh v) := by
                intro b112 hb112
                refine M.blk (is := [(.iadd, 0, 0, 0), (.istore 5, 5, 0, 0), (.iinc 6 1, 6, 0, 1), (.goto (-33), 93, 0, 0)]) (pc1 := 93) (lo1 := [(6, .int ((nI m) + 1)), (5, .int ((nI (fixC (r * c) f h m)) + b112)), (0, .ref 0)]) (st1 := []) (w1 := (WM MA (upd (upd (upd MS 6 (nI f)) 7 (nI h)) 8 (nI t)) Mh v)) (by decide +kernel) rfl ?_
                refine M.lsub [2, 1, 0] (lo1 := [(0, .ref 0), (5, .int ((nI (fixC (r * c) f h m)) + b112)), (6, .int ((nI m) + 1))]) rfl ?_
                have e := ih (m + 1) (by omega)
                by_cases hc : (f * m + h) % (r * c) = m
                · rw [if_neg (fun h => h (by rw [hc]))] at hb112
                  rw [fix_t hc] at e
                  rw [hb112, nI_1, nI_1]
                  exact e
                · rw [if_pos (fun h => hc (nI_inj (Nat.lt_trans (Nat.mod_lt _ (by omega)) (by omega)) (by omega) h))] at hb112
                  rw [fix_f hc] at e
                  rw [hb112, nI_1, nI_a0]
                  exact e
              refine M.icmp_ne (off := 7) (tgt := 119) (nx := 115) (by decide +kernel) (fun z112 => ?_) (fun z112 => ?_)
              · refine M.blk (is := [(.iconst 0, 0, 0, 0)]) (pc1 := 120) (lo1 := [(0, .ref 0), (5, .int (nI (fixC (r * c) f h m))), (6, .int (nI m))]) (st1 := [.int 0, .int (nI (fixC (r * c) f h m))]) (w1 := (WM MA (upd (upd (upd MS 6 (nI f)) 7 (nI h)) 8 (nI t)) Mh v)) (by decide +kernel) rfl ?_
                exact j112 _ (if_pos z112).symm
              · refine M.blk (is := [(.iconst 1, 0, 0, 1), (.goto 4, 120, 0, 0)]) (pc1 := 120) (lo1 := [(0, .ref 0), (5, .int (nI (fixC (r * c) f h m))), (6, .int (nI m))]) (st1 := [.int 1, .int (nI (fixC (r * c) f h m))]) (w1 := (WM MA (upd (upd (upd MS 6 (nI f)) 7 (nI h)) 8 (nI t)) Mh v)) (by decide +kernel) rfl ?_
                exact j112 _ (if_neg (fun h => h z112)).symm
          refine M.blk (is := [(.aload_n 0, 0, 0, 0), (.iload_n 1, 1, 0, 0), (.putfield 23, 4, 6, 0), (.aload_n 0, 0, 0, 0), (.iload_n 2, 2, 0, 0), (.putfield 60, 4, 7, 0), (.aload_n 0, 0, 0, 0), (.iload_n 3, 3, 0, 0), (.putfield 63, 4, 8, 0), (.iconst 0, 0, 0, 0), (.istore 5, 5, 0, 0), (.iconst 0, 0, 0, 0), (.istore 6, 6, 0, 0)]) (pc1 := 93) (lo1 := [(6, .int 0), (5, .int 0), (4, .int 1), (0, .ref 0), (1, .int (nI f)), (2, .int (nI h)), (3, .int (nI t))]) (st1 := []) (w1 := (WM MA (upd (upd (upd MS 6 (nI f)) 7 (nI h)) 8 (nI t)) Mh v)) (by decide +kernel) rfl ?_
          refine M.lsub [3, 1, 0] (lo1 := [(0, .ref 0), (5, .int 0), (6, .int 0)]) rfl ?_
          exact lp (r * c) 0 (by omega)
theorem m_typeOf {r c f h t : Nat} (hgeo : GeoOk r c f h t) (hms : MSok r c f h t MS) {k : Nat} (hk : k < r * c) : CC 0 mX4_typeOf 0 0 [.ref 0, .int (nI k)] (WM MA MS Mh v) (Rt (nI (tyN c k)) (WM MA MS Mh v)) := by
  have h25 : r * c ≤ 25 := Nat.mul_le_mul hgeo.1.2 hgeo.2.1.2
  have h9a : 9 ≤ r * c := Nat.mul_le_mul hgeo.1.1 hgeo.2.1.1
  have hc5 := hgeo.2.1
  have hr5 := hgeo.1
  have hdc : k / c ≤ k := Nat.div_le_self _ _
  have hmc : k % c ≤ k := Nat.mod_le _ _
  refine CC.of okX4_typeOf.1 (Nat.le_of_ble_eq_true rfl) (fun g M => ?_)
  show g 0 0 0 [(0, .ref 0), (1, .int (nI k))] [] (WM MA MS Mh v)
  refine M.blk (is := [(.iload_n 1, 1, 0, 0), (.aload_n 0, 0, 0, 0), (.getfield 20, 4, 5, 0)]) (pc1 := 5) (lo1 := [(0, .ref 0), (1, .int (nI k))]) (st1 := [.int (MS 5), .int (nI k)]) (w1 := (WM MA MS Mh v)) (by decide +kernel) rfl ?_
  refine M.idv (nx := 6) (by decide +kernel) (by rw [hms.2.1]; exact nI_ne0 (by omega) (by omega)) ?_
  rw [show nI k / MS 5 = nI (k / c) by rw [hms.2.1, pk_div (by omega) (by omega) (by omega)]]
  refine M.blk (is := [(.iconst 2, 0, 0, 2), (.iload_n 1, 1, 0, 0), (.aload_n 0, 0, 0, 0), (.getfield 20, 4, 5, 0)]) (pc1 := 12) (lo1 := [(0, .ref 0), (1, .int (nI k))]) (st1 := [.int (MS 5), .int (nI k), .int 2, .int (nI (k / c))]) (w1 := (WM MA MS Mh v)) (by decide +kernel) rfl ?_
  refine M.irm (nx := 13) (by decide +kernel) (by rw [hms.2.1]; exact nI_ne0 (by omega) (by omega)) ?_
  rw [show jrem (nI k) (MS 5) = nI (k % c) by rw [hms.2.1, hf_rem (by omega) (by omega) (by omega)]]
  refine M.blk (is := [(.imul, 0, 0, 0), (.iadd, 0, 0, 0), (.iconst 5, 0, 0, 5)]) (pc1 := 16) (lo1 := [(0, .ref 0), (1, .int (nI k))]) (st1 := [.int 5, .int ((nI (k / c)) + (2 * (nI (k % c))))]) (w1 := (WM MA MS Mh v)) (by decide +kernel) rfl ?_
  refine M.irm (nx := 17) (by decide +kernel) (by decide) ?_
  exact M.reti (nx := 18) (by decide +kernel) ⟨by rw [show (2 : Int32) = nI 2 from rfl, pk_mul, nI_add, show (5 : Int32) = nI 5 from rfl, hf_rem (by omega) (by decide) (by decide)]; rfl, rfl⟩
theorem m_isTurned {r c f h t : Nat} (hgeo : GeoOk r c f h t) (hms : MSok r c f h t MS) {k : Nat} (hk : k < r * c) : CC 0 mX4_isTurned 0 0 [.ref 0, .int (nI k)] (WM MA MS Mh v) (Rt ((nI t >>> (nI (k / c) &&& 31)) &&& 1) (WM MA MS Mh v)) := by
  have h25 : r * c ≤ 25 := Nat.mul_le_mul hgeo.1.2 hgeo.2.1.2
  have h9a : 9 ≤ r * c := Nat.mul_le_mul hgeo.1.1 hgeo.2.1.1
  have hc5 := hgeo.2.1
  have hr5 := hgeo.1
  refine CC.of okX4_isTurned.1 (Nat.le_of_ble_eq_true rfl) (fun g M => ?_)
  show g 0 0 0 [(0, .ref 0), (1, .int (nI k))] [] (WM MA MS Mh v)
  refine M.blk (is := [(.aload_n 0, 0, 0, 0), (.getfield 63, 4, 8, 0), (.iload_n 1, 1, 0, 0), (.aload_n 0, 0, 0, 0), (.getfield 20, 4, 5, 0)]) (pc1 := 9) (lo1 := [(0, .ref 0), (1, .int (nI k))]) (st1 := [.int (MS 5), .int (nI k), .int (MS 8)]) (w1 := (WM MA MS Mh v)) (by decide +kernel) rfl ?_
  refine M.idv (nx := 10) (by decide +kernel) (by rw [hms.2.1]; exact nI_ne0 (by omega) (by omega)) ?_
  rw [show nI k / MS 5 = nI (k / c) by rw [hms.2.1, pk_div (by omega) (by omega) (by omega)]]
  refine M.blk (is := [(.ishr, 0, 0, 0), (.iconst 1, 0, 0, 1), (.iand, 0, 0, 0)]) (pc1 := 13) (lo1 := [(0, .ref 0), (1, .int (nI k))]) (st1 := [.int (((MS 8) >>> ((nI (k / c)) &&& 31)) &&& 1)]) (w1 := (WM MA MS Mh v)) (by decide +kernel) rfl ?_
  exact M.reti (nx := 14) (by decide +kernel) ⟨by rw [hms.2.2.2.2], rfl⟩
theorem m_addressOf {r c f h t : Nat} (hgeo : GeoOk r c f h t) (hms : MSok r c f h t MS) {k a : Nat} (ha : a < r * c) (hk : (f * a + h) % (r * c) = k) : CC 2 mX4_addressOf 0 0 [.ref 0, .int (nI k)] (WM MA MS Mh v) (Rt (nI a) (WM MA MS Mh v)) := by
  have h25 : r * c ≤ 25 := Nat.mul_le_mul hgeo.1.2 hgeo.2.1.2
  have h9a : 9 ≤ r * c := Nat.mul_le_mul hgeo.1.1 hgeo.2.1.1
  have hkn : k < r * c := by rw [← hk]; exact Nat.mod_lt _ (by omega)
  refine CC.of okX4_addressOf.1 (Nat.le_of_ble_eq_true rfl) (fun g M => ?_)
  have lp : ∀ m b, b + m = a → g 0 0 2 [(0, .ref 0), (1, .int (nI k)), (2, .int (nI b))] [] (WM MA MS Mh v) := by
    intro m
    induction m with
    | zero =>
      intro b hb
      have eb : a = b := by omega
      subst eb
      refine M.blk (is := [(.aload_n 0, 0, 0, 0), (.iload_n 2, 2, 0, 0)]) (pc1 := 4) (lo1 := [(0, .ref 0), (1, .int (nI k)), (2, .int (nI a))]) (st1 := [.int (nI a), .ref 0]) (w1 := (WM MA MS Mh v)) (by decide +kernel) rfl ?_
      refine M.callVi (as := [.int (nI a)]) (st := []) (nx := 7) okX4_cellAt lkX4_70 (m_cellAt hgeo hms (a := a) (by omega)) (by decide +kernel) (by decide) rfl (Nat.le_of_ble_eq_true rfl) rfl (by decide) ?_
      refine M.blk (is := [(.iload_n 1, 1, 0, 0)]) (pc1 := 8) (lo1 := [(0, .ref 0), (1, .int (nI k)), (2, .int (nI a))]) (st1 := [.int (nI k), .int (nI ((f * a + h) % (r * c)))]) (w1 := (WM MA MS Mh v)) (by decide +kernel) rfl ?_
      refine M.icmp_eq (off := 9) (tgt := 17) (nx := 11) (by decide +kernel) (fun z8 => ?_) (fun z8 => by exfalso; exact z8 (by rw [hk]))
      refine M.blk (is := [(.iload_n 2, 2, 0, 0)]) (pc1 := 18) (lo1 := [(0, .ref 0), (1, .int (nI k)), (2, .int (nI a))]) (st1 := [.int (nI a)]) (w1 := (WM MA MS Mh v)) (by decide +kernel) rfl ?_
      exact M.reti (nx := 19) (by decide +kernel) ⟨rfl, rfl⟩
    | succ m ih =>
      intro b hb
      refine M.blk (is := [(.aload_n 0, 0, 0, 0), (.iload_n 2, 2, 0, 0)]) (pc1 := 4) (lo1 := [(0, .ref 0), (1, .int (nI k)), (2, .int (nI b))]) (st1 := [.int (nI b), .ref 0]) (w1 := (WM MA MS Mh v)) (by decide +kernel) rfl ?_
      refine M.callVi (as := [.int (nI b)]) (st := []) (nx := 7) okX4_cellAt lkX4_70 (m_cellAt hgeo hms (a := b) (by omega)) (by decide +kernel) (by decide) rfl (Nat.le_of_ble_eq_true rfl) rfl (by decide) ?_
      refine M.blk (is := [(.iload_n 1, 1, 0, 0)]) (pc1 := 8) (lo1 := [(0, .ref 0), (1, .int (nI k)), (2, .int (nI b))]) (st1 := [.int (nI k), .int (nI ((f * b + h) % (r * c)))]) (w1 := (WM MA MS Mh v)) (by decide +kernel) rfl ?_
      refine M.icmp_eq (off := 9) (tgt := 17) (nx := 11) (by decide +kernel) (fun z8 => by exfalso; have e := nI_inj (Nat.lt_trans (Nat.mod_lt _ (by omega)) (by omega)) (by omega) z8; have := mod_inj hgeo.2.2.2.1 (show b < r * c by omega) ha (e.trans hk.symm); omega) (fun z8 => ?_)
      refine M.blk (is := [(.iinc 2 1, 2, 0, 1), (.goto (-12), 2, 0, 0)]) (pc1 := 2) (lo1 := [(2, .int ((nI b) + 1)), (0, .ref 0), (1, .int (nI k))]) (st1 := []) (w1 := (WM MA MS Mh v)) (by decide +kernel) rfl ?_
      refine M.lsub [1, 2, 0] (lo1 := [(0, .ref 0), (1, .int (nI k)), (2, .int ((nI b) + 1))]) rfl ?_
      rw [nI_1]
      exact ih (b + 1) (by omega)
  show g 0 0 0 [(0, .ref 0), (1, .int (nI k))] [] (WM MA MS Mh v)
  refine M.blk (is := [(.iconst 0, 0, 0, 0), (.istore_n 2, 2, 0, 0)]) (pc1 := 2) (lo1 := [(2, .int 0), (0, .ref 0), (1, .int (nI k))]) (st1 := []) (w1 := (WM MA MS Mh v)) (by decide +kernel) rfl ?_
  refine M.lsub [1, 2, 0] (lo1 := [(0, .ref 0), (1, .int (nI k)), (2, .int 0)]) rfl ?_
  exact lp a 0 (by omega)
theorem if01 {P : Prop} [Decidable P] {x : Int32} (e : x = if P then (1 : Int32) else 0) (h : ¬ x = 0) : P := by
  by_cases hp : P
  · exact hp
  · rw [if_neg hp] at e; exact absurd e h
theorem wfm {a n : Nat} (h : a < n) (hn : n ≤ 25) : withF (nI a + (-1)) 0 (nI n - 1) = if 0 < a then 1 else 0 := by
  rcases Nat.eq_zero_or_pos a with e | e
  · subst e
    rw [if_neg (Nat.lt_irrefl _)]
    unfold withF
    rw [if_pos (by decide)]
  · rw [if_pos e, show nI a + (-1) = nI (a - 1) by rw [← pk_m1 (a - 1), Nat.sub_add_cancel e], show nI n - 1 = nI (n - 1) by rw [show (1 : Int32) = nI 1 from rfl, pk_sub (by omega)]]
    unfold withF
    rw [if_neg (nI_pos (by omega)), if_neg (nI_nlt (by omega) (by omega))]
theorem wfp {a n : Nat} (h : a < n) (hn : n ≤ 25) : withF (nI a + 1) 0 (nI n - 1) = if a + 1 < n then 1 else 0 := by
  rw [nI_1, show nI n - 1 = nI (n - 1) by rw [show (1 : Int32) = nI 1 from rfl, pk_sub (by omega)]]
  unfold withF
  rw [if_neg (nI_pos (by omega))]
  by_cases e : a + 1 < n
  · rw [if_pos e, if_neg (nI_nlt (by omega) (by omega))]
  · rw [if_neg e, if_pos (nI_lt (by omega) (by omega))]
theorem wfz {a n : Nat} (h : a < n) (hn : n ≤ 25) : withF (nI a + 0) 0 (nI n - 1) = 1 := by
  rw [nI_a0, show nI n - 1 = nI (n - 1) by rw [show (1 : Int32) = nI 1 from rfl, pk_sub (by omega)]]
  unfold withF
  rw [if_neg (nI_pos (by omega)), if_neg (nI_nlt (by omega) (by omega))]
theorem nI_v0 {c k a b : Nat} (h0 : 0 < c) (h : 0 < a) (e : c * a + b = k) : nI c * (nI a + (-1)) + (nI b + 0) = nI (k - c) := by
  have h1 : c * (a - 1) + b = k - c := by
    obtain ⟨a, rfl⟩ : ∃ z, a = z + 1 := ⟨a - 1, by omega⟩
    rw [Nat.mul_add] at e
    rw [Nat.add_sub_cancel]
    omega
  rw [nI_a0, show nI a + (-1) = nI (a - 1) by rw [← pk_m1 (a - 1), Nat.sub_add_cancel h], pk_mul, nI_add, h1]
theorem nI_v1 {c k a b : Nat} (e : c * a + b = k) : nI c * (nI a + 0) + (nI b + 1) = nI (k + 1) := by
  rw [nI_a0, nI_1, pk_mul, nI_add]
  congr 1
  omega
theorem nI_v2 {c k a b : Nat} (e : c * a + b = k) : nI c * (nI a + 1) + (nI b + 0) = nI (k + c) := by
  rw [nI_a0, nI_1, pk_mul, nI_add]
  congr 1
  rw [Nat.mul_add]
  omega
theorem nI_v3 {c k a b : Nat} (h : 0 < b) (e : c * a + b = k) : nI c * (nI a + 0) + (nI b + (-1)) = nI (k - 1) := by
  rw [nI_a0, show nI b + (-1) = nI (b - 1) by rw [← pk_m1 (b - 1), Nat.sub_add_cancel h], pk_mul, nI_add]
  congr 1
  omega
theorem m_beside {r c f h t : Nat} (hgeo : GeoOk r c f h t) (hms : MSok r c f h t MS) {k : Nat} (hk : k < r * c) {d : Nat} (hd : d < 4) : CC 1 mX4_beside 0 0 [.ref 0, .int (nI k), .int (nI d)] (WM MA MS Mh v) (Rt (oI (nbO r c k d)) (WM MA MS Mh v)) := by
  have h25 : r * c ≤ 25 := Nat.mul_le_mul hgeo.1.2 hgeo.2.1.2
  have h9a : 9 ≤ r * c := Nat.mul_le_mul hgeo.1.1 hgeo.2.1.1
  have hc5 := hgeo.2.1
  have hr5 := hgeo.1
  have hrow : k / c < r := by rw [Nat.div_lt_iff_lt_mul (by omega)]; exact hk
  have hcol : k % c < c := Nat.mod_lt _ (by omega)
  have hdm := Nat.div_add_mod k c
  rcases (show d = 0 ∨ d = 1 ∨ d = 2 ∨ d = 3 by omega) with rfl | rfl | rfl | rfl
  · refine CC.of okX4_beside.1 (Nat.le_of_ble_eq_true rfl) (fun g M => ?_)
    show g 0 0 0 [(0, .ref 0), (1, .int (nI k)), (2, .int 0)] [] (WM MA MS Mh v)
    refine M.blk (is := [(.iload_n 1, 1, 0, 0), (.aload_n 0, 0, 0, 0), (.getfield 20, 4, 5, 0)]) (pc1 := 5) (lo1 := [(0, .ref 0), (1, .int (nI k)), (2, .int 0)]) (st1 := [.int (MS 5), .int (nI k)]) (w1 := (WM MA MS Mh v)) (by decide +kernel) rfl ?_
    refine M.idv (nx := 6) (by decide +kernel) (by rw [hms.2.1]; exact nI_ne0 (by omega) (by omega)) ?_
    rw [show nI k / MS 5 = nI (k / c) by rw [hms.2.1, pk_div (by omega) (by omega) (by omega)]]
    refine M.blk (is := [(.iload_n 2, 2, 0, 0)]) (pc1 := 7) (lo1 := [(0, .ref 0), (1, .int (nI k)), (2, .int 0)]) (st1 := [.int 0, .int (nI (k / c))]) (w1 := (WM MA MS Mh v)) (by decide +kernel) rfl ?_
    refine M.if_ne (off := 7) (tgt := 14) (nx := 10) (by decide +kernel) (fun h => absurd h (by decide)) (fun _ => ?_)
    refine M.blk (is := [(.iconst (-1), 0, 0, (-1)), (.goto 13, 24, 0, 0), (.iadd, 0, 0, 0), (.istore_n 3, 3, 0, 0), (.iload_n 1, 1, 0, 0), (.aload_n 0, 0, 0, 0), (.getfield 20, 4, 5, 0)]) (pc1 := 31) (lo1 := [(3, .int ((nI (k / c)) + (-1))), (0, .ref 0), (1, .int (nI k)), (2, .int 0)]) (st1 := [.int (MS 5), .int (nI k)]) (w1 := (WM MA MS Mh v)) (by decide +kernel) rfl ?_
    refine M.irm (nx := 32) (by decide +kernel) (by rw [hms.2.1]; exact nI_ne0 (by omega) (by omega)) ?_
    rw [show jrem (nI k) (MS 5) = nI (k % c) by rw [hms.2.1, hf_rem (by omega) (by omega) (by omega)]]
    refine M.blk (is := [(.iload_n 2, 2, 0, 0), (.iconst 1, 0, 0, 1)]) (pc1 := 34) (lo1 := [(3, .int ((nI (k / c)) + (-1))), (0, .ref 0), (1, .int (nI k)), (2, .int 0)]) (st1 := [.int 1, .int 0, .int (nI (k % c))]) (w1 := (WM MA MS Mh v)) (by decide +kernel) rfl ?_
    refine M.icmp_ne (off := 7) (tgt := 41) (nx := 37) (by decide +kernel) (fun _ => ?_) (fun h => absurd h (by decide))
    refine M.blk (is := [(.iload_n 2, 2, 0, 0), (.iconst 3, 0, 0, 3)]) (pc1 := 43) (lo1 := [(3, .int ((nI (k / c)) + (-1))), (0, .ref 0), (1, .int (nI k)), (2, .int 0)]) (st1 := [.int 3, .int 0, .int (nI (k % c))]) (w1 := (WM MA MS Mh v)) (by decide +kernel) rfl ?_
    refine M.icmp_ne (off := 7) (tgt := 50) (nx := 46) (by decide +kernel) (fun _ => ?_) (fun h => absurd h (by decide))
    refine M.blk (is := [(.iconst 0, 0, 0, 0), (.iadd, 0, 0, 0), (.istore 4, 4, 0, 0), (.iload_n 3, 3, 0, 0), (.iconst 0, 0, 0, 0), (.aload_n 0, 0, 0, 0), (.getfield 16, 4, 4, 0), (.iconst 1, 0, 0, 1), (.isub, 0, 0, 0)]) (pc1 := 62) (lo1 := [(4, .int ((nI (k % c)) + 0)), (3, .int ((nI (k / c)) + (-1))), (0, .ref 0), (1, .int (nI k)), (2, .int 0)]) (st1 := [.int ((MS 4) - 1), .int 0, .int ((nI (k / c)) + (-1))]) (w1 := (WM MA MS Mh v)) (by decide +kernel) rfl ?_
    refine M.callSi (as := [.int ((nI (k / c)) + (-1)), .int 0, .int ((MS 4) - 1)]) (st := []) (nx := 65) okX4_within lkX4_36 (s_within (WM MA MS Mh v) ((nI (k / c)) + (-1)) 0 ((MS 4) - 1)) (by decide +kernel) (by decide) rfl (Nat.le_of_ble_eq_true rfl) ?_
    refine M.if_eq (off := 30) (tgt := 95) (nx := 68) (by decide +kernel) (fun z65 => ?_) (fun z65 => ?_)
    · refine M.blk (is := [(.iconst (-1), 0, 0, (-1))]) (pc1 := 96) (lo1 := [(4, .int ((nI (k % c)) + 0)), (3, .int ((nI (k / c)) + (-1))), (0, .ref 0), (1, .int (nI k)), (2, .int 0)]) (st1 := [.int (-1)]) (w1 := (WM MA MS Mh v)) (by decide +kernel) rfl ?_
      exact M.reti (nx := 97) (by decide +kernel) ⟨by rw [nb0, if_neg (fun h : 0 < k / c => by rw [hms.1, wfm hrow (by omega)] at z65; rw [if_pos h] at z65; exact absurd z65 (by decide))]; rfl, rfl⟩
    · refine M.blk (is := [(.iload 4, 4, 0, 0), (.iconst 0, 0, 0, 0), (.aload_n 0, 0, 0, 0), (.getfield 20, 4, 5, 0), (.iconst 1, 0, 0, 1), (.isub, 0, 0, 0)]) (pc1 := 77) (lo1 := [(4, .int ((nI (k % c)) + 0)), (3, .int ((nI (k / c)) + (-1))), (0, .ref 0), (1, .int (nI k)), (2, .int 0)]) (st1 := [.int ((MS 5) - 1), .int 0, .int ((nI (k % c)) + 0)]) (w1 := (WM MA MS Mh v)) (by decide +kernel) rfl ?_
      refine M.callSi (as := [.int ((nI (k % c)) + 0), .int 0, .int ((MS 5) - 1)]) (st := []) (nx := 80) okX4_within lkX4_36 (s_within (WM MA MS Mh v) ((nI (k % c)) + 0) 0 ((MS 5) - 1)) (by decide +kernel) (by decide) rfl (Nat.le_of_ble_eq_true rfl) ?_
      refine M.if_eq (off := 15) (tgt := 95) (nx := 83) (by decide +kernel) (fun z80 => by exfalso; rw [hms.2.1, wfz hcol (by omega)] at z80; exact absurd z80 (by decide)) (fun z80 => ?_)
      refine M.blk (is := [(.aload_n 0, 0, 0, 0), (.getfield 20, 4, 5, 0), (.iload_n 3, 3, 0, 0), (.imul, 0, 0, 0), (.iload 4, 4, 0, 0), (.iadd, 0, 0, 0), (.goto 4, 96, 0, 0)]) (pc1 := 96) (lo1 := [(4, .int ((nI (k % c)) + 0)), (3, .int ((nI (k / c)) + (-1))), (0, .ref 0), (1, .int (nI k)), (2, .int 0)]) (st1 := [.int (((MS 5) * ((nI (k / c)) + (-1))) + ((nI (k % c)) + 0))]) (w1 := (WM MA MS Mh v)) (by decide +kernel) rfl ?_
      exact M.reti (nx := 97) (by decide +kernel) ⟨by have hc2 : 0 < k / c := if01 (by rw [hms.1]; exact wfm hrow (by omega)) z65; rw [nb0, if_pos hc2, hms.2.1, nI_v0 (by omega) hc2 hdm]; rfl, rfl⟩
  · refine CC.of okX4_beside.1 (Nat.le_of_ble_eq_true rfl) (fun g M => ?_)
    show g 0 0 0 [(0, .ref 0), (1, .int (nI k)), (2, .int 1)] [] (WM MA MS Mh v)
    refine M.blk (is := [(.iload_n 1, 1, 0, 0), (.aload_n 0, 0, 0, 0), (.getfield 20, 4, 5, 0)]) (pc1 := 5) (lo1 := [(0, .ref 0), (1, .int (nI k)), (2, .int 1)]) (st1 := [.int (MS 5), .int (nI k)]) (w1 := (WM MA MS Mh v)) (by decide +kernel) rfl ?_
    refine M.idv (nx := 6) (by decide +kernel) (by rw [hms.2.1]; exact nI_ne0 (by omega) (by omega)) ?_
    rw [show nI k / MS 5 = nI (k / c) by rw [hms.2.1, pk_div (by omega) (by omega) (by omega)]]
    refine M.blk (is := [(.iload_n 2, 2, 0, 0)]) (pc1 := 7) (lo1 := [(0, .ref 0), (1, .int (nI k)), (2, .int 1)]) (st1 := [.int 1, .int (nI (k / c))]) (w1 := (WM MA MS Mh v)) (by decide +kernel) rfl ?_
    refine M.if_ne (off := 7) (tgt := 14) (nx := 10) (by decide +kernel) (fun _ => ?_) (fun h => absurd h (by decide))
    refine M.blk (is := [(.iload_n 2, 2, 0, 0), (.iconst 2, 0, 0, 2)]) (pc1 := 16) (lo1 := [(0, .ref 0), (1, .int (nI k)), (2, .int 1)]) (st1 := [.int 2, .int 1, .int (nI (k / c))]) (w1 := (WM MA MS Mh v)) (by decide +kernel) rfl ?_
    refine M.icmp_ne (off := 7) (tgt := 23) (nx := 19) (by decide +kernel) (fun _ => ?_) (fun h => absurd h (by decide))
    refine M.blk (is := [(.iconst 0, 0, 0, 0), (.iadd, 0, 0, 0), (.istore_n 3, 3, 0, 0), (.iload_n 1, 1, 0, 0), (.aload_n 0, 0, 0, 0), (.getfield 20, 4, 5, 0)]) (pc1 := 31) (lo1 := [(3, .int ((nI (k / c)) + 0)), (0, .ref 0), (1, .int (nI k)), (2, .int 1)]) (st1 := [.int (MS 5), .int (nI k)]) (w1 := (WM MA MS Mh v)) (by decide +kernel) rfl ?_
    refine M.irm (nx := 32) (by decide +kernel) (by rw [hms.2.1]; exact nI_ne0 (by omega) (by omega)) ?_
    rw [show jrem (nI k) (MS 5) = nI (k % c) by rw [hms.2.1, hf_rem (by omega) (by omega) (by omega)]]
    refine M.blk (is := [(.iload_n 2, 2, 0, 0), (.iconst 1, 0, 0, 1)]) (pc1 := 34) (lo1 := [(3, .int ((nI (k / c)) + 0)), (0, .ref 0), (1, .int (nI k)), (2, .int 1)]) (st1 := [.int 1, .int 1, .int (nI (k % c))]) (w1 := (WM MA MS Mh v)) (by decide +kernel) rfl ?_
    refine M.icmp_ne (off := 7) (tgt := 41) (nx := 37) (by decide +kernel) (fun h => absurd h (by decide)) (fun _ => ?_)
    refine M.blk (is := [(.iconst 1, 0, 0, 1), (.goto 13, 51, 0, 0), (.iadd, 0, 0, 0), (.istore 4, 4, 0, 0), (.iload_n 3, 3, 0, 0), (.iconst 0, 0, 0, 0), (.aload_n 0, 0, 0, 0), (.getfield 16, 4, 4, 0), (.iconst 1, 0, 0, 1), (.isub, 0, 0, 0)]) (pc1 := 62) (lo1 := [(4, .int ((nI (k % c)) + 1)), (3, .int ((nI (k / c)) + 0)), (0, .ref 0), (1, .int (nI k)), (2, .int 1)]) (st1 := [.int ((MS 4) - 1), .int 0, .int ((nI (k / c)) + 0)]) (w1 := (WM MA MS Mh v)) (by decide +kernel) rfl ?_
    refine M.callSi (as := [.int ((nI (k / c)) + 0), .int 0, .int ((MS 4) - 1)]) (st := []) (nx := 65) okX4_within lkX4_36 (s_within (WM MA MS Mh v) ((nI (k / c)) + 0) 0 ((MS 4) - 1)) (by decide +kernel) (by decide) rfl (Nat.le_of_ble_eq_true rfl) ?_
    refine M.if_eq (off := 30) (tgt := 95) (nx := 68) (by decide +kernel) (fun z65 => by exfalso; rw [hms.1, wfz hrow (by omega)] at z65; exact absurd z65 (by decide)) (fun z65 => ?_)
    refine M.blk (is := [(.iload 4, 4, 0, 0), (.iconst 0, 0, 0, 0), (.aload_n 0, 0, 0, 0), (.getfield 20, 4, 5, 0), (.iconst 1, 0, 0, 1), (.isub, 0, 0, 0)]) (pc1 := 77) (lo1 := [(4, .int ((nI (k % c)) + 1)), (3, .int ((nI (k / c)) + 0)), (0, .ref 0), (1, .int (nI k)), (2, .int 1)]) (st1 := [.int ((MS 5) - 1), .int 0, .int ((nI (k % c)) + 1)]) (w1 := (WM MA MS Mh v)) (by decide +kernel) rfl ?_
    refine M.callSi (as := [.int ((nI (k % c)) + 1), .int 0, .int ((MS 5) - 1)]) (st := []) (nx := 80) okX4_within lkX4_36 (s_within (WM MA MS Mh v) ((nI (k % c)) + 1) 0 ((MS 5) - 1)) (by decide +kernel) (by decide) rfl (Nat.le_of_ble_eq_true rfl) ?_
    refine M.if_eq (off := 15) (tgt := 95) (nx := 83) (by decide +kernel) (fun z80 => ?_) (fun z80 => ?_)
    · refine M.blk (is := [(.iconst (-1), 0, 0, (-1))]) (pc1 := 96) (lo1 := [(4, .int ((nI (k % c)) + 1)), (3, .int ((nI (k / c)) + 0)), (0, .ref 0), (1, .int (nI k)), (2, .int 1)]) (st1 := [.int (-1)]) (w1 := (WM MA MS Mh v)) (by decide +kernel) rfl ?_
      exact M.reti (nx := 97) (by decide +kernel) ⟨by rw [nb1, if_neg (fun h : k % c + 1 < c => by rw [hms.2.1, wfp hcol (by omega)] at z80; rw [if_pos h] at z80; exact absurd z80 (by decide))]; rfl, rfl⟩
    · refine M.blk (is := [(.aload_n 0, 0, 0, 0), (.getfield 20, 4, 5, 0), (.iload_n 3, 3, 0, 0), (.imul, 0, 0, 0), (.iload 4, 4, 0, 0), (.iadd, 0, 0, 0), (.goto 4, 96, 0, 0)]) (pc1 := 96) (lo1 := [(4, .int ((nI (k % c)) + 1)), (3, .int ((nI (k / c)) + 0)), (0, .ref 0), (1, .int (nI k)), (2, .int 1)]) (st1 := [.int (((MS 5) * ((nI (k / c)) + 0)) + ((nI (k % c)) + 1))]) (w1 := (WM MA MS Mh v)) (by decide +kernel) rfl ?_
      exact M.reti (nx := 97) (by decide +kernel) ⟨by have hc2 : k % c + 1 < c := if01 (by rw [hms.2.1]; exact wfp hcol (by omega)) z80; rw [nb1, if_pos hc2, hms.2.1, nI_v1 hdm]; rfl, rfl⟩
  · refine CC.of okX4_beside.1 (Nat.le_of_ble_eq_true rfl) (fun g M => ?_)
    show g 0 0 0 [(0, .ref 0), (1, .int (nI k)), (2, .int 2)] [] (WM MA MS Mh v)
    refine M.blk (is := [(.iload_n 1, 1, 0, 0), (.aload_n 0, 0, 0, 0), (.getfield 20, 4, 5, 0)]) (pc1 := 5) (lo1 := [(0, .ref 0), (1, .int (nI k)), (2, .int 2)]) (st1 := [.int (MS 5), .int (nI k)]) (w1 := (WM MA MS Mh v)) (by decide +kernel) rfl ?_
    refine M.idv (nx := 6) (by decide +kernel) (by rw [hms.2.1]; exact nI_ne0 (by omega) (by omega)) ?_
    rw [show nI k / MS 5 = nI (k / c) by rw [hms.2.1, pk_div (by omega) (by omega) (by omega)]]
    refine M.blk (is := [(.iload_n 2, 2, 0, 0)]) (pc1 := 7) (lo1 := [(0, .ref 0), (1, .int (nI k)), (2, .int 2)]) (st1 := [.int 2, .int (nI (k / c))]) (w1 := (WM MA MS Mh v)) (by decide +kernel) rfl ?_
    refine M.if_ne (off := 7) (tgt := 14) (nx := 10) (by decide +kernel) (fun _ => ?_) (fun h => absurd h (by decide))
    refine M.blk (is := [(.iload_n 2, 2, 0, 0), (.iconst 2, 0, 0, 2)]) (pc1 := 16) (lo1 := [(0, .ref 0), (1, .int (nI k)), (2, .int 2)]) (st1 := [.int 2, .int 2, .int (nI (k / c))]) (w1 := (WM MA MS Mh v)) (by decide +kernel) rfl ?_
    refine M.icmp_ne (off := 7) (tgt := 23) (nx := 19) (by decide +kernel) (fun h => absurd h (by decide)) (fun _ => ?_)
    refine M.blk (is := [(.iconst 1, 0, 0, 1), (.goto 4, 24, 0, 0), (.iadd, 0, 0, 0), (.istore_n 3, 3, 0, 0), (.iload_n 1, 1, 0, 0), (.aload_n 0, 0, 0, 0), (.getfield 20, 4, 5, 0)]) (pc1 := 31) (lo1 := [(3, .int ((nI (k / c)) + 1)), (0, .ref 0), (1, .int (nI k)), (2, .int 2)]) (st1 := [.int (MS 5), .int (nI k)]) (w1 := (WM MA MS Mh v)) (by decide +kernel) rfl ?_
    refine M.irm (nx := 32) (by decide +kernel) (by rw [hms.2.1]; exact nI_ne0 (by omega) (by omega)) ?_
    rw [show jrem (nI k) (MS 5) = nI (k % c) by rw [hms.2.1, hf_rem (by omega) (by omega) (by omega)]]
    refine M.blk (is := [(.iload_n 2, 2, 0, 0), (.iconst 1, 0, 0, 1)]) (pc1 := 34) (lo1 := [(3, .int ((nI (k / c)) + 1)), (0, .ref 0), (1, .int (nI k)), (2, .int 2)]) (st1 := [.int 1, .int 2, .int (nI (k % c))]) (w1 := (WM MA MS Mh v)) (by decide +kernel) rfl ?_
    refine M.icmp_ne (off := 7) (tgt := 41) (nx := 37) (by decide +kernel) (fun _ => ?_) (fun h => absurd h (by decide))
    refine M.blk (is := [(.iload_n 2, 2, 0, 0), (.iconst 3, 0, 0, 3)]) (pc1 := 43) (lo1 := [(3, .int ((nI (k / c)) + 1)), (0, .ref 0), (1, .int (nI k)), (2, .int 2)]) (st1 := [.int 3, .int 2, .int (nI (k % c))]) (w1 := (WM MA MS Mh v)) (by decide +kernel) rfl ?_
    refine M.icmp_ne (off := 7) (tgt := 50) (nx := 46) (by decide +kernel) (fun _ => ?_) (fun h => absurd h (by decide))
    refine M.blk (is := [(.iconst 0, 0, 0, 0), (.iadd, 0, 0, 0), (.istore 4, 4, 0, 0), (.iload_n 3, 3, 0, 0), (.iconst 0, 0, 0, 0), (.aload_n 0, 0, 0, 0), (.getfield 16, 4, 4, 0), (.iconst 1, 0, 0, 1), (.isub, 0, 0, 0)]) (pc1 := 62) (lo1 := [(4, .int ((nI (k % c)) + 0)), (3, .int ((nI (k / c)) + 1)), (0, .ref 0), (1, .int (nI k)), (2, .int 2)]) (st1 := [.int ((MS 4) - 1), .int 0, .int ((nI (k / c)) + 1)]) (w1 := (WM MA MS Mh v)) (by decide +kernel) rfl ?_
    refine M.callSi (as := [.int ((nI (k / c)) + 1), .int 0, .int ((MS 4) - 1)]) (st := []) (nx := 65) okX4_within lkX4_36 (s_within (WM MA MS Mh v) ((nI (k / c)) + 1) 0 ((MS 4) - 1)) (by decide +kernel) (by decide) rfl (Nat.le_of_ble_eq_true rfl) ?_
    refine M.if_eq (off := 30) (tgt := 95) (nx := 68) (by decide +kernel) (fun z65 => ?_) (fun z65 => ?_)
    · refine M.blk (is := [(.iconst (-1), 0, 0, (-1))]) (pc1 := 96) (lo1 := [(4, .int ((nI (k % c)) + 0)), (3, .int ((nI (k / c)) + 1)), (0, .ref 0), (1, .int (nI k)), (2, .int 2)]) (st1 := [.int (-1)]) (w1 := (WM MA MS Mh v)) (by decide +kernel) rfl ?_
      exact M.reti (nx := 97) (by decide +kernel) ⟨by rw [nb2, if_neg (fun h : k / c + 1 < r => by rw [hms.1, wfp hrow (by omega)] at z65; rw [if_pos h] at z65; exact absurd z65 (by decide))]; rfl, rfl⟩
    · refine M.blk (is := [(.iload 4, 4, 0, 0), (.iconst 0, 0, 0, 0), (.aload_n 0, 0, 0, 0), (.getfield 20, 4, 5, 0), (.iconst 1, 0, 0, 1), (.isub, 0, 0, 0)]) (pc1 := 77) (lo1 := [(4, .int ((nI (k % c)) + 0)), (3, .int ((nI (k / c)) + 1)), (0, .ref 0), (1, .int (nI k)), (2, .int 2)]) (st1 := [.int ((MS 5) - 1), .int 0, .int ((nI (k % c)) + 0)]) (w1 := (WM MA MS Mh v)) (by decide +kernel) rfl ?_
      refine M.callSi (as := [.int ((nI (k % c)) + 0), .int 0, .int ((MS 5) - 1)]) (st := []) (nx := 80) okX4_within lkX4_36 (s_within (WM MA MS Mh v) ((nI (k % c)) + 0) 0 ((MS 5) - 1)) (by decide +kernel) (by decide) rfl (Nat.le_of_ble_eq_true rfl) ?_
      refine M.if_eq (off := 15) (tgt := 95) (nx := 83) (by decide +kernel) (fun z80 => by exfalso; rw [hms.2.1, wfz hcol (by omega)] at z80; exact absurd z80 (by decide)) (fun z80 => ?_)
      refine M.blk (is := [(.aload_n 0, 0, 0, 0), (.getfield 20, 4, 5, 0), (.iload_n 3, 3, 0, 0), (.imul, 0, 0, 0), (.iload 4, 4, 0, 0), (.iadd, 0, 0, 0), (.goto 4, 96, 0, 0)]) (pc1 := 96) (lo1 := [(4, .int ((nI (k % c)) + 0)), (3, .int ((nI (k / c)) + 1)), (0, .ref 0), (1, .int (nI k)), (2, .int 2)]) (st1 := [.int (((MS 5) * ((nI (k / c)) + 1)) + ((nI (k % c)) + 0))]) (w1 := (WM MA MS Mh v)) (by decide +kernel) rfl ?_
      exact M.reti (nx := 97) (by decide +kernel) ⟨by have hc2 : k / c + 1 < r := if01 (by rw [hms.1]; exact wfp hrow (by omega)) z65; rw [nb2, if_pos hc2, hms.2.1, nI_v2 hdm]; rfl, rfl⟩
  · refine CC.of okX4_beside.1 (Nat.le_of_ble_eq_true rfl) (fun g M => ?_)
    show g 0 0 0 [(0, .ref 0), (1, .int (nI k)), (2, .int 3)] [] (WM MA MS Mh v)
    refine M.blk (is := [(.iload_n 1, 1, 0, 0), (.aload_n 0, 0, 0, 0), (.getfield 20, 4, 5, 0)]) (pc1 := 5) (lo1 := [(0, .ref 0), (1, .int (nI k)), (2, .int 3)]) (st1 := [.int (MS 5), .int (nI k)]) (w1 := (WM MA MS Mh v)) (by decide +kernel) rfl ?_
    refine M.idv (nx := 6) (by decide +kernel) (by rw [hms.2.1]; exact nI_ne0 (by omega) (by omega)) ?_
    rw [show nI k / MS 5 = nI (k / c) by rw [hms.2.1, pk_div (by omega) (by omega) (by omega)]]
    refine M.blk (is := [(.iload_n 2, 2, 0, 0)]) (pc1 := 7) (lo1 := [(0, .ref 0), (1, .int (nI k)), (2, .int 3)]) (st1 := [.int 3, .int (nI (k / c))]) (w1 := (WM MA MS Mh v)) (by decide +kernel) rfl ?_
    refine M.if_ne (off := 7) (tgt := 14) (nx := 10) (by decide +kernel) (fun _ => ?_) (fun h => absurd h (by decide))
    refine M.blk (is := [(.iload_n 2, 2, 0, 0), (.iconst 2, 0, 0, 2)]) (pc1 := 16) (lo1 := [(0, .ref 0), (1, .int (nI k)), (2, .int 3)]) (st1 := [.int 2, .int 3, .int (nI (k / c))]) (w1 := (WM MA MS Mh v)) (by decide +kernel) rfl ?_
    refine M.icmp_ne (off := 7) (tgt := 23) (nx := 19) (by decide +kernel) (fun _ => ?_) (fun h => absurd h (by decide))
    refine M.blk (is := [(.iconst 0, 0, 0, 0), (.iadd, 0, 0, 0), (.istore_n 3, 3, 0, 0), (.iload_n 1, 1, 0, 0), (.aload_n 0, 0, 0, 0), (.getfield 20, 4, 5, 0)]) (pc1 := 31) (lo1 := [(3, .int ((nI (k / c)) + 0)), (0, .ref 0), (1, .int (nI k)), (2, .int 3)]) (st1 := [.int (MS 5), .int (nI k)]) (w1 := (WM MA MS Mh v)) (by decide +kernel) rfl ?_
    refine M.irm (nx := 32) (by decide +kernel) (by rw [hms.2.1]; exact nI_ne0 (by omega) (by omega)) ?_
    rw [show jrem (nI k) (MS 5) = nI (k % c) by rw [hms.2.1, hf_rem (by omega) (by omega) (by omega)]]
    refine M.blk (is := [(.iload_n 2, 2, 0, 0), (.iconst 1, 0, 0, 1)]) (pc1 := 34) (lo1 := [(3, .int ((nI (k / c)) + 0)), (0, .ref 0), (1, .int (nI k)), (2, .int 3)]) (st1 := [.int 1, .int 3, .int (nI (k % c))]) (w1 := (WM MA MS Mh v)) (by decide +kernel) rfl ?_
    refine M.icmp_ne (off := 7) (tgt := 41) (nx := 37) (by decide +kernel) (fun _ => ?_) (fun h => absurd h (by decide))
    refine M.blk (is := [(.iload_n 2, 2, 0, 0), (.iconst 3, 0, 0, 3)]) (pc1 := 43) (lo1 := [(3, .int ((nI (k / c)) + 0)), (0, .ref 0), (1, .int (nI k)), (2, .int 3)]) (st1 := [.int 3, .int 3, .int (nI (k % c))]) (w1 := (WM MA MS Mh v)) (by decide +kernel) rfl ?_
    refine M.icmp_ne (off := 7) (tgt := 50) (nx := 46) (by decide +kernel) (fun h => absurd h (by decide)) (fun _ => ?_)
    refine M.blk (is := [(.iconst (-1), 0, 0, (-1)), (.goto 4, 51, 0, 0), (.iadd, 0, 0, 0), (.istore 4, 4, 0, 0), (.iload_n 3, 3, 0, 0), (.iconst 0, 0, 0, 0), (.aload_n 0, 0, 0, 0), (.getfield 16, 4, 4, 0), (.iconst 1, 0, 0, 1), (.isub, 0, 0, 0)]) (pc1 := 62) (lo1 := [(4, .int ((nI (k % c)) + (-1))), (3, .int ((nI (k / c)) + 0)), (0, .ref 0), (1, .int (nI k)), (2, .int 3)]) (st1 := [.int ((MS 4) - 1), .int 0, .int ((nI (k / c)) + 0)]) (w1 := (WM MA MS Mh v)) (by decide +kernel) rfl ?_
    refine M.callSi (as := [.int ((nI (k / c)) + 0), .int 0, .int ((MS 4) - 1)]) (st := []) (nx := 65) okX4_within lkX4_36 (s_within (WM MA MS Mh v) ((nI (k / c)) + 0) 0 ((MS 4) - 1)) (by decide +kernel) (by decide) rfl (Nat.le_of_ble_eq_true rfl) ?_
    refine M.if_eq (off := 30) (tgt := 95) (nx := 68) (by decide +kernel) (fun z65 => by exfalso; rw [hms.1, wfz hrow (by omega)] at z65; exact absurd z65 (by decide)) (fun z65 => ?_)
    refine M.blk (is := [(.iload 4, 4, 0, 0), (.iconst 0, 0, 0, 0), (.aload_n 0, 0, 0, 0), (.getfield 20, 4, 5, 0), (.iconst 1, 0, 0, 1), (.isub, 0, 0, 0)]) (pc1 := 77) (lo1 := [(4, .int ((nI (k % c)) + (-1))), (3, .int ((nI (k / c)) + 0)), (0, .ref 0), (1, .int (nI k)), (2, .int 3)]) (st1 := [.int ((MS 5) - 1), .int 0, .int ((nI (k % c)) + (-1))]) (w1 := (WM MA MS Mh v)) (by decide +kernel) rfl ?_
    refine M.callSi (as := [.int ((nI (k % c)) + (-1)), .int 0, .int ((MS 5) - 1)]) (st := []) (nx := 80) okX4_within lkX4_36 (s_within (WM MA MS Mh v) ((nI (k % c)) + (-1)) 0 ((MS 5) - 1)) (by decide +kernel) (by decide) rfl (Nat.le_of_ble_eq_true rfl) ?_
    refine M.if_eq (off := 15) (tgt := 95) (nx := 83) (by decide +kernel) (fun z80 => ?_) (fun z80 => ?_)
    · refine M.blk (is := [(.iconst (-1), 0, 0, (-1))]) (pc1 := 96) (lo1 := [(4, .int ((nI (k % c)) + (-1))), (3, .int ((nI (k / c)) + 0)), (0, .ref 0), (1, .int (nI k)), (2, .int 3)]) (st1 := [.int (-1)]) (w1 := (WM MA MS Mh v)) (by decide +kernel) rfl ?_
      exact M.reti (nx := 97) (by decide +kernel) ⟨by rw [nb3, if_neg (fun h : 0 < k % c => by rw [hms.2.1, wfm hcol (by omega)] at z80; rw [if_pos h] at z80; exact absurd z80 (by decide))]; rfl, rfl⟩
    · refine M.blk (is := [(.aload_n 0, 0, 0, 0), (.getfield 20, 4, 5, 0), (.iload_n 3, 3, 0, 0), (.imul, 0, 0, 0), (.iload 4, 4, 0, 0), (.iadd, 0, 0, 0), (.goto 4, 96, 0, 0)]) (pc1 := 96) (lo1 := [(4, .int ((nI (k % c)) + (-1))), (3, .int ((nI (k / c)) + 0)), (0, .ref 0), (1, .int (nI k)), (2, .int 3)]) (st1 := [.int (((MS 5) * ((nI (k / c)) + 0)) + ((nI (k % c)) + (-1)))]) (w1 := (WM MA MS Mh v)) (by decide +kernel) rfl ?_
      exact M.reti (nx := 97) (by decide +kernel) ⟨by have hc2 : 0 < k % c := if01 (by rw [hms.2.1]; exact wfm hcol (by omega)) z80; rw [nb3, if_pos hc2, hms.2.1, nI_v3 hc2 hdm]; rfl, rfl⟩
end MTWO
end
