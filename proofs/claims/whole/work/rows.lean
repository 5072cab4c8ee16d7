section
-- ===== PART A: goes FIRST, ahead of the names: the tables' words, and 'selects' of the private methods out of them =====
/-- a private method of a class that the tables say can be made, by its rows of tables_1 -/
def lw_okq (q : MethodName × Nat) : Prop := (q.1.cls ≠ "java/lang/invoke/MethodHandle" ∧ q.1.cls ≠ "java/lang/invoke/VarHandle") ∧ Cond.instantiable q.1.cls q.2 ∈ tables_1 ∧ Cond.privateMethod q.1 ∈ tables_1 ∧ Cond.instanceMethod q.1 ∈ tables_1
theorem lw_p0 : lw_okq (⟨"LentSectors$Heads", "divide", "(II)V"⟩, 15) := ⟨⟨by decide +kernel, by decide +kernel⟩, List.mem_of_getElem? (i := 17) (by decide +kernel), List.mem_of_getElem? (i := 23) (by decide +kernel), List.mem_of_getElem? (i := 24) (by decide +kernel)⟩
theorem lw_p1 : lw_okq (⟨"LentSectors", "startTrial", "()V"⟩, 6) := ⟨⟨by decide +kernel, by decide +kernel⟩, List.mem_of_getElem? (i := 9) (by decide +kernel), List.mem_of_getElem? (i := 155) (by decide +kernel), List.mem_of_getElem? (i := 156) (by decide +kernel)⟩
theorem lw_p2 : lw_okq (⟨"LentSectors", "settle", "(I)I"⟩, 6) := ⟨⟨by decide +kernel, by decide +kernel⟩, List.mem_of_getElem? (i := 9) (by decide +kernel), List.mem_of_getElem? (i := 170) (by decide +kernel), List.mem_of_getElem? (i := 171) (by decide +kernel)⟩
theorem lw_p3 : lw_okq (⟨"LentSectors$Heads", "wearOf", "(I)I"⟩, 15) := ⟨⟨by decide +kernel, by decide +kernel⟩, List.mem_of_getElem? (i := 17) (by decide +kernel), List.mem_of_getElem? (i := 194) (by decide +kernel), List.mem_of_getElem? (i := 195) (by decide +kernel)⟩
theorem lw_p4 : lw_okq (⟨"LentSectors$Heads", "isLost", "(I)Z"⟩, 15) := ⟨⟨by decide +kernel, by decide +kernel⟩, List.mem_of_getElem? (i := 17) (by decide +kernel), List.mem_of_getElem? (i := 206) (by decide +kernel), List.mem_of_getElem? (i := 207) (by decide +kernel)⟩
theorem lw_p5 : lw_okq (⟨"LentSectors$Heads", "goTo", "(I)V"⟩, 15) := ⟨⟨by decide +kernel, by decide +kernel⟩, List.mem_of_getElem? (i := 17) (by decide +kernel), List.mem_of_getElem? (i := 210) (by decide +kernel), List.mem_of_getElem? (i := 211) (by decide +kernel)⟩
theorem lw_p6 : lw_okq (⟨"LentSectors$Heads", "stepsTo", "(I)I"⟩, 15) := ⟨⟨by decide +kernel, by decide +kernel⟩, List.mem_of_getElem? (i := 17) (by decide +kernel), List.mem_of_getElem? (i := 214) (by decide +kernel), List.mem_of_getElem? (i := 215) (by decide +kernel)⟩
theorem lw_p7 : lw_okq (⟨"LentSectors$Heads", "wearByReading", "(I)V"⟩, 15) := ⟨⟨by decide +kernel, by decide +kernel⟩, List.mem_of_getElem? (i := 17) (by decide +kernel), List.mem_of_getElem? (i := 226) (by decide +kernel), List.mem_of_getElem? (i := 227) (by decide +kernel)⟩
theorem lw_p8 : lw_okq (⟨"LentSectors$Heads", "lookAt", "(I)V"⟩, 15) := ⟨⟨by decide +kernel, by decide +kernel⟩, List.mem_of_getElem? (i := 17) (by decide +kernel), List.mem_of_getElem? (i := 230) (by decide +kernel), List.mem_of_getElem? (i := 231) (by decide +kernel)⟩
theorem lw_p9 : lw_okq (⟨"LentSectors$Heads", "isGood", "(I)Z"⟩, 15) := ⟨⟨by decide +kernel, by decide +kernel⟩, List.mem_of_getElem? (i := 17) (by decide +kernel), List.mem_of_getElem? (i := 234) (by decide +kernel), List.mem_of_getElem? (i := 235) (by decide +kernel)⟩
theorem lw_p10 : lw_okq (⟨"LentSectors$Heads", "lendableTo", "(I)I"⟩, 15) := ⟨⟨by decide +kernel, by decide +kernel⟩, List.mem_of_getElem? (i := 17) (by decide +kernel), List.mem_of_getElem? (i := 238) (by decide +kernel), List.mem_of_getElem? (i := 239) (by decide +kernel)⟩
theorem lw_p11 : lw_okq (⟨"LentSectors$Heads", "firstFreeOf", "(I)I"⟩, 15) := ⟨⟨by decide +kernel, by decide +kernel⟩, List.mem_of_getElem? (i := 17) (by decide +kernel), List.mem_of_getElem? (i := 242) (by decide +kernel), List.mem_of_getElem? (i := 243) (by decide +kernel)⟩
theorem lw_p12 : lw_okq (⟨"LentSectors$Heads", "isFree", "(I)Z"⟩, 15) := ⟨⟨by decide +kernel, by decide +kernel⟩, List.mem_of_getElem? (i := 17) (by decide +kernel), List.mem_of_getElem? (i := 246) (by decide +kernel), List.mem_of_getElem? (i := 247) (by decide +kernel)⟩
theorem lw_p13 : lw_okq (⟨"LentSectors$Heads", "freeOf", "(I)I"⟩, 15) := ⟨⟨by decide +kernel, by decide +kernel⟩, List.mem_of_getElem? (i := 17) (by decide +kernel), List.mem_of_getElem? (i := 250) (by decide +kernel), List.mem_of_getElem? (i := 251) (by decide +kernel)⟩
theorem lw_p14 : lw_okq (⟨"LentSectors$Heads", "lend", "(II)V"⟩, 15) := ⟨⟨by decide +kernel, by decide +kernel⟩, List.mem_of_getElem? (i := 17) (by decide +kernel), List.mem_of_getElem? (i := 254) (by decide +kernel), List.mem_of_getElem? (i := 255) (by decide +kernel)⟩
theorem lw_p15 : lw_okq (⟨"LentSectors$Heads", "release", "(I)V"⟩, 15) := ⟨⟨by decide +kernel, by decide +kernel⟩, List.mem_of_getElem? (i := 17) (by decide +kernel), List.mem_of_getElem? (i := 258) (by decide +kernel), List.mem_of_getElem? (i := 259) (by decide +kernel)⟩
def lw_privs_1 : List (MethodName × Nat) := [(⟨"LentSectors$Heads", "divide", "(II)V"⟩, 15), (⟨"LentSectors", "startTrial", "()V"⟩, 6), (⟨"LentSectors", "settle", "(I)I"⟩, 6), (⟨"LentSectors$Heads", "wearOf", "(I)I"⟩, 15), (⟨"LentSectors$Heads", "isLost", "(I)Z"⟩, 15), (⟨"LentSectors$Heads", "goTo", "(I)V"⟩, 15), (⟨"LentSectors$Heads", "stepsTo", "(I)I"⟩, 15), (⟨"LentSectors$Heads", "wearByReading", "(I)V"⟩, 15), (⟨"LentSectors$Heads", "lookAt", "(I)V"⟩, 15), (⟨"LentSectors$Heads", "isGood", "(I)Z"⟩, 15), (⟨"LentSectors$Heads", "lendableTo", "(I)I"⟩, 15), (⟨"LentSectors$Heads", "firstFreeOf", "(I)I"⟩, 15), (⟨"LentSectors$Heads", "isFree", "(I)Z"⟩, 15), (⟨"LentSectors$Heads", "freeOf", "(I)I"⟩, 15), (⟨"LentSectors$Heads", "lend", "(II)V"⟩, 15), (⟨"LentSectors$Heads", "release", "(I)V"⟩, 15)]
theorem lw_r1 : ∀ q ∈ lw_privs_1, lw_okq q := List.forall_mem_cons.mpr ⟨lw_p0, List.forall_mem_cons.mpr ⟨lw_p1, List.forall_mem_cons.mpr ⟨lw_p2, List.forall_mem_cons.mpr ⟨lw_p3, List.forall_mem_cons.mpr ⟨lw_p4, List.forall_mem_cons.mpr ⟨lw_p5, List.forall_mem_cons.mpr ⟨lw_p6, List.forall_mem_cons.mpr ⟨lw_p7, List.forall_mem_cons.mpr ⟨lw_p8, List.forall_mem_cons.mpr ⟨lw_p9, List.forall_mem_cons.mpr ⟨lw_p10, List.forall_mem_cons.mpr ⟨lw_p11, List.forall_mem_cons.mpr ⟨lw_p12, List.forall_mem_cons.mpr ⟨lw_p13, List.forall_mem_cons.mpr ⟨lw_p14, List.forall_mem_cons.mpr ⟨lw_p15, fun _ h => absurd h List.not_mem_nil⟩⟩⟩⟩⟩⟩⟩⟩⟩⟩⟩⟩⟩⟩⟩⟩
theorem lw_p16 : lw_okq (⟨"LentSectors$Heads", "moveTo", "(I)V"⟩, 15) := ⟨⟨by decide +kernel, by decide +kernel⟩, List.mem_of_getElem? (i := 17) (by decide +kernel), List.mem_of_getElem? (i := 262) (by decide +kernel), List.mem_of_getElem? (i := 263) (by decide +kernel)⟩
theorem lw_p17 : lw_okq (⟨"LentSectors$Heads", "wearByWriting", "(I)V"⟩, 15) := ⟨⟨by decide +kernel, by decide +kernel⟩, List.mem_of_getElem? (i := 17) (by decide +kernel), List.mem_of_getElem? (i := 266) (by decide +kernel), List.mem_of_getElem? (i := 267) (by decide +kernel)⟩
theorem lw_p18 : lw_okq (⟨"LentSectors$Heads", "isBad", "(I)Z"⟩, 15) := ⟨⟨by decide +kernel, by decide +kernel⟩, List.mem_of_getElem? (i := 17) (by decide +kernel), List.mem_of_getElem? (i := 270) (by decide +kernel), List.mem_of_getElem? (i := 271) (by decide +kernel)⟩
theorem lw_p19 : lw_okq (⟨"LentSectors$Heads", "lose", "(I)V"⟩, 15) := ⟨⟨by decide +kernel, by decide +kernel⟩, List.mem_of_getElem? (i := 17) (by decide +kernel), List.mem_of_getElem? (i := 274) (by decide +kernel), List.mem_of_getElem? (i := 275) (by decide +kernel)⟩
theorem lw_p20 : lw_okq (⟨"LentSectors$Heads", "lostOf", "(I)I"⟩, 15) := ⟨⟨by decide +kernel, by decide +kernel⟩, List.mem_of_getElem? (i := 17) (by decide +kernel), List.mem_of_getElem? (i := 305) (by decide +kernel), List.mem_of_getElem? (i := 306) (by decide +kernel)⟩
theorem lw_p21 : lw_okq (⟨"LentSectors$CommandText", "takeCommand", "()Z"⟩, 6) := ⟨⟨by decide +kernel, by decide +kernel⟩, List.mem_of_getElem? (i := 107) (by decide +kernel), List.mem_of_getElem? (i := 317) (by decide +kernel), List.mem_of_getElem? (i := 318) (by decide +kernel)⟩
theorem lw_p22 : lw_okq (⟨"LentSectors$CommandText", "take", "(I)Z"⟩, 6) := ⟨⟨by decide +kernel, by decide +kernel⟩, List.mem_of_getElem? (i := 107) (by decide +kernel), List.mem_of_getElem? (i := 321) (by decide +kernel), List.mem_of_getElem? (i := 322) (by decide +kernel)⟩
theorem lw_p23 : lw_okq (⟨"LentSectors$CommandText", "peek", "()I"⟩, 6) := ⟨⟨by decide +kernel, by decide +kernel⟩, List.mem_of_getElem? (i := 107) (by decide +kernel), List.mem_of_getElem? (i := 325) (by decide +kernel), List.mem_of_getElem? (i := 326) (by decide +kernel)⟩
theorem lw_p24 : lw_okq (⟨"LentSectors$CommandText", "takeNumber", "(I)I"⟩, 6) := ⟨⟨by decide +kernel, by decide +kernel⟩, List.mem_of_getElem? (i := 107) (by decide +kernel), List.mem_of_getElem? (i := 329) (by decide +kernel), List.mem_of_getElem? (i := 330) (by decide +kernel)⟩
theorem lw_p25 : lw_okq (⟨"LentSectors$CommandText", "digitAt", "(I)I"⟩, 6) := ⟨⟨by decide +kernel, by decide +kernel⟩, List.mem_of_getElem? (i := 107) (by decide +kernel), List.mem_of_getElem? (i := 333) (by decide +kernel), List.mem_of_getElem? (i := 334) (by decide +kernel)⟩
theorem lw_p26 : lw_okq (⟨"LentSectors$CommandText", "addCommand", "(II)V"⟩, 6) := ⟨⟨by decide +kernel, by decide +kernel⟩, List.mem_of_getElem? (i := 107) (by decide +kernel), List.mem_of_getElem? (i := 337) (by decide +kernel), List.mem_of_getElem? (i := 338) (by decide +kernel)⟩
theorem lw_p27 : lw_okq (⟨"LentSectors$Heads", "isLongWay", "(I)Z"⟩, 15) := ⟨⟨by decide +kernel, by decide +kernel⟩, List.mem_of_getElem? (i := 17) (by decide +kernel), List.mem_of_getElem? (i := 361) (by decide +kernel), List.mem_of_getElem? (i := 362) (by decide +kernel)⟩
theorem lw_p28 : lw_okq (⟨"LentSectors$Heads", "moveAway", "(I)V"⟩, 15) := ⟨⟨by decide +kernel, by decide +kernel⟩, List.mem_of_getElem? (i := 17) (by decide +kernel), List.mem_of_getElem? (i := 381) (by decide +kernel), List.mem_of_getElem? (i := 382) (by decide +kernel)⟩
theorem lw_p29 : lw_okq (⟨"LentSectors$Heads", "gradeOf", "(I)I"⟩, 15) := ⟨⟨by decide +kernel, by decide +kernel⟩, List.mem_of_getElem? (i := 17) (by decide +kernel), List.mem_of_getElem? (i := 442) (by decide +kernel), List.mem_of_getElem? (i := 443) (by decide +kernel)⟩
theorem lw_p30 : lw_okq (⟨"LentSectors$Heads", "leadingElsewhere", "([II)I"⟩, 15) := ⟨⟨by decide +kernel, by decide +kernel⟩, List.mem_of_getElem? (i := 17) (by decide +kernel), List.mem_of_getElem? (i := 454) (by decide +kernel), List.mem_of_getElem? (i := 455) (by decide +kernel)⟩
theorem lw_p31 : lw_okq (⟨"LentSectors$Heads", "gradedOf", "(II)I"⟩, 15) := ⟨⟨by decide +kernel, by decide +kernel⟩, List.mem_of_getElem? (i := 17) (by decide +kernel), List.mem_of_getElem? (i := 458) (by decide +kernel), List.mem_of_getElem? (i := 459) (by decide +kernel)⟩
def lw_privs_2 : List (MethodName × Nat) := [(⟨"LentSectors$Heads", "moveTo", "(I)V"⟩, 15), (⟨"LentSectors$Heads", "wearByWriting", "(I)V"⟩, 15), (⟨"LentSectors$Heads", "isBad", "(I)Z"⟩, 15), (⟨"LentSectors$Heads", "lose", "(I)V"⟩, 15), (⟨"LentSectors$Heads", "lostOf", "(I)I"⟩, 15), (⟨"LentSectors$CommandText", "takeCommand", "()Z"⟩, 6), (⟨"LentSectors$CommandText", "take", "(I)Z"⟩, 6), (⟨"LentSectors$CommandText", "peek", "()I"⟩, 6), (⟨"LentSectors$CommandText", "takeNumber", "(I)I"⟩, 6), (⟨"LentSectors$CommandText", "digitAt", "(I)I"⟩, 6), (⟨"LentSectors$CommandText", "addCommand", "(II)V"⟩, 6), (⟨"LentSectors$Heads", "isLongWay", "(I)Z"⟩, 15), (⟨"LentSectors$Heads", "moveAway", "(I)V"⟩, 15), (⟨"LentSectors$Heads", "gradeOf", "(I)I"⟩, 15), (⟨"LentSectors$Heads", "leadingElsewhere", "([II)I"⟩, 15), (⟨"LentSectors$Heads", "gradedOf", "(II)I"⟩, 15)]
theorem lw_r2 : ∀ q ∈ lw_privs_2, lw_okq q := List.forall_mem_cons.mpr ⟨lw_p16, List.forall_mem_cons.mpr ⟨lw_p17, List.forall_mem_cons.mpr ⟨lw_p18, List.forall_mem_cons.mpr ⟨lw_p19, List.forall_mem_cons.mpr ⟨lw_p20, List.forall_mem_cons.mpr ⟨lw_p21, List.forall_mem_cons.mpr ⟨lw_p22, List.forall_mem_cons.mpr ⟨lw_p23, List.forall_mem_cons.mpr ⟨lw_p24, List.forall_mem_cons.mpr ⟨lw_p25, List.forall_mem_cons.mpr ⟨lw_p26, List.forall_mem_cons.mpr ⟨lw_p27, List.forall_mem_cons.mpr ⟨lw_p28, List.forall_mem_cons.mpr ⟨lw_p29, List.forall_mem_cons.mpr ⟨lw_p30, List.forall_mem_cons.mpr ⟨lw_p31, fun _ h => absurd h List.not_mem_nil⟩⟩⟩⟩⟩⟩⟩⟩⟩⟩⟩⟩⟩⟩⟩⟩
theorem lw_p32 : lw_okq (⟨"LentSectors$Heads", "hasRank", "(I)Z"⟩, 15) := ⟨⟨by decide +kernel, by decide +kernel⟩, List.mem_of_getElem? (i := 17) (by decide +kernel), List.mem_of_getElem? (i := 482) (by decide +kernel), List.mem_of_getElem? (i := 483) (by decide +kernel)⟩
theorem lw_p33 : lw_okq (⟨"LentSectors$Heads", "rankOf", "(I)I"⟩, 15) := ⟨⟨by decide +kernel, by decide +kernel⟩, List.mem_of_getElem? (i := 17) (by decide +kernel), List.mem_of_getElem? (i := 486) (by decide +kernel), List.mem_of_getElem? (i := 487) (by decide +kernel)⟩
theorem lw_p34 : lw_okq (⟨"LentSectors$Heads", "overHeads", "(I)I"⟩, 15) := ⟨⟨by decide +kernel, by decide +kernel⟩, List.mem_of_getElem? (i := 17) (by decide +kernel), List.mem_of_getElem? (i := 502) (by decide +kernel), List.mem_of_getElem? (i := 503) (by decide +kernel)⟩
theorem lw_p35 : lw_okq (⟨"LentSectors$Heads", "longWayCount", "()I"⟩, 15) := ⟨⟨by decide +kernel, by decide +kernel⟩, List.mem_of_getElem? (i := 17) (by decide +kernel), List.mem_of_getElem? (i := 507) (by decide +kernel), List.mem_of_getElem? (i := 508) (by decide +kernel)⟩
theorem lw_p36 : lw_okq (⟨"LentSectorsModel", "record", "([I)V"⟩, 10) := ⟨⟨by decide +kernel, by decide +kernel⟩, List.mem_of_getElem? (i := 511) (by decide +kernel), List.mem_of_getElem? (i := 555) (by decide +kernel), List.mem_of_getElem? (i := 556) (by decide +kernel)⟩
theorem lw_p37 : lw_okq (⟨"LentSectorsModel", "wear", "(I)I"⟩, 10) := ⟨⟨by decide +kernel, by decide +kernel⟩, List.mem_of_getElem? (i := 511) (by decide +kernel), List.mem_of_getElem? (i := 566) (by decide +kernel), List.mem_of_getElem? (i := 567) (by decide +kernel)⟩
theorem lw_p38 : lw_okq (⟨"LentSectorsModel", "reads", "(I)I"⟩, 10) := ⟨⟨by decide +kernel, by decide +kernel⟩, List.mem_of_getElem? (i := 511) (by decide +kernel), List.mem_of_getElem? (i := 577) (by decide +kernel), List.mem_of_getElem? (i := 578) (by decide +kernel)⟩
theorem lw_p39 : lw_okq (⟨"LentSectorsModel", "isAddress", "(I)Z"⟩, 10) := ⟨⟨by decide +kernel, by decide +kernel⟩, List.mem_of_getElem? (i := 511) (by decide +kernel), List.mem_of_getElem? (i := 581) (by decide +kernel), List.mem_of_getElem? (i := 582) (by decide +kernel)⟩
theorem lw_p40 : lw_okq (⟨"LentSectorsModel", "isSpare", "(I)Z"⟩, 10) := ⟨⟨by decide +kernel, by decide +kernel⟩, List.mem_of_getElem? (i := 511) (by decide +kernel), List.mem_of_getElem? (i := 585) (by decide +kernel), List.mem_of_getElem? (i := 586) (by decide +kernel)⟩
theorem lw_p41 : lw_okq (⟨"LentSectorsModel", "isLost", "(I)Z"⟩, 10) := ⟨⟨by decide +kernel, by decide +kernel⟩, List.mem_of_getElem? (i := 511) (by decide +kernel), List.mem_of_getElem? (i := 589) (by decide +kernel), List.mem_of_getElem? (i := 590) (by decide +kernel)⟩
theorem lw_p42 : lw_okq (⟨"LentSectorsModel", "goesTo", "(I)V"⟩, 10) := ⟨⟨by decide +kernel, by decide +kernel⟩, List.mem_of_getElem? (i := 511) (by decide +kernel), List.mem_of_getElem? (i := 593) (by decide +kernel), List.mem_of_getElem? (i := 594) (by decide +kernel)⟩
theorem lw_p43 : lw_okq (⟨"LentSectorsModel", "goes", "(I)V"⟩, 10) := ⟨⟨by decide +kernel, by decide +kernel⟩, List.mem_of_getElem? (i := 511) (by decide +kernel), List.mem_of_getElem? (i := 597) (by decide +kernel), List.mem_of_getElem? (i := 598) (by decide +kernel)⟩
theorem lw_p44 : lw_okq (⟨"LentSectorsModel", "wears", "(IZ)V"⟩, 10) := ⟨⟨by decide +kernel, by decide +kernel⟩, List.mem_of_getElem? (i := 511) (by decide +kernel), List.mem_of_getElem? (i := 604) (by decide +kernel), List.mem_of_getElem? (i := 605) (by decide +kernel)⟩
theorem lw_p45 : lw_okq (⟨"LentSectorsModel", "looks", "(I)V"⟩, 10) := ⟨⟨by decide +kernel, by decide +kernel⟩, List.mem_of_getElem? (i := 511) (by decide +kernel), List.mem_of_getElem? (i := 609) (by decide +kernel), List.mem_of_getElem? (i := 610) (by decide +kernel)⟩
theorem lw_p46 : lw_okq (⟨"LentSectorsModel", "state", "(I)I"⟩, 10) := ⟨⟨by decide +kernel, by decide +kernel⟩, List.mem_of_getElem? (i := 511) (by decide +kernel), List.mem_of_getElem? (i := 613) (by decide +kernel), List.mem_of_getElem? (i := 614) (by decide +kernel)⟩
theorem lw_p47 : lw_okq (⟨"LentSectorsModel", "lends", "(I)I"⟩, 10) := ⟨⟨by decide +kernel, by decide +kernel⟩, List.mem_of_getElem? (i := 511) (by decide +kernel), List.mem_of_getElem? (i := 617) (by decide +kernel), List.mem_of_getElem? (i := 618) (by decide +kernel)⟩
def lw_privs_3 : List (MethodName × Nat) := [(⟨"LentSectors$Heads", "hasRank", "(I)Z"⟩, 15), (⟨"LentSectors$Heads", "rankOf", "(I)I"⟩, 15), (⟨"LentSectors$Heads", "overHeads", "(I)I"⟩, 15), (⟨"LentSectors$Heads", "longWayCount", "()I"⟩, 15), (⟨"LentSectorsModel", "record", "([I)V"⟩, 10), (⟨"LentSectorsModel", "wear", "(I)I"⟩, 10), (⟨"LentSectorsModel", "reads", "(I)I"⟩, 10), (⟨"LentSectorsModel", "isAddress", "(I)Z"⟩, 10), (⟨"LentSectorsModel", "isSpare", "(I)Z"⟩, 10), (⟨"LentSectorsModel", "isLost", "(I)Z"⟩, 10), (⟨"LentSectorsModel", "goesTo", "(I)V"⟩, 10), (⟨"LentSectorsModel", "goes", "(I)V"⟩, 10), (⟨"LentSectorsModel", "wears", "(IZ)V"⟩, 10), (⟨"LentSectorsModel", "looks", "(I)V"⟩, 10), (⟨"LentSectorsModel", "state", "(I)I"⟩, 10), (⟨"LentSectorsModel", "lends", "(I)I"⟩, 10)]
theorem lw_r3 : ∀ q ∈ lw_privs_3, lw_okq q := List.forall_mem_cons.mpr ⟨lw_p32, List.forall_mem_cons.mpr ⟨lw_p33, List.forall_mem_cons.mpr ⟨lw_p34, List.forall_mem_cons.mpr ⟨lw_p35, List.forall_mem_cons.mpr ⟨lw_p36, List.forall_mem_cons.mpr ⟨lw_p37, List.forall_mem_cons.mpr ⟨lw_p38, List.forall_mem_cons.mpr ⟨lw_p39, List.forall_mem_cons.mpr ⟨lw_p40, List.forall_mem_cons.mpr ⟨lw_p41, List.forall_mem_cons.mpr ⟨lw_p42, List.forall_mem_cons.mpr ⟨lw_p43, List.forall_mem_cons.mpr ⟨lw_p44, List.forall_mem_cons.mpr ⟨lw_p45, List.forall_mem_cons.mpr ⟨lw_p46, List.forall_mem_cons.mpr ⟨lw_p47, fun _ h => absurd h List.not_mem_nil⟩⟩⟩⟩⟩⟩⟩⟩⟩⟩⟩⟩⟩⟩⟩⟩
theorem lw_p48 : lw_okq (⟨"LentSectorsModel", "firstFree", "(I)I"⟩, 10) := ⟨⟨by decide +kernel, by decide +kernel⟩, List.mem_of_getElem? (i := 511) (by decide +kernel), List.mem_of_getElem? (i := 621) (by decide +kernel), List.mem_of_getElem? (i := 622) (by decide +kernel)⟩
theorem lw_p49 : lw_okq (⟨"LentSectorsModel", "isFree", "(I)Z"⟩, 10) := ⟨⟨by decide +kernel, by decide +kernel⟩, List.mem_of_getElem? (i := 511) (by decide +kernel), List.mem_of_getElem? (i := 625) (by decide +kernel), List.mem_of_getElem? (i := 626) (by decide +kernel)⟩
theorem lw_p50 : lw_okq (⟨"LentSectorsModel", "serves", "(I)I"⟩, 10) := ⟨⟨by decide +kernel, by decide +kernel⟩, List.mem_of_getElem? (i := 511) (by decide +kernel), List.mem_of_getElem? (i := 629) (by decide +kernel), List.mem_of_getElem? (i := 630) (by decide +kernel)⟩
theorem lw_p51 : lw_okq (⟨"LentSectorsModel", "frees", "(I)I"⟩, 10) := ⟨⟨by decide +kernel, by decide +kernel⟩, List.mem_of_getElem? (i := 511) (by decide +kernel), List.mem_of_getElem? (i := 633) (by decide +kernel), List.mem_of_getElem? (i := 634) (by decide +kernel)⟩
theorem lw_p52 : lw_okq (⟨"LentSectorsModel", "writes", "(II)I"⟩, 10) := ⟨⟨by decide +kernel, by decide +kernel⟩, List.mem_of_getElem? (i := 511) (by decide +kernel), List.mem_of_getElem? (i := 641) (by decide +kernel), List.mem_of_getElem? (i := 642) (by decide +kernel)⟩
theorem lw_p53 : lw_okq (⟨"LentSectorsModel", "copiesOne", "(II)Z"⟩, 10) := ⟨⟨by decide +kernel, by decide +kernel⟩, List.mem_of_getElem? (i := 511) (by decide +kernel), List.mem_of_getElem? (i := 649) (by decide +kernel), List.mem_of_getElem? (i := 650) (by decide +kernel)⟩
theorem lw_p54 : lw_okq (⟨"LentSectorsModel", "lost", "(I)I"⟩, 10) := ⟨⟨by decide +kernel, by decide +kernel⟩, List.mem_of_getElem? (i := 511) (by decide +kernel), List.mem_of_getElem? (i := 657) (by decide +kernel), List.mem_of_getElem? (i := 658) (by decide +kernel)⟩
theorem lw_p55 : lw_okq (⟨"LentSectorsModel", "givesUp", "(I)I"⟩, 10) := ⟨⟨by decide +kernel, by decide +kernel⟩, List.mem_of_getElem? (i := 511) (by decide +kernel), List.mem_of_getElem? (i := 669) (by decide +kernel), List.mem_of_getElem? (i := 670) (by decide +kernel)⟩
theorem lw_p56 : lw_okq (⟨"LentSectorsModel", "commands", "()I"⟩, 10) := ⟨⟨by decide +kernel, by decide +kernel⟩, List.mem_of_getElem? (i := 511) (by decide +kernel), List.mem_of_getElem? (i := 677) (by decide +kernel), List.mem_of_getElem? (i := 678) (by decide +kernel)⟩
theorem lw_p57 : lw_okq (⟨"LentSectorsModel", "command", "(Z)I"⟩, 10) := ⟨⟨by decide +kernel, by decide +kernel⟩, List.mem_of_getElem? (i := 511) (by decide +kernel), List.mem_of_getElem? (i := 681) (by decide +kernel), List.mem_of_getElem? (i := 682) (by decide +kernel)⟩
theorem lw_p58 : lw_okq (⟨"LentSectorsModel", "stands", "(I)Z"⟩, 10) := ⟨⟨by decide +kernel, by decide +kernel⟩, List.mem_of_getElem? (i := 511) (by decide +kernel), List.mem_of_getElem? (i := 685) (by decide +kernel), List.mem_of_getElem? (i := 686) (by decide +kernel)⟩
theorem lw_p59 : lw_okq (⟨"LentSectorsModel", "number", "(I)I"⟩, 10) := ⟨⟨by decide +kernel, by decide +kernel⟩, List.mem_of_getElem? (i := 511) (by decide +kernel), List.mem_of_getElem? (i := 689) (by decide +kernel), List.mem_of_getElem? (i := 690) (by decide +kernel)⟩
theorem lw_p60 : lw_okq (⟨"LentSectorsModel", "steps", "(I)I"⟩, 10) := ⟨⟨by decide +kernel, by decide +kernel⟩, List.mem_of_getElem? (i := 511) (by decide +kernel), List.mem_of_getElem? (i := 717) (by decide +kernel), List.mem_of_getElem? (i := 718) (by decide +kernel)⟩
theorem lw_p61 : lw_okq (⟨"LentSectorsModel", "across", "(II)I"⟩, 10) := ⟨⟨by decide +kernel, by decide +kernel⟩, List.mem_of_getElem? (i := 511) (by decide +kernel), List.mem_of_getElem? (i := 729) (by decide +kernel), List.mem_of_getElem? (i := 730) (by decide +kernel)⟩
theorem lw_p62 : lw_okq (⟨"LentSectorsModel", "inState", "(II)I"⟩, 10) := ⟨⟨by decide +kernel, by decide +kernel⟩, List.mem_of_getElem? (i := 511) (by decide +kernel), List.mem_of_getElem? (i := 733) (by decide +kernel), List.mem_of_getElem? (i := 734) (by decide +kernel)⟩
theorem lw_p63 : lw_okq (⟨"LentSectorsModel", "ahead", "(I)I"⟩, 10) := ⟨⟨by decide +kernel, by decide +kernel⟩, List.mem_of_getElem? (i := 511) (by decide +kernel), List.mem_of_getElem? (i := 749) (by decide +kernel), List.mem_of_getElem? (i := 750) (by decide +kernel)⟩
def lw_privs_4 : List (MethodName × Nat) := [(⟨"LentSectorsModel", "firstFree", "(I)I"⟩, 10), (⟨"LentSectorsModel", "isFree", "(I)Z"⟩, 10), (⟨"LentSectorsModel", "serves", "(I)I"⟩, 10), (⟨"LentSectorsModel", "frees", "(I)I"⟩, 10), (⟨"LentSectorsModel", "writes", "(II)I"⟩, 10), (⟨"LentSectorsModel", "copiesOne", "(II)Z"⟩, 10), (⟨"LentSectorsModel", "lost", "(I)I"⟩, 10), (⟨"LentSectorsModel", "givesUp", "(I)I"⟩, 10), (⟨"LentSectorsModel", "commands", "()I"⟩, 10), (⟨"LentSectorsModel", "command", "(Z)I"⟩, 10), (⟨"LentSectorsModel", "stands", "(I)Z"⟩, 10), (⟨"LentSectorsModel", "number", "(I)I"⟩, 10), (⟨"LentSectorsModel", "steps", "(I)I"⟩, 10), (⟨"LentSectorsModel", "across", "(II)I"⟩, 10), (⟨"LentSectorsModel", "inState", "(II)I"⟩, 10), (⟨"LentSectorsModel", "ahead", "(I)I"⟩, 10)]
theorem lw_r4 : ∀ q ∈ lw_privs_4, lw_okq q := List.forall_mem_cons.mpr ⟨lw_p48, List.forall_mem_cons.mpr ⟨lw_p49, List.forall_mem_cons.mpr ⟨lw_p50, List.forall_mem_cons.mpr ⟨lw_p51, List.forall_mem_cons.mpr ⟨lw_p52, List.forall_mem_cons.mpr ⟨lw_p53, List.forall_mem_cons.mpr ⟨lw_p54, List.forall_mem_cons.mpr ⟨lw_p55, List.forall_mem_cons.mpr ⟨lw_p56, List.forall_mem_cons.mpr ⟨lw_p57, List.forall_mem_cons.mpr ⟨lw_p58, List.forall_mem_cons.mpr ⟨lw_p59, List.forall_mem_cons.mpr ⟨lw_p60, List.forall_mem_cons.mpr ⟨lw_p61, List.forall_mem_cons.mpr ⟨lw_p62, List.forall_mem_cons.mpr ⟨lw_p63, fun _ h => absurd h List.not_mem_nil⟩⟩⟩⟩⟩⟩⟩⟩⟩⟩⟩⟩⟩⟩⟩⟩
def lw_privs : List (MethodName × Nat) := lw_privs_1 ++ (lw_privs_2 ++ (lw_privs_3 ++ (lw_privs_4)))
def lw_tbl : List Cond := k2_sels lw_privs ++ tables_1
theorem lw_privs_ok : ∀ q ∈ lw_privs, lw_okq q := by
  show ∀ q ∈ lw_privs_1 ++ (lw_privs_2 ++ (lw_privs_3 ++ (lw_privs_4))), lw_okq q
  exact List.forall_mem_append.mpr ⟨lw_r1, List.forall_mem_append.mpr ⟨lw_r2, List.forall_mem_append.mpr ⟨lw_r3, lw_r4⟩⟩⟩
-- ===== end of PART A; then your names; then what follows =====
/-! ===== BEGIN words of one list among another's, by their places ===== -/
theorem goodIn_r {big : List Cond} (ws : List Cond) (ps : List Nat) (hp : ws = ps.filterMap (fun i => big[i]?)) (h : ws.all goodWord = true) : GoodIn big ws := by
  intro w hw
  have h1 := List.all_eq_true.mp h w hw
  rw [hp] at hw
  obtain ⟨i, -, hi⟩ := List.mem_filterMap.mp hw
  have hm : w ∈ big := by first | exact List.mem_of_getElem? hi | exact List.getElem?_mem hi
  exact ⟨hm, good_of_word h1⟩
theorem goodIn_app {big a b : List Cond} (ha : GoodIn big a) (hb : GoodIn big b) : GoodIn big (a ++ b) := fun w h => (List.mem_append.mp h).elim (ha w) (hb w)
theorem goodIn_ca {big a b : List Cond} {c : Cond} (ha : GoodIn big (c :: a)) (hb : GoodIn big b) : GoodIn big (c :: (a ++ b)) := fun w h => (List.mem_cons.mp h).elim (fun e => ha w (List.mem_cons.mpr (Or.inl e))) (fun h => (List.mem_append.mp h).elim (fun h => ha w (List.mem_cons.mpr (Or.inr h))) (hb w))
theorem goodIn_sub {big ws : List Cond} (hm : ∀ w ∈ ws, w ∈ big) (h : ws.all goodWord = true) : GoodIn big ws := fun w hw => ⟨hm w hw, good_of_word (List.all_eq_true.mp h w hw)⟩
/-! ===== END ===== -/

/-! ===== BEGIN printed: names, fields, word lists, decode rows ===== -/
def RX0 : String := "LentSectors$CommandText"
def TX0 : u_T := fun k => match k with
  | 0 => ("LentSectors$CommandText", "codes", "[I", true)
  | 1 => ("LentSectors$CommandText", "length", "I", false)
  | 2 => ("LentSectors$CommandText", "sectors", "[I", true)
  | 3 => ("LentSectors$CommandText", "values", "[I", true)
  | 4 => ("LentSectors$CommandText", "commands", "I", false)
  | _ => ("LentSectors$CommandText", "at", "I", false)
def tyX0 : Nat → FieldType := fun k => match k with
  | 0 => .array .int
  | 1 => .int
  | 2 => .array .int
  | 3 => .array .int
  | 4 => .int
  | _ => .int
abbrev wsX00 : List Cond := u_ws RX0 TX0 6
theorem nmX0 : ∀ a, a < 6 → ∀ b, b < 6 → a ≠ b → (TX0 a).2.1 ≠ (TX0 b).2.1 := by decide +kernel
theorem tyX0_ok : ∀ k, k < 6 → parseFieldDescriptor (TX0 k).2.2.1 = some (tyX0 k) := by decide +kernel
abbrev cX0_init : ByteArray := prog_2_method_1_code
def yX0_init : MethodName := ⟨RX0, "<init>", "()V"⟩
abbrev cX0_length : ByteArray := prog_2_method_2_code
def yX0_length : MethodName := ⟨RX0, "length", "()I"⟩
abbrev cX0_append : ByteArray := prog_2_method_3_code
def yX0_append : MethodName := ⟨RX0, "append", "(I)I"⟩
abbrev cX0_empty : ByteArray := prog_2_method_4_code
def yX0_empty : MethodName := ⟨RX0, "empty", "()I"⟩
abbrev cX0_commandCount : ByteArray := prog_2_method_5_code
def yX0_commandCount : MethodName := ⟨RX0, "commandCount", "()I"⟩
abbrev cX0_commandSector : ByteArray := prog_2_method_6_code
def yX0_commandSector : MethodName := ⟨RX0, "commandSector", "(I)I"⟩
abbrev cX0_commandValue : ByteArray := prog_2_method_7_code
def yX0_commandValue : MethodName := ⟨RX0, "commandValue", "(I)I"⟩
abbrev cX0_parse : ByteArray := prog_2_method_8_code
def yX0_parse : MethodName := ⟨RX0, "parse", "()I"⟩
abbrev cX0_takeCommand : ByteArray := prog_2_method_9_code
def yX0_takeCommand : MethodName := ⟨RX0, "takeCommand", "()Z"⟩
abbrev cX0_addCommand : ByteArray := prog_2_method_10_code
def yX0_addCommand : MethodName := ⟨RX0, "addCommand", "(II)V"⟩
abbrev cX0_takeNumber : ByteArray := prog_2_method_11_code
def yX0_takeNumber : MethodName := ⟨RX0, "takeNumber", "(I)I"⟩
abbrev cX0_digitAt : ByteArray := prog_2_method_12_code
def yX0_digitAt : MethodName := ⟨RX0, "digitAt", "(I)I"⟩
abbrev cX0_peek : ByteArray := prog_2_method_13_code
def yX0_peek : MethodName := ⟨RX0, "peek", "()I"⟩
abbrev cX0_take : ByteArray := prog_2_method_14_code
def yX0_take : MethodName := ⟨RX0, "take", "(I)Z"⟩
def RX1 : String := "LentSectors$Heads"
def TX1 : u_T := fun k => match k with
  | 0 => ("LentSectors$Heads", "limit", "I", false)
  | 1 => ("LentSectors$Heads", "ageing", "[I", true)
  | 2 => ("LentSectors$Heads", "spares", "[I", true)
  | 3 => ("LentSectors$Heads", "givenUp", "[Z", true)
  | 4 => ("LentSectors$Heads", "wear", "[I", true)
  | 5 => ("LentSectors$Heads", "value", "[I", true)
  | 6 => ("LentSectors$Heads", "rescuesOf", "[I", true)
  | 7 => ("LentSectors$Heads", "server", "[I", true)
  | 8 => ("LentSectors$Heads", "client", "[I", true)
  | 9 => ("LentSectors$Heads", "arm", "I", false)
  | 10 => ("LentSectors$Heads", "steps", "I", false)
  | 11 => ("LentSectors$Heads", "rescues", "I", false)
  | 12 => ("LentSectors$Heads", "losses", "I", false)
  | 13 => ("LentSectors$Heads", "reads", "I", false)
  | _ => ("LentSectors$Heads", "writes", "I", false)
def tyX1 : Nat → FieldType := fun k => match k with
  | 0 => .int
  | 1 => .array .int
  | 2 => .array .int
  | 3 => .array .boolean
  | 4 => .array .int
  | 5 => .array .int
  | 6 => .array .int
  | 7 => .array .int
  | 8 => .array .int
  | 9 => .int
  | 10 => .int
  | 11 => .int
  | 12 => .int
  | 13 => .int
  | _ => .int
abbrev wsX10 : List Cond := u_ws RX1 TX1 15
theorem nmX1 : ∀ a, a < 15 → ∀ b, b < 15 → a ≠ b → (TX1 a).2.1 ≠ (TX1 b).2.1 := by decide +kernel
theorem tyX1_ok : ∀ k, k < 15 → parseFieldDescriptor (TX1 k).2.2.1 = some (tyX1 k) := by decide +kernel
abbrev cX1_init : ByteArray := prog_3_method_1_code
def yX1_init : MethodName := ⟨RX1, "<init>", "()V"⟩
abbrev cX1_takeOver : ByteArray := prog_3_method_2_code
def yX1_takeOver : MethodName := ⟨RX1, "takeOver", "(LLentSectors$Heads;)V"⟩
abbrev cX1_divide : ByteArray := prog_3_method_3_code
def yX1_divide : MethodName := ⟨RX1, "divide", "(II)V"⟩
abbrev cX1_isAddress : ByteArray := prog_3_method_4_code
def yX1_isAddress : MethodName := ⟨RX1, "isAddress", "(I)Z"⟩
abbrev cX1_isGivenUp : ByteArray := prog_3_method_5_code
def yX1_isGivenUp : MethodName := ⟨RX1, "isGivenUp", "(I)Z"⟩
abbrev cX1_othersAreGivenUp : ByteArray := prog_3_method_6_code
def yX1_othersAreGivenUp : MethodName := ⟨RX1, "othersAreGivenUp", "(I)Z"⟩
abbrev cX1_stepsSoFar : ByteArray := prog_3_method_7_code
def yX1_stepsSoFar : MethodName := ⟨RX1, "stepsSoFar", "()I"⟩
abbrev cX1_isLost : ByteArray := prog_3_method_8_code
def yX1_isLost : MethodName := ⟨RX1, "isLost", "(I)Z"⟩
abbrev cX1_isLongWay : ByteArray := prog_3_method_9_code
def yX1_isLongWay : MethodName := ⟨RX1, "isLongWay", "(I)Z"⟩
abbrev cX1_isGood : ByteArray := prog_3_method_10_code
def yX1_isGood : MethodName := ⟨RX1, "isGood", "(I)Z"⟩
abbrev cX1_isBad : ByteArray := prog_3_method_11_code
def yX1_isBad : MethodName := ⟨RX1, "isBad", "(I)Z"⟩
abbrev cX1_gradeOf : ByteArray := prog_3_method_12_code
def yX1_gradeOf : MethodName := ⟨RX1, "gradeOf", "(I)I"⟩
abbrev cX1_isFree : ByteArray := prog_3_method_13_code
def yX1_isFree : MethodName := ⟨RX1, "isFree", "(I)Z"⟩
abbrev cX1_freeOf : ByteArray := prog_3_method_14_code
def yX1_freeOf : MethodName := ⟨RX1, "freeOf", "(I)I"⟩
abbrev cX1_firstFreeOf : ByteArray := prog_3_method_15_code
def yX1_firstFreeOf : MethodName := ⟨RX1, "firstFreeOf", "(I)I"⟩
abbrev cX1_lendableTo : ByteArray := prog_3_method_16_code
def yX1_lendableTo : MethodName := ⟨RX1, "lendableTo", "(I)I"⟩
abbrev cX1_stepsTo : ByteArray := prog_3_method_17_code
def yX1_stepsTo : MethodName := ⟨RX1, "stepsTo", "(I)I"⟩
abbrev cX1_changeLimit : ByteArray := prog_3_method_18_code
def yX1_changeLimit : MethodName := ⟨RX1, "changeLimit", "(I)I"⟩
abbrev cX1_changeAgeing : ByteArray := prog_3_method_19_code
def yX1_changeAgeing : MethodName := ⟨RX1, "changeAgeing", "(II)I"⟩
abbrev cX1_changeSpares : ByteArray := prog_3_method_20_code
def yX1_changeSpares : MethodName := ⟨RX1, "changeSpares", "(II)I"⟩
abbrev cX1_readAt : ByteArray := prog_3_method_21_code
def yX1_readAt : MethodName := ⟨RX1, "readAt", "(I)I"⟩
abbrev cX1_writeAt : ByteArray := prog_3_method_22_code
def yX1_writeAt : MethodName := ⟨RX1, "writeAt", "(II)I"⟩
abbrev cX1_copyRow : ByteArray := prog_3_method_23_code
def yX1_copyRow : MethodName := ⟨RX1, "copyRow", "(III)I"⟩
abbrev cX1_testHead : ByteArray := prog_3_method_24_code
def yX1_testHead : MethodName := ⟨RX1, "testHead", "(I)I"⟩
abbrev cX1_lookAt : ByteArray := prog_3_method_25_code
def yX1_lookAt : MethodName := ⟨RX1, "lookAt", "(I)V"⟩
abbrev cX1_lend : ByteArray := prog_3_method_26_code
def yX1_lend : MethodName := ⟨RX1, "lend", "(II)V"⟩
abbrev cX1_lose : ByteArray := prog_3_method_27_code
def yX1_lose : MethodName := ⟨RX1, "lose", "(I)V"⟩
abbrev cX1_release : ByteArray := prog_3_method_28_code
def yX1_release : MethodName := ⟨RX1, "release", "(I)V"⟩
abbrev cX1_wearByReading : ByteArray := prog_3_method_29_code
def yX1_wearByReading : MethodName := ⟨RX1, "wearByReading", "(I)V"⟩
abbrev cX1_wearByWriting : ByteArray := prog_3_method_30_code
def yX1_wearByWriting : MethodName := ⟨RX1, "wearByWriting", "(I)V"⟩
abbrev cX1_goTo : ByteArray := prog_3_method_31_code
def yX1_goTo : MethodName := ⟨RX1, "goTo", "(I)V"⟩
abbrev cX1_moveTo : ByteArray := prog_3_method_32_code
def yX1_moveTo : MethodName := ⟨RX1, "moveTo", "(I)V"⟩
abbrev cX1_giveBackAt : ByteArray := prog_3_method_33_code
def yX1_giveBackAt : MethodName := ⟨RX1, "giveBackAt", "(I)I"⟩
abbrev cX1_vacate : ByteArray := prog_3_method_34_code
def yX1_vacate : MethodName := ⟨RX1, "vacate", "(I)I"⟩
abbrev cX1_moveAway : ByteArray := prog_3_method_35_code
def yX1_moveAway : MethodName := ⟨RX1, "moveAway", "(I)V"⟩
abbrev cX1_tellAddress : ByteArray := prog_3_method_36_code
def yX1_tellAddress : MethodName := ⟨RX1, "tellAddress", "(II)I"⟩
abbrev cX1_tellSector : ByteArray := prog_3_method_37_code
def yX1_tellSector : MethodName := ⟨RX1, "tellSector", "(II)I"⟩
abbrev cX1_tellHead : ByteArray := prog_3_method_38_code
def yX1_tellHead : MethodName := ⟨RX1, "tellHead", "(II)I"⟩
abbrev cX1_tellWhole : ByteArray := prog_3_method_39_code
def yX1_tellWhole : MethodName := ⟨RX1, "tellWhole", "(I)I"⟩
abbrev cX1_readsUntilChange : ByteArray := prog_3_method_40_code
def yX1_readsUntilChange : MethodName := ⟨RX1, "readsUntilChange", "(I)I"⟩
abbrev cX1_addressOfRank : ByteArray := prog_3_method_41_code
def yX1_addressOfRank : MethodName := ⟨RX1, "addressOfRank", "(I)I"⟩
abbrev cX1_hasRank : ByteArray := prog_3_method_42_code
def yX1_hasRank : MethodName := ⟨RX1, "hasRank", "(I)Z"⟩
abbrev cX1_rankOf : ByteArray := prog_3_method_43_code
def yX1_rankOf : MethodName := ⟨RX1, "rankOf", "(I)I"⟩
abbrev cX1_leadingElsewhere : ByteArray := prog_3_method_44_code
def yX1_leadingElsewhere : MethodName := ⟨RX1, "leadingElsewhere", "([II)I"⟩
abbrev cX1_lostOf : ByteArray := prog_3_method_45_code
def yX1_lostOf : MethodName := ⟨RX1, "lostOf", "(I)I"⟩
abbrev cX1_wearOf : ByteArray := prog_3_method_46_code
def yX1_wearOf : MethodName := ⟨RX1, "wearOf", "(I)I"⟩
abbrev cX1_gradedOf : ByteArray := prog_3_method_47_code
def yX1_gradedOf : MethodName := ⟨RX1, "gradedOf", "(II)I"⟩
abbrev cX1_overHeads : ByteArray := prog_3_method_48_code
def yX1_overHeads : MethodName := ⟨RX1, "overHeads", "(I)I"⟩
abbrev cX1_longWayCount : ByteArray := prog_3_method_49_code
def yX1_longWayCount : MethodName := ⟨RX1, "longWayCount", "()I"⟩
def RX2 : String := "LentSectors$History"
def TX2 : u_T := fun k => match k with
  | 0 => ("LentSectors$History", "rooms", "[LLentSectors$Heads;", true)
  | 1 => ("LentSectors$History", "oldest", "I", false)
  | _ => ("LentSectors$History", "many", "I", false)
def tyX2 : Nat → FieldType := fun k => match k with
  | 0 => .array (.object "LentSectors$Heads")
  | 1 => .int
  | _ => .int
abbrev wsX20 : List Cond := u_ws RX2 TX2 3
theorem nmX2 : ∀ a, a < 3 → ∀ b, b < 3 → a ≠ b → (TX2 a).2.1 ≠ (TX2 b).2.1 := by decide +kernel
theorem tyX2_ok : ∀ k, k < 3 → parseFieldDescriptor (TX2 k).2.2.1 = some (tyX2 k) := by decide +kernel
abbrev cX2_init : ByteArray := prog_4_method_1_code
def yX2_init : MethodName := ⟨RX2, "<init>", "()V"⟩
abbrev cX2_states : ByteArray := prog_4_method_2_code
def yX2_states : MethodName := ⟨RX2, "states", "()I"⟩
abbrev cX2_record : ByteArray := prog_4_method_3_code
def yX2_record : MethodName := ⟨RX2, "record", "(LLentSectors$Heads;)V"⟩
abbrev cX2_takeBack : ByteArray := prog_4_method_4_code
def yX2_takeBack : MethodName := ⟨RX2, "takeBack", "(LLentSectors$Heads;)V"⟩
def RX3 : String := "LentSectors"
def TX3 : u_T := fun k => match k with
  | 0 => ("LentSectors", "now", "LLentSectors$Heads;", true)
  | 1 => ("LentSectors", "trial", "LLentSectors$Heads;", true)
  | 2 => ("LentSectors", "kept", "LLentSectors$Heads;", true)
  | 3 => ("LentSectors", "history", "LLentSectors$History;", true)
  | 4 => ("LentSectors", "text", "LLentSectors$CommandText;", true)
  | _ => ("LentSectors", "hasKept", "Z", false)
def tyX3 : Nat → FieldType := fun k => match k with
  | 0 => .object "LentSectors$Heads"
  | 1 => .object "LentSectors$Heads"
  | 2 => .object "LentSectors$Heads"
  | 3 => .object "LentSectors$History"
  | 4 => .object "LentSectors$CommandText"
  | _ => .boolean
abbrev wsX30 : List Cond := u_ws RX3 TX3 6
theorem nmX3 : ∀ a, a < 6 → ∀ b, b < 6 → a ≠ b → (TX3 a).2.1 ≠ (TX3 b).2.1 := by decide +kernel
theorem tyX3_ok : ∀ k, k < 6 → parseFieldDescriptor (TX3 k).2.2.1 = some (tyX3 k) := by decide +kernel
abbrev cX3_init : ByteArray := prog_1_method_1_code
def yX3_init : MethodName := ⟨RX3, "<init>", "()V"⟩
abbrev cX3_setLimit : ByteArray := prog_1_method_2_code
def yX3_setLimit : MethodName := ⟨RX3, "setLimit", "(I)I"⟩
abbrev cX3_setHead : ByteArray := prog_1_method_3_code
def yX3_setHead : MethodName := ⟨RX3, "setHead", "(IZI)I"⟩
abbrev cX3_read : ByteArray := prog_1_method_4_code
def yX3_read : MethodName := ⟨RX3, "read", "(I)I"⟩
abbrev cX3_write : ByteArray := prog_1_method_5_code
def yX3_write : MethodName := ⟨RX3, "write", "(II)I"⟩
abbrev cX3_copy : ByteArray := prog_1_method_6_code
def yX3_copy : MethodName := ⟨RX3, "copy", "(III)I"⟩
abbrev cX3_test : ByteArray := prog_1_method_7_code
def yX3_test : MethodName := ⟨RX3, "test", "(I)I"⟩
abbrev cX3_perform : ByteArray := prog_1_method_8_code
def yX3_perform : MethodName := ⟨RX3, "perform", "()I"⟩
abbrev cX3_giveBack : ByteArray := prog_1_method_9_code
def yX3_giveBack : MethodName := ⟨RX3, "giveBack", "(I)I"⟩
abbrev cX3_giveUp : ByteArray := prog_1_method_10_code
def yX3_giveUp : MethodName := ⟨RX3, "giveUp", "(I)I"⟩
abbrev cX3_type : ByteArray := prog_1_method_11_code
def yX3_type : MethodName := ⟨RX3, "type", "(C)I"⟩
abbrev cX3_clearText : ByteArray := prog_1_method_12_code
def yX3_clearText : MethodName := ⟨RX3, "clearText", "()I"⟩
abbrev cX3_undo : ByteArray := prog_1_method_13_code
def yX3_undo : MethodName := ⟨RX3, "undo", "()I"⟩
abbrev cX3_keep : ByteArray := prog_1_method_14_code
def yX3_keep : MethodName := ⟨RX3, "keep", "()I"⟩
abbrev cX3_restore : ByteArray := prog_1_method_15_code
def yX3_restore : MethodName := ⟨RX3, "restore", "()I"⟩
abbrev cX3_address : ByteArray := prog_1_method_16_code
def yX3_address : MethodName := ⟨RX3, "address", "(II)I"⟩
abbrev cX3_sector : ByteArray := prog_1_method_17_code
def yX3_sector : MethodName := ⟨RX3, "sector", "(II)I"⟩
abbrev cX3_head : ByteArray := prog_1_method_18_code
def yX3_head : MethodName := ⟨RX3, "head", "(II)I"⟩
abbrev cX3_readsLeft : ByteArray := prog_1_method_19_code
def yX3_readsLeft : MethodName := ⟨RX3, "readsLeft", "(I)I"⟩
abbrev cX3_wouldLose : ByteArray := prog_1_method_20_code
def yX3_wouldLose : MethodName := ⟨RX3, "wouldLose", "(I)I"⟩
abbrev cX3_worst : ByteArray := prog_1_method_21_code
def yX3_worst : MethodName := ⟨RX3, "worst", "(I)I"⟩
abbrev cX3_count : ByteArray := prog_1_method_22_code
def yX3_count : MethodName := ⟨RX3, "count", "(I)I"⟩
abbrev cX3_startTrial : ByteArray := prog_1_method_23_code
def yX3_startTrial : MethodName := ⟨RX3, "startTrial", "()V"⟩
abbrev cX3_settle : ByteArray := prog_1_method_24_code
def yX3_settle : MethodName := ⟨RX3, "settle", "(I)I"⟩
abbrev cX3_isHead : ByteArray := prog_1_method_25_code
def yX3_isHead : MethodName := ⟨RX3, "isHead", "(I)Z"⟩
abbrev cX3_isSector : ByteArray := prog_1_method_26_code
def yX3_isSector : MethodName := ⟨RX3, "isSector", "(I)Z"⟩
abbrev cX3_headOf : ByteArray := prog_1_method_27_code
def yX3_headOf : MethodName := ⟨RX3, "headOf", "(I)I"⟩
abbrev cX3_placeOf : ByteArray := prog_1_method_28_code
def yX3_placeOf : MethodName := ⟨RX3, "placeOf", "(I)I"⟩
abbrev cX3_stepsBetween : ByteArray := prog_1_method_29_code
def yX3_stepsBetween : MethodName := ⟨RX3, "stepsBetween", "(II)I"⟩
def RX4 : String := "LentSectorsModel"
def TX4 : u_T := fun k => match k with
  | 0 => ("LentSectorsModel", "now", "[I", true)
  | 1 => ("LentSectorsModel", "spare", "[I", true)
  | 2 => ("LentSectorsModel", "pair", "[I", true)
  | 3 => ("LentSectorsModel", "slot", "[I", true)
  | 4 => ("LentSectorsModel", "history", "[I", true)
  | 5 => ("LentSectorsModel", "text", "[I", true)
  | 6 => ("LentSectorsModel", "kept", "I", false)
  | 7 => ("LentSectorsModel", "length", "I", false)
  | 8 => ("LentSectorsModel", "isFilled", "Z", false)
  | _ => ("LentSectorsModel", "at", "I", false)
def tyX4 : Nat → FieldType := fun k => match k with
  | 0 => .array .int
  | 1 => .array .int
  | 2 => .array .int
  | 3 => .array .int
  | 4 => .array .int
  | 5 => .array .int
  | 6 => .int
  | 7 => .int
  | 8 => .boolean
  | _ => .int
abbrev wsX40 : List Cond := u_ws RX4 TX4 10
theorem nmX4 : ∀ a, a < 10 → ∀ b, b < 10 → a ≠ b → (TX4 a).2.1 ≠ (TX4 b).2.1 := by decide +kernel
theorem tyX4_ok : ∀ k, k < 10 → parseFieldDescriptor (TX4 k).2.2.1 = some (tyX4 k) := by decide +kernel
abbrev cX4_init : ByteArray := prog_6_method_1_code
def yX4_init : MethodName := ⟨RX4, "<init>", "()V"⟩
abbrev cX4_in : ByteArray := prog_6_method_2_code
def yX4_in : MethodName := ⟨RX4, "in", "(III)Z"⟩
abbrev cX4_copies : ByteArray := prog_6_method_3_code
def yX4_copies : MethodName := ⟨RX4, "copies", "([I[I)V"⟩
abbrev cX4_record : ByteArray := prog_6_method_4_code
def yX4_record : MethodName := ⟨RX4, "record", "([I)V"⟩
abbrev cX4_isHead : ByteArray := prog_6_method_5_code
def yX4_isHead : MethodName := ⟨RX4, "isHead", "(I)Z"⟩
abbrev cX4_isSpare : ByteArray := prog_6_method_6_code
def yX4_isSpare : MethodName := ⟨RX4, "isSpare", "(I)Z"⟩
abbrev cX4_isAddress : ByteArray := prog_6_method_7_code
def yX4_isAddress : MethodName := ⟨RX4, "isAddress", "(I)Z"⟩
abbrev cX4_isLost : ByteArray := prog_6_method_8_code
def yX4_isLost : MethodName := ⟨RX4, "isLost", "(I)Z"⟩
abbrev cX4_state : ByteArray := prog_6_method_9_code
def yX4_state : MethodName := ⟨RX4, "state", "(I)I"⟩
abbrev cX4_serves : ByteArray := prog_6_method_10_code
def yX4_serves : MethodName := ⟨RX4, "serves", "(I)I"⟩
abbrev cX4_isFree : ByteArray := prog_6_method_11_code
def yX4_isFree : MethodName := ⟨RX4, "isFree", "(I)Z"⟩
abbrev cX4_frees : ByteArray := prog_6_method_12_code
def yX4_frees : MethodName := ⟨RX4, "frees", "(I)I"⟩
abbrev cX4_firstFree : ByteArray := prog_6_method_13_code
def yX4_firstFree : MethodName := ⟨RX4, "firstFree", "(I)I"⟩
abbrev cX4_lends : ByteArray := prog_6_method_14_code
def yX4_lends : MethodName := ⟨RX4, "lends", "(I)I"⟩
abbrev cX4_wears : ByteArray := prog_6_method_15_code
def yX4_wears : MethodName := ⟨RX4, "wears", "(IZ)V"⟩
abbrev cX4_apart : ByteArray := prog_6_method_16_code
def yX4_apart : MethodName := ⟨RX4, "apart", "(III)I"⟩
abbrev cX4_goes : ByteArray := prog_6_method_17_code
def yX4_goes : MethodName := ⟨RX4, "goes", "(I)V"⟩
abbrev cX4_goesTo : ByteArray := prog_6_method_18_code
def yX4_goesTo : MethodName := ⟨RX4, "goesTo", "(I)V"⟩
abbrev cX4_steps : ByteArray := prog_6_method_19_code
def yX4_steps : MethodName := ⟨RX4, "steps", "(I)I"⟩
abbrev cX4_looks : ByteArray := prog_6_method_20_code
def yX4_looks : MethodName := ⟨RX4, "looks", "(I)V"⟩
abbrev cX4_reads : ByteArray := prog_6_method_21_code
def yX4_reads : MethodName := ⟨RX4, "reads", "(I)I"⟩
abbrev cX4_writes : ByteArray := prog_6_method_22_code
def yX4_writes : MethodName := ⟨RX4, "writes", "(II)I"⟩
abbrev cX4_setLimit : ByteArray := prog_6_method_23_code
def yX4_setLimit : MethodName := ⟨RX4, "setLimit", "(I)I"⟩
abbrev cX4_wear : ByteArray := prog_6_method_24_code
def yX4_wear : MethodName := ⟨RX4, "wear", "(I)I"⟩
abbrev cX4_setHead : ByteArray := prog_6_method_25_code
def yX4_setHead : MethodName := ⟨RX4, "setHead", "(IZI)I"⟩
abbrev cX4_read : ByteArray := prog_6_method_26_code
def yX4_read : MethodName := ⟨RX4, "read", "(I)I"⟩
abbrev cX4_write : ByteArray := prog_6_method_27_code
def yX4_write : MethodName := ⟨RX4, "write", "(II)I"⟩
abbrev cX4_copiesOne : ByteArray := prog_6_method_28_code
def yX4_copiesOne : MethodName := ⟨RX4, "copiesOne", "(II)Z"⟩
abbrev cX4_copy : ByteArray := prog_6_method_29_code
def yX4_copy : MethodName := ⟨RX4, "copy", "(III)I"⟩
abbrev cX4_lost : ByteArray := prog_6_method_30_code
def yX4_lost : MethodName := ⟨RX4, "lost", "(I)I"⟩
abbrev cX4_test : ByteArray := prog_6_method_31_code
def yX4_test : MethodName := ⟨RX4, "test", "(I)I"⟩
abbrev cX4_giveBack : ByteArray := prog_6_method_32_code
def yX4_giveBack : MethodName := ⟨RX4, "giveBack", "(I)I"⟩
abbrev cX4_givesUp : ByteArray := prog_6_method_33_code
def yX4_givesUp : MethodName := ⟨RX4, "givesUp", "(I)I"⟩
abbrev cX4_giveUp : ByteArray := prog_6_method_34_code
def yX4_giveUp : MethodName := ⟨RX4, "giveUp", "(I)I"⟩
abbrev cX4_stands : ByteArray := prog_6_method_35_code
def yX4_stands : MethodName := ⟨RX4, "stands", "(I)Z"⟩
abbrev cX4_number : ByteArray := prog_6_method_36_code
def yX4_number : MethodName := ⟨RX4, "number", "(I)I"⟩
abbrev cX4_command : ByteArray := prog_6_method_37_code
def yX4_command : MethodName := ⟨RX4, "command", "(Z)I"⟩
abbrev cX4_commands : ByteArray := prog_6_method_38_code
def yX4_commands : MethodName := ⟨RX4, "commands", "()I"⟩
abbrev cX4_perform : ByteArray := prog_6_method_39_code
def yX4_perform : MethodName := ⟨RX4, "perform", "()I"⟩
abbrev cX4_type : ByteArray := prog_6_method_40_code
def yX4_type : MethodName := ⟨RX4, "type", "(C)I"⟩
abbrev cX4_clearText : ByteArray := prog_6_method_41_code
def yX4_clearText : MethodName := ⟨RX4, "clearText", "()I"⟩
abbrev cX4_undo : ByteArray := prog_6_method_42_code
def yX4_undo : MethodName := ⟨RX4, "undo", "()I"⟩
abbrev cX4_keep : ByteArray := prog_6_method_43_code
def yX4_keep : MethodName := ⟨RX4, "keep", "()I"⟩
abbrev cX4_restore : ByteArray := prog_6_method_44_code
def yX4_restore : MethodName := ⟨RX4, "restore", "()I"⟩
abbrev cX4_address : ByteArray := prog_6_method_45_code
def yX4_address : MethodName := ⟨RX4, "address", "(II)I"⟩
abbrev cX4_sector : ByteArray := prog_6_method_46_code
def yX4_sector : MethodName := ⟨RX4, "sector", "(II)I"⟩
abbrev cX4_across : ByteArray := prog_6_method_47_code
def yX4_across : MethodName := ⟨RX4, "across", "(II)I"⟩
abbrev cX4_inState : ByteArray := prog_6_method_48_code
def yX4_inState : MethodName := ⟨RX4, "inState", "(II)I"⟩
abbrev cX4_head : ByteArray := prog_6_method_49_code
def yX4_head : MethodName := ⟨RX4, "head", "(II)I"⟩
abbrev cX4_readsLeft : ByteArray := prog_6_method_50_code
def yX4_readsLeft : MethodName := ⟨RX4, "readsLeft", "(I)I"⟩
abbrev cX4_wouldLose : ByteArray := prog_6_method_51_code
def yX4_wouldLose : MethodName := ⟨RX4, "wouldLose", "(I)I"⟩
abbrev cX4_ahead : ByteArray := prog_6_method_52_code
def yX4_ahead : MethodName := ⟨RX4, "ahead", "(I)I"⟩
abbrev cX4_worst : ByteArray := prog_6_method_53_code
def yX4_worst : MethodName := ⟨RX4, "worst", "(I)I"⟩
abbrev cX4_count : ByteArray := prog_6_method_54_code
def yX4_count : MethodName := ⟨RX4, "count", "(I)I"⟩
def RJ9 : String := "java/lang/Math"
def TJ9 : u_T := fun k => match k with
  | _ => ("", "", "", false)
def tyJ9 : Nat → FieldType := fun k => match k with
  | _ => .int
abbrev wsJ90 : List Cond := u_ws RJ9 TJ9 0
theorem nmJ9 : ∀ a, a < 0 → ∀ b, b < 0 → a ≠ b → (TJ9 a).2.1 ≠ (TJ9 b).2.1 := by decide +kernel
theorem tyJ9_ok : ∀ k, k < 0 → parseFieldDescriptor (TJ9 k).2.2.1 = some (tyJ9 k) := by decide +kernel
abbrev cJ9_abs_0f7a4 : ByteArray := prog_7_method_59_code
def yJ9_abs_0f7a4 : MethodName := ⟨RJ9, "abs", "(I)I"⟩
def RJ10 : String := "java/lang/System"
def TJ10 : u_T := fun k => match k with
  | _ => ("", "", "", false)
def tyJ10 : Nat → FieldType := fun k => match k with
  | _ => .int
abbrev wsJ100 : List Cond := u_ws RJ10 TJ10 0
theorem nmJ10 : ∀ a, a < 0 → ∀ b, b < 0 → a ≠ b → (TJ10 a).2.1 ≠ (TJ10 b).2.1 := by decide +kernel
theorem tyJ10_ok : ∀ k, k < 0 → parseFieldDescriptor (TJ10 k).2.2.1 = some (tyJ10 k) := by decide +kernel
def RL : String := "LentSectorsLaw"
abbrev cL_law : ByteArray := code
def yL_law : MethodName := ⟨RL, "law", "([I)Z"⟩
def wsX0_init : List Cond := .code yX0_init cX0_init 1 none :: ([.methodLink RX0 3 objectInit, .instanceMethod objectInit, .code objectInit ⟨#[0xb1]⟩ 1 none, .arrayClass .int, .fieldLink RX0 9 "LentSectors$CommandText" "codes" "[I", .fieldLink RX0 15 "LentSectors$CommandText" "length" "I", .fieldLink RX0 19 "LentSectors$CommandText" "sectors" "[I", .fieldLink RX0 22 "LentSectors$CommandText" "values" "[I", .fieldLink RX0 25 "LentSectors$CommandText" "commands" "I", .fieldLink RX0 28 "LentSectors$CommandText" "at" "I"] ++ wsX00)
def wsX0_length : List Cond := .code yX0_length cX0_length 1 (some .int) :: ([.fieldLink RX0 15 "LentSectors$CommandText" "length" "I"] ++ wsX00)
def wsX0_append : List Cond := .code yX0_append cX0_append 2 (some .int) :: ([.fieldLink RX0 15 "LentSectors$CommandText" "length" "I", .fieldLink RX0 9 "LentSectors$CommandText" "codes" "[I"] ++ wsX00)
def wsX0_empty : List Cond := .code yX0_empty cX0_empty 2 (some .int) :: ([.fieldLink RX0 15 "LentSectors$CommandText" "length" "I"] ++ wsX00)
def wsX0_commandCount : List Cond := .code yX0_commandCount cX0_commandCount 1 (some .int) :: ([.fieldLink RX0 25 "LentSectors$CommandText" "commands" "I"] ++ wsX00)
def wsX0_commandSector : List Cond := .code yX0_commandSector cX0_commandSector 2 (some .int) :: ([.fieldLink RX0 19 "LentSectors$CommandText" "sectors" "[I"] ++ wsX00)
def wsX0_commandValue : List Cond := .code yX0_commandValue cX0_commandValue 2 (some .int) :: ([.fieldLink RX0 22 "LentSectors$CommandText" "values" "[I"] ++ wsX00)
def wsX0_peek : List Cond := .code yX0_peek cX0_peek 1 (some .int) :: ([.fieldLink RX0 28 "LentSectors$CommandText" "at" "I", .fieldLink RX0 15 "LentSectors$CommandText" "length" "I", .fieldLink RX0 9 "LentSectors$CommandText" "codes" "[I"] ++ wsX00)
def wsX0_take : List Cond := .code yX0_take cX0_take 2 (some .boolean) :: ([.fieldLink RX0 28 "LentSectors$CommandText" "at" "I", .methodLink RX0 35 yX0_peek, .instanceMethod yX0_peek, .selects RX0 yX0_peek yX0_peek, .initialized RX0, .code yX0_peek cX0_peek 1 (some .int), .fieldLink RX0 15 "LentSectors$CommandText" "length" "I", .fieldLink RX0 9 "LentSectors$CommandText" "codes" "[I"] ++ wsX00)
def wsX0_digitAt : List Cond := .code yX0_digitAt cX0_digitAt 2 (some .int) :: ([.fieldLink RX0 15 "LentSectors$CommandText" "length" "I", .fieldLink RX0 9 "LentSectors$CommandText" "codes" "[I"] ++ wsX00)
def wsX0_takeNumber : List Cond := .code yX0_takeNumber cX0_takeNumber 4 (some .int) :: ([.fieldLink RX0 28 "LentSectors$CommandText" "at" "I", .fieldLink RX0 15 "LentSectors$CommandText" "length" "I", .methodLink RX0 51 yX0_digitAt, .instanceMethod yX0_digitAt, .selects RX0 yX0_digitAt yX0_digitAt, .initialized RX0, .code yX0_digitAt cX0_digitAt 2 (some .int), .fieldLink RX0 9 "LentSectors$CommandText" "codes" "[I"] ++ wsX00)
def wsX0_addCommand : List Cond := .code yX0_addCommand cX0_addCommand 3 none :: ([.fieldLink RX0 25 "LentSectors$CommandText" "commands" "I", .fieldLink RX0 19 "LentSectors$CommandText" "sectors" "[I", .fieldLink RX0 22 "LentSectors$CommandText" "values" "[I"] ++ wsX00)
def wsX0_takeCommand_r1 : List Cond := [Cond.methodLink RX0 39 yX0_take, Cond.instanceMethod yX0_take, Cond.selects RX0 yX0_take yX0_take, Cond.initialized RX0, Cond.code yX0_take cX0_take 2 (some .boolean), Cond.fieldLink RX0 28 "LentSectors$CommandText" "at" "I", Cond.methodLink RX0 35 yX0_peek, Cond.instanceMethod yX0_peek, Cond.selects RX0 yX0_peek yX0_peek, Cond.code yX0_peek cX0_peek 1 (some .int), Cond.fieldLink RX0 15 "LentSectors$CommandText" "length" "I", Cond.fieldLink RX0 9 "LentSectors$CommandText" "codes" "[I", Cond.methodLink RX0 43 yX0_takeNumber, Cond.instanceMethod yX0_takeNumber, Cond.selects RX0 yX0_takeNumber yX0_takeNumber, Cond.code yX0_takeNumber cX0_takeNumber 4 (some .int), Cond.methodLink RX0 51 yX0_digitAt, Cond.instanceMethod yX0_digitAt, Cond.selects RX0 yX0_digitAt yX0_digitAt, Cond.code yX0_digitAt cX0_digitAt 2 (some .int), Cond.methodLink RX0 47 yX0_addCommand, Cond.instanceMethod yX0_addCommand, Cond.selects RX0 yX0_addCommand yX0_addCommand, Cond.code yX0_addCommand cX0_addCommand 3 none]
def wsX0_takeCommand_r2 : List Cond := [Cond.fieldLink RX0 25 "LentSectors$CommandText" "commands" "I", Cond.fieldLink RX0 19 "LentSectors$CommandText" "sectors" "[I", Cond.fieldLink RX0 22 "LentSectors$CommandText" "values" "[I"]
def wsX0_takeCommand : List Cond := .code yX0_takeCommand cX0_takeCommand 4 (some .boolean) :: ((wsX0_takeCommand_r1 ++ wsX0_takeCommand_r2) ++ wsX00)
def wsX0_parse_r1 : List Cond := [Cond.fieldLink RX0 28 "LentSectors$CommandText" "at" "I", Cond.fieldLink RX0 25 "LentSectors$CommandText" "commands" "I", Cond.methodLink RX0 31 yX0_takeCommand, Cond.instanceMethod yX0_takeCommand, Cond.selects RX0 yX0_takeCommand yX0_takeCommand, Cond.initialized RX0, Cond.code yX0_takeCommand cX0_takeCommand 4 (some .boolean), Cond.methodLink RX0 39 yX0_take, Cond.instanceMethod yX0_take, Cond.selects RX0 yX0_take yX0_take, Cond.code yX0_take cX0_take 2 (some .boolean), Cond.methodLink RX0 35 yX0_peek, Cond.instanceMethod yX0_peek, Cond.selects RX0 yX0_peek yX0_peek, Cond.code yX0_peek cX0_peek 1 (some .int), Cond.fieldLink RX0 15 "LentSectors$CommandText" "length" "I", Cond.fieldLink RX0 9 "LentSectors$CommandText" "codes" "[I", Cond.methodLink RX0 43 yX0_takeNumber, Cond.instanceMethod yX0_takeNumber, Cond.selects RX0 yX0_takeNumber yX0_takeNumber, Cond.code yX0_takeNumber cX0_takeNumber 4 (some .int), Cond.methodLink RX0 51 yX0_digitAt, Cond.instanceMethod yX0_digitAt, Cond.selects RX0 yX0_digitAt yX0_digitAt]
def wsX0_parse_r2 : List Cond := [Cond.code yX0_digitAt cX0_digitAt 2 (some .int), Cond.methodLink RX0 47 yX0_addCommand, Cond.instanceMethod yX0_addCommand, Cond.selects RX0 yX0_addCommand yX0_addCommand, Cond.code yX0_addCommand cX0_addCommand 3 none, Cond.fieldLink RX0 19 "LentSectors$CommandText" "sectors" "[I", Cond.fieldLink RX0 22 "LentSectors$CommandText" "values" "[I"]
def wsX0_parse : List Cond := .code yX0_parse cX0_parse 2 (some .int) :: ((wsX0_parse_r1 ++ wsX0_parse_r2) ++ wsX00)
def wsX3_isSector : List Cond := .code yX3_isSector cX3_isSector 1 (some .boolean) :: ([])
def wsX3_placeOf : List Cond := .code yX3_placeOf cX3_placeOf 1 (some .int) :: ([])
def wsX3_headOf : List Cond := .code yX3_headOf cX3_headOf 1 (some .int) :: ([])
def wsX1_isAddress : List Cond := .code yX1_isAddress cX1_isAddress 2 (some .boolean) :: ([.fieldLink RX1 19 "LentSectors$Heads" "spares" "[I", .static yX3_isSector, .initialized RX3, .code yX3_isSector cX3_isSector 1 (some .boolean), .static yX3_placeOf, .code yX3_placeOf cX3_placeOf 1 (some .int), .static yX3_headOf, .code yX3_headOf cX3_headOf 1 (some .int)] ++ wsX10)
def wsX1_divide : List Cond := .code yX1_divide cX1_divide 6 none :: ([.fieldLink RX1 19 "LentSectors$Heads" "spares" "[I", .fieldLink RX1 35 "LentSectors$Heads" "server" "[I", .fieldLink RX1 38 "LentSectors$Heads" "client" "[I", .methodLink RX1 69 yX1_isAddress, .instanceMethod yX1_isAddress, .selects RX1 yX1_isAddress yX1_isAddress, .initialized RX1, .code yX1_isAddress cX1_isAddress 2 (some .boolean), .static yX3_isSector, .initialized RX3, .code yX3_isSector cX3_isSector 1 (some .boolean), .static yX3_placeOf, .code yX3_placeOf cX3_placeOf 1 (some .int), .static yX3_headOf, .code yX3_headOf cX3_headOf 1 (some .int)] ++ wsX10)
def wsX1_init_r1 : List Cond := [Cond.methodLink RX1 3 objectInit, Cond.instanceMethod objectInit, Cond.code objectInit ⟨#[0xb1]⟩ 1 none, Cond.fieldLink RX1 9 "LentSectors$Heads" "limit" "I", Cond.arrayClass .int, Cond.fieldLink RX1 15 "LentSectors$Heads" "ageing" "[I", Cond.fieldLink RX1 19 "LentSectors$Heads" "spares" "[I", Cond.arrayClass .boolean, Cond.fieldLink RX1 22 "LentSectors$Heads" "givenUp" "[Z", Cond.fieldLink RX1 26 "LentSectors$Heads" "wear" "[I", Cond.fieldLink RX1 29 "LentSectors$Heads" "value" "[I", Cond.fieldLink RX1 32 "LentSectors$Heads" "rescuesOf" "[I", Cond.fieldLink RX1 35 "LentSectors$Heads" "server" "[I", Cond.fieldLink RX1 38 "LentSectors$Heads" "client" "[I", Cond.fieldLink RX1 41 "LentSectors$Heads" "arm" "I", Cond.fieldLink RX1 44 "LentSectors$Heads" "steps" "I", Cond.fieldLink RX1 47 "LentSectors$Heads" "rescues" "I", Cond.fieldLink RX1 50 "LentSectors$Heads" "losses" "I", Cond.fieldLink RX1 53 "LentSectors$Heads" "reads" "I", Cond.fieldLink RX1 56 "LentSectors$Heads" "writes" "I", Cond.methodLink RX1 59 yX1_divide, Cond.instanceMethod yX1_divide, Cond.selects RX1 yX1_divide yX1_divide, Cond.initialized RX1]
def wsX1_init_r2 : List Cond := [Cond.code yX1_divide cX1_divide 6 none, Cond.methodLink RX1 69 yX1_isAddress, Cond.instanceMethod yX1_isAddress, Cond.selects RX1 yX1_isAddress yX1_isAddress, Cond.code yX1_isAddress cX1_isAddress 2 (some .boolean), Cond.static yX3_isSector, Cond.initialized RX3, Cond.code yX3_isSector cX3_isSector 1 (some .boolean), Cond.static yX3_placeOf, Cond.code yX3_placeOf cX3_placeOf 1 (some .int), Cond.static yX3_headOf, Cond.code yX3_headOf cX3_headOf 1 (some .int)]
def wsX1_init : List Cond := .code yX1_init cX1_init 2 none :: ((wsX1_init_r1 ++ wsX1_init_r2) ++ wsX10)
def wsX1_takeOver : List Cond := .code yX1_takeOver cX1_takeOver 2 none :: ([.fieldLink RX1 9 "LentSectors$Heads" "limit" "I", .fieldLink RX1 15 "LentSectors$Heads" "ageing" "[I", .methodLink RX1 63 arraycopyName, .native arraycopyName, .static arraycopyName, .initialized "java/lang/System", .fieldLink RX1 19 "LentSectors$Heads" "spares" "[I", .fieldLink RX1 22 "LentSectors$Heads" "givenUp" "[Z", .fieldLink RX1 26 "LentSectors$Heads" "wear" "[I", .fieldLink RX1 29 "LentSectors$Heads" "value" "[I", .fieldLink RX1 32 "LentSectors$Heads" "rescuesOf" "[I", .fieldLink RX1 35 "LentSectors$Heads" "server" "[I", .fieldLink RX1 38 "LentSectors$Heads" "client" "[I", .fieldLink RX1 41 "LentSectors$Heads" "arm" "I", .fieldLink RX1 44 "LentSectors$Heads" "steps" "I", .fieldLink RX1 47 "LentSectors$Heads" "rescues" "I", .fieldLink RX1 50 "LentSectors$Heads" "losses" "I", .fieldLink RX1 53 "LentSectors$Heads" "reads" "I", .fieldLink RX1 56 "LentSectors$Heads" "writes" "I"] ++ wsX10)
def wsX1_isGivenUp : List Cond := .code yX1_isGivenUp cX1_isGivenUp 2 (some .boolean) :: ([.fieldLink RX1 22 "LentSectors$Heads" "givenUp" "[Z"] ++ wsX10)
def wsX1_othersAreGivenUp : List Cond := .code yX1_othersAreGivenUp cX1_othersAreGivenUp 3 (some .boolean) :: ([.fieldLink RX1 22 "LentSectors$Heads" "givenUp" "[Z"] ++ wsX10)
def wsX1_stepsSoFar : List Cond := .code yX1_stepsSoFar cX1_stepsSoFar 1 (some .int) :: ([.fieldLink RX1 44 "LentSectors$Heads" "steps" "I"] ++ wsX10)
def wsX1_isLost : List Cond := .code yX1_isLost cX1_isLost 2 (some .boolean) :: ([.fieldLink RX1 35 "LentSectors$Heads" "server" "[I"] ++ wsX10)
def wsX1_isLongWay : List Cond := .code yX1_isLongWay cX1_isLongWay 2 (some .boolean) :: ([.fieldLink RX1 35 "LentSectors$Heads" "server" "[I", .methodLink RX1 83 yX1_isLost, .instanceMethod yX1_isLost, .selects RX1 yX1_isLost yX1_isLost, .initialized RX1, .code yX1_isLost cX1_isLost 2 (some .boolean)] ++ wsX10)
def wsX1_isGood : List Cond := .code yX1_isGood cX1_isGood 2 (some .boolean) :: ([.fieldLink RX1 26 "LentSectors$Heads" "wear" "[I", .fieldLink RX1 9 "LentSectors$Heads" "limit" "I"] ++ wsX10)
def wsX1_isBad : List Cond := .code yX1_isBad cX1_isBad 2 (some .boolean) :: ([.fieldLink RX1 26 "LentSectors$Heads" "wear" "[I", .fieldLink RX1 9 "LentSectors$Heads" "limit" "I"] ++ wsX10)
def wsX1_gradeOf : List Cond := .code yX1_gradeOf cX1_gradeOf 2 (some .int) :: ([.methodLink RX1 86 yX1_isGood, .instanceMethod yX1_isGood, .selects RX1 yX1_isGood yX1_isGood, .initialized RX1, .code yX1_isGood cX1_isGood 2 (some .boolean), .fieldLink RX1 26 "LentSectors$Heads" "wear" "[I", .fieldLink RX1 9 "LentSectors$Heads" "limit" "I", .methodLink RX1 89 yX1_isBad, .instanceMethod yX1_isBad, .selects RX1 yX1_isBad yX1_isBad, .code yX1_isBad cX1_isBad 2 (some .boolean)] ++ wsX10)
def wsX1_isFree : List Cond := .code yX1_isFree cX1_isFree 4 (some .boolean) :: ([.fieldLink RX1 19 "LentSectors$Heads" "spares" "[I", .fieldLink RX1 38 "LentSectors$Heads" "client" "[I", .fieldLink RX1 22 "LentSectors$Heads" "givenUp" "[Z", .static yX3_headOf, .initialized RX3, .code yX3_headOf cX3_headOf 1 (some .int), .static yX3_placeOf, .code yX3_placeOf cX3_placeOf 1 (some .int), .methodLink RX1 86 yX1_isGood, .instanceMethod yX1_isGood, .selects RX1 yX1_isGood yX1_isGood, .initialized RX1, .code yX1_isGood cX1_isGood 2 (some .boolean), .fieldLink RX1 26 "LentSectors$Heads" "wear" "[I", .fieldLink RX1 9 "LentSectors$Heads" "limit" "I"] ++ wsX10)
def wsX1_freeOf : List Cond := .code yX1_freeOf cX1_freeOf 4 (some .int) :: ([.methodLink RX1 92 yX1_isFree, .instanceMethod yX1_isFree, .selects RX1 yX1_isFree yX1_isFree, .initialized RX1, .code yX1_isFree cX1_isFree 4 (some .boolean), .fieldLink RX1 19 "LentSectors$Heads" "spares" "[I", .fieldLink RX1 38 "LentSectors$Heads" "client" "[I", .fieldLink RX1 22 "LentSectors$Heads" "givenUp" "[Z", .static yX3_headOf, .initialized RX3, .code yX3_headOf cX3_headOf 1 (some .int), .static yX3_placeOf, .code yX3_placeOf cX3_placeOf 1 (some .int), .methodLink RX1 86 yX1_isGood, .instanceMethod yX1_isGood, .selects RX1 yX1_isGood yX1_isGood, .code yX1_isGood cX1_isGood 2 (some .boolean), .fieldLink RX1 26 "LentSectors$Heads" "wear" "[I", .fieldLink RX1 9 "LentSectors$Heads" "limit" "I"] ++ wsX10)
def wsX1_firstFreeOf : List Cond := .code yX1_firstFreeOf cX1_firstFreeOf 3 (some .int) :: ([.methodLink RX1 92 yX1_isFree, .instanceMethod yX1_isFree, .selects RX1 yX1_isFree yX1_isFree, .initialized RX1, .code yX1_isFree cX1_isFree 4 (some .boolean), .fieldLink RX1 19 "LentSectors$Heads" "spares" "[I", .fieldLink RX1 38 "LentSectors$Heads" "client" "[I", .fieldLink RX1 22 "LentSectors$Heads" "givenUp" "[Z", .static yX3_headOf, .initialized RX3, .code yX3_headOf cX3_headOf 1 (some .int), .static yX3_placeOf, .code yX3_placeOf cX3_placeOf 1 (some .int), .methodLink RX1 86 yX1_isGood, .instanceMethod yX1_isGood, .selects RX1 yX1_isGood yX1_isGood, .code yX1_isGood cX1_isGood 2 (some .boolean), .fieldLink RX1 26 "LentSectors$Heads" "wear" "[I", .fieldLink RX1 9 "LentSectors$Heads" "limit" "I"] ++ wsX10)
def wsX1_lendableTo_r1 : List Cond := [Cond.static yX3_headOf, Cond.initialized RX3, Cond.code yX3_headOf cX3_headOf 1 (some .int), Cond.methodLink RX1 95 yX1_firstFreeOf, Cond.instanceMethod yX1_firstFreeOf, Cond.selects RX1 yX1_firstFreeOf yX1_firstFreeOf, Cond.initialized RX1, Cond.code yX1_firstFreeOf cX1_firstFreeOf 3 (some .int), Cond.methodLink RX1 92 yX1_isFree, Cond.instanceMethod yX1_isFree, Cond.selects RX1 yX1_isFree yX1_isFree, Cond.code yX1_isFree cX1_isFree 4 (some .boolean), Cond.fieldLink RX1 19 "LentSectors$Heads" "spares" "[I", Cond.fieldLink RX1 38 "LentSectors$Heads" "client" "[I", Cond.fieldLink RX1 22 "LentSectors$Heads" "givenUp" "[Z", Cond.static yX3_placeOf, Cond.code yX3_placeOf cX3_placeOf 1 (some .int), Cond.methodLink RX1 86 yX1_isGood, Cond.instanceMethod yX1_isGood, Cond.selects RX1 yX1_isGood yX1_isGood, Cond.code yX1_isGood cX1_isGood 2 (some .boolean), Cond.fieldLink RX1 26 "LentSectors$Heads" "wear" "[I", Cond.fieldLink RX1 9 "LentSectors$Heads" "limit" "I", Cond.methodLink RX1 98 yX1_freeOf]
def wsX1_lendableTo_r2 : List Cond := [Cond.instanceMethod yX1_freeOf, Cond.selects RX1 yX1_freeOf yX1_freeOf, Cond.code yX1_freeOf cX1_freeOf 4 (some .int)]
def wsX1_lendableTo : List Cond := .code yX1_lendableTo cX1_lendableTo 7 (some .int) :: ((wsX1_lendableTo_r1 ++ wsX1_lendableTo_r2) ++ wsX10)
def wsX3_stepsBetween : List Cond := .code yX3_stepsBetween cX3_stepsBetween 3 (some .int) :: ([.methodLink RX3 151 Lib.Math.abs.name, .static Lib.Math.abs.name, .initialized "java/lang/Math", .code Lib.Math.abs.name Lib.Math.abs.code 1 (some .int), .methodLink RX3 148 yX3_placeOf, .static yX3_placeOf, .initialized RX3, .code yX3_placeOf cX3_placeOf 1 (some .int), .methodLink RX3 156 yX3_headOf, .static yX3_headOf, .code yX3_headOf cX3_headOf 1 (some .int)])
def wsX1_stepsTo : List Cond := .code yX1_stepsTo cX1_stepsTo 3 (some .int) :: ([.fieldLink RX1 35 "LentSectors$Heads" "server" "[I", .fieldLink RX1 22 "LentSectors$Heads" "givenUp" "[Z", .fieldLink RX1 41 "LentSectors$Heads" "arm" "I", .static yX3_headOf, .initialized RX3, .code yX3_headOf cX3_headOf 1 (some .int), .static yX3_stepsBetween, .code yX3_stepsBetween cX3_stepsBetween 3 (some .int), .methodLink RX3 151 Lib.Math.abs.name, .static Lib.Math.abs.name, .initialized "java/lang/Math", .code Lib.Math.abs.name Lib.Math.abs.code 1 (some .int), .methodLink RX3 148 yX3_placeOf, .static yX3_placeOf, .code yX3_placeOf cX3_placeOf 1 (some .int), .methodLink RX3 156 yX3_headOf] ++ wsX10)
def wsX1_changeLimit : List Cond := .code yX1_changeLimit cX1_changeLimit 3 (some .int) :: ([.fieldLink RX1 9 "LentSectors$Heads" "limit" "I"] ++ wsX10)
def wsX1_changeAgeing : List Cond := .code yX1_changeAgeing cX1_changeAgeing 4 (some .int) :: ([.fieldLink RX1 15 "LentSectors$Heads" "ageing" "[I"] ++ wsX10)
def wsX1_wearOf : List Cond := .code yX1_wearOf cX1_wearOf 4 (some .int) :: ([.fieldLink RX1 26 "LentSectors$Heads" "wear" "[I"] ++ wsX10)
def wsX1_changeSpares_r1 : List Cond := [Cond.fieldLink RX1 22 "LentSectors$Heads" "givenUp" "[Z", Cond.fieldLink RX1 19 "LentSectors$Heads" "spares" "[I", Cond.methodLink RX1 105 yX1_wearOf, Cond.instanceMethod yX1_wearOf, Cond.selects RX1 yX1_wearOf yX1_wearOf, Cond.initialized RX1, Cond.code yX1_wearOf cX1_wearOf 4 (some .int), Cond.fieldLink RX1 26 "LentSectors$Heads" "wear" "[I", Cond.methodLink RX1 59 yX1_divide, Cond.instanceMethod yX1_divide, Cond.selects RX1 yX1_divide yX1_divide, Cond.code yX1_divide cX1_divide 6 none, Cond.fieldLink RX1 35 "LentSectors$Heads" "server" "[I", Cond.fieldLink RX1 38 "LentSectors$Heads" "client" "[I", Cond.methodLink RX1 69 yX1_isAddress, Cond.instanceMethod yX1_isAddress, Cond.selects RX1 yX1_isAddress yX1_isAddress, Cond.code yX1_isAddress cX1_isAddress 2 (some .boolean), Cond.static yX3_isSector, Cond.initialized RX3, Cond.code yX3_isSector cX3_isSector 1 (some .boolean), Cond.static yX3_placeOf, Cond.code yX3_placeOf cX3_placeOf 1 (some .int), Cond.static yX3_headOf]
def wsX1_changeSpares_r2 : List Cond := [Cond.code yX3_headOf cX3_headOf 1 (some .int)]
def wsX1_changeSpares : List Cond := .code yX1_changeSpares cX1_changeSpares 4 (some .int) :: ((wsX1_changeSpares_r1 ++ wsX1_changeSpares_r2) ++ wsX10)
def wsX1_goTo : List Cond := .code yX1_goTo cX1_goTo 2 none :: ([.fieldLink RX1 44 "LentSectors$Heads" "steps" "I", .fieldLink RX1 35 "LentSectors$Heads" "server" "[I", .fieldLink RX1 41 "LentSectors$Heads" "arm" "I", .methodLink RX1 145 yX1_stepsTo, .instanceMethod yX1_stepsTo, .selects RX1 yX1_stepsTo yX1_stepsTo, .initialized RX1, .code yX1_stepsTo cX1_stepsTo 3 (some .int), .fieldLink RX1 22 "LentSectors$Heads" "givenUp" "[Z", .static yX3_headOf, .initialized RX3, .code yX3_headOf cX3_headOf 1 (some .int), .static yX3_stepsBetween, .code yX3_stepsBetween cX3_stepsBetween 3 (some .int), .methodLink RX3 151 Lib.Math.abs.name, .static Lib.Math.abs.name, .initialized "java/lang/Math", .code Lib.Math.abs.name Lib.Math.abs.code 1 (some .int), .methodLink RX3 148 yX3_placeOf, .static yX3_placeOf, .code yX3_placeOf cX3_placeOf 1 (some .int), .methodLink RX3 156 yX3_headOf] ++ wsX10)
def wsX1_wearByReading : List Cond := .code yX1_wearByReading cX1_wearByReading 2 none :: ([.fieldLink RX1 26 "LentSectors$Heads" "wear" "[I", .fieldLink RX1 15 "LentSectors$Heads" "ageing" "[I", .static yX3_headOf, .initialized RX3, .code yX3_headOf cX3_headOf 1 (some .int)] ++ wsX10)
def wsX1_release : List Cond := .code yX1_release cX1_release 2 none :: ([.fieldLink RX1 38 "LentSectors$Heads" "client" "[I", .fieldLink RX1 35 "LentSectors$Heads" "server" "[I", .methodLink RX1 83 yX1_isLost, .instanceMethod yX1_isLost, .selects RX1 yX1_isLost yX1_isLost, .initialized RX1, .code yX1_isLost cX1_isLost 2 (some .boolean)] ++ wsX10)
def wsX1_lend : List Cond := .code yX1_lend cX1_lend 3 none :: ([.fieldLink RX1 35 "LentSectors$Heads" "server" "[I", .fieldLink RX1 38 "LentSectors$Heads" "client" "[I", .methodLink RX1 142 yX1_release, .instanceMethod yX1_release, .selects RX1 yX1_release yX1_release, .initialized RX1, .code yX1_release cX1_release 2 none, .methodLink RX1 83 yX1_isLost, .instanceMethod yX1_isLost, .selects RX1 yX1_isLost yX1_isLost, .code yX1_isLost cX1_isLost 2 (some .boolean)] ++ wsX10)
def wsX1_moveTo : List Cond := .code yX1_moveTo cX1_moveTo 2 none :: ([.fieldLink RX1 44 "LentSectors$Heads" "steps" "I", .fieldLink RX1 41 "LentSectors$Heads" "arm" "I", .static yX3_stepsBetween, .initialized RX3, .code yX3_stepsBetween cX3_stepsBetween 3 (some .int), .methodLink RX3 151 Lib.Math.abs.name, .static Lib.Math.abs.name, .initialized "java/lang/Math", .code Lib.Math.abs.name Lib.Math.abs.code 1 (some .int), .methodLink RX3 148 yX3_placeOf, .static yX3_placeOf, .code yX3_placeOf cX3_placeOf 1 (some .int), .methodLink RX3 156 yX3_headOf, .static yX3_headOf, .code yX3_headOf cX3_headOf 1 (some .int)] ++ wsX10)
def wsX1_wearByWriting : List Cond := .code yX1_wearByWriting cX1_wearByWriting 2 none :: ([.fieldLink RX1 26 "LentSectors$Heads" "wear" "[I", .fieldLink RX1 15 "LentSectors$Heads" "ageing" "[I", .static yX3_headOf, .initialized RX3, .code yX3_headOf cX3_headOf 1 (some .int)] ++ wsX10)
def wsX1_lose : List Cond := .code yX1_lose cX1_lose 2 none :: ([.fieldLink RX1 50 "LentSectors$Heads" "losses" "I", .methodLink RX1 142 yX1_release, .instanceMethod yX1_release, .selects RX1 yX1_release yX1_release, .initialized RX1, .code yX1_release cX1_release 2 none, .fieldLink RX1 38 "LentSectors$Heads" "client" "[I", .fieldLink RX1 35 "LentSectors$Heads" "server" "[I", .methodLink RX1 83 yX1_isLost, .instanceMethod yX1_isLost, .selects RX1 yX1_isLost yX1_isLost, .code yX1_isLost cX1_isLost 2 (some .boolean)] ++ wsX10)
def wsX1_lookAt_r1 : List Cond := [Cond.fieldLink RX1 35 "LentSectors$Heads" "server" "[I", Cond.fieldLink RX1 47 "LentSectors$Heads" "rescues" "I", Cond.fieldLink RX1 32 "LentSectors$Heads" "rescuesOf" "[I", Cond.methodLink RX1 86 yX1_isGood, Cond.instanceMethod yX1_isGood, Cond.selects RX1 yX1_isGood yX1_isGood, Cond.initialized RX1, Cond.code yX1_isGood cX1_isGood 2 (some .boolean), Cond.fieldLink RX1 26 "LentSectors$Heads" "wear" "[I", Cond.fieldLink RX1 9 "LentSectors$Heads" "limit" "I", Cond.methodLink RX1 118 yX1_lendableTo, Cond.instanceMethod yX1_lendableTo, Cond.selects RX1 yX1_lendableTo yX1_lendableTo, Cond.code yX1_lendableTo cX1_lendableTo 7 (some .int), Cond.static yX3_headOf, Cond.initialized RX3, Cond.code yX3_headOf cX3_headOf 1 (some .int), Cond.methodLink RX1 95 yX1_firstFreeOf, Cond.instanceMethod yX1_firstFreeOf, Cond.selects RX1 yX1_firstFreeOf yX1_firstFreeOf, Cond.code yX1_firstFreeOf cX1_firstFreeOf 3 (some .int), Cond.methodLink RX1 92 yX1_isFree, Cond.instanceMethod yX1_isFree, Cond.selects RX1 yX1_isFree yX1_isFree]
def wsX1_lookAt_r2 : List Cond := [Cond.code yX1_isFree cX1_isFree 4 (some .boolean), Cond.fieldLink RX1 19 "LentSectors$Heads" "spares" "[I", Cond.fieldLink RX1 38 "LentSectors$Heads" "client" "[I", Cond.fieldLink RX1 22 "LentSectors$Heads" "givenUp" "[Z", Cond.static yX3_placeOf, Cond.code yX3_placeOf cX3_placeOf 1 (some .int), Cond.methodLink RX1 98 yX1_freeOf, Cond.instanceMethod yX1_freeOf, Cond.selects RX1 yX1_freeOf yX1_freeOf, Cond.code yX1_freeOf cX1_freeOf 4 (some .int), Cond.methodLink RX1 121 yX1_lend, Cond.instanceMethod yX1_lend, Cond.selects RX1 yX1_lend yX1_lend, Cond.code yX1_lend cX1_lend 3 none, Cond.methodLink RX1 142 yX1_release, Cond.instanceMethod yX1_release, Cond.selects RX1 yX1_release yX1_release, Cond.code yX1_release cX1_release 2 none, Cond.methodLink RX1 83 yX1_isLost, Cond.instanceMethod yX1_isLost, Cond.selects RX1 yX1_isLost yX1_isLost, Cond.code yX1_isLost cX1_isLost 2 (some .boolean), Cond.methodLink RX1 136 yX1_moveTo, Cond.instanceMethod yX1_moveTo]
def wsX1_lookAt_r3 : List Cond := [Cond.selects RX1 yX1_moveTo yX1_moveTo, Cond.code yX1_moveTo cX1_moveTo 2 none, Cond.fieldLink RX1 44 "LentSectors$Heads" "steps" "I", Cond.fieldLink RX1 41 "LentSectors$Heads" "arm" "I", Cond.static yX3_stepsBetween, Cond.code yX3_stepsBetween cX3_stepsBetween 3 (some .int), Cond.methodLink RX3 151 Lib.Math.abs.name, Cond.static Lib.Math.abs.name, Cond.initialized "java/lang/Math", Cond.code Lib.Math.abs.name Lib.Math.abs.code 1 (some .int), Cond.methodLink RX3 148 yX3_placeOf, Cond.methodLink RX3 156 yX3_headOf, Cond.methodLink RX1 124 yX1_wearByWriting, Cond.instanceMethod yX1_wearByWriting, Cond.selects RX1 yX1_wearByWriting yX1_wearByWriting, Cond.code yX1_wearByWriting cX1_wearByWriting 2 none, Cond.fieldLink RX1 15 "LentSectors$Heads" "ageing" "[I", Cond.methodLink RX1 89 yX1_isBad, Cond.instanceMethod yX1_isBad, Cond.selects RX1 yX1_isBad yX1_isBad, Cond.code yX1_isBad cX1_isBad 2 (some .boolean), Cond.methodLink RX1 139 yX1_lose, Cond.instanceMethod yX1_lose, Cond.selects RX1 yX1_lose yX1_lose]
def wsX1_lookAt_r4 : List Cond := [Cond.code yX1_lose cX1_lose 2 none, Cond.fieldLink RX1 50 "LentSectors$Heads" "losses" "I"]
def wsX1_lookAt : List Cond := .code yX1_lookAt cX1_lookAt 4 none :: ((wsX1_lookAt_r1 ++ (wsX1_lookAt_r2 ++ (wsX1_lookAt_r3 ++ wsX1_lookAt_r4))) ++ wsX10)
def wsX1_readAt_r1 : List Cond := [Cond.fieldLink RX1 35 "LentSectors$Heads" "server" "[I", Cond.fieldLink RX1 53 "LentSectors$Heads" "reads" "I", Cond.fieldLink RX1 29 "LentSectors$Heads" "value" "[I", Cond.methodLink RX1 69 yX1_isAddress, Cond.instanceMethod yX1_isAddress, Cond.selects RX1 yX1_isAddress yX1_isAddress, Cond.initialized RX1, Cond.code yX1_isAddress cX1_isAddress 2 (some .boolean), Cond.fieldLink RX1 19 "LentSectors$Heads" "spares" "[I", Cond.static yX3_isSector, Cond.initialized RX3, Cond.code yX3_isSector cX3_isSector 1 (some .boolean), Cond.static yX3_placeOf, Cond.code yX3_placeOf cX3_placeOf 1 (some .int), Cond.static yX3_headOf, Cond.code yX3_headOf cX3_headOf 1 (some .int), Cond.methodLink RX1 83 yX1_isLost, Cond.instanceMethod yX1_isLost, Cond.selects RX1 yX1_isLost yX1_isLost, Cond.code yX1_isLost cX1_isLost 2 (some .boolean), Cond.methodLink RX1 108 yX1_goTo, Cond.instanceMethod yX1_goTo, Cond.selects RX1 yX1_goTo yX1_goTo, Cond.code yX1_goTo cX1_goTo 2 none]
def wsX1_readAt_r2 : List Cond := [Cond.fieldLink RX1 44 "LentSectors$Heads" "steps" "I", Cond.fieldLink RX1 41 "LentSectors$Heads" "arm" "I", Cond.methodLink RX1 145 yX1_stepsTo, Cond.instanceMethod yX1_stepsTo, Cond.selects RX1 yX1_stepsTo yX1_stepsTo, Cond.code yX1_stepsTo cX1_stepsTo 3 (some .int), Cond.fieldLink RX1 22 "LentSectors$Heads" "givenUp" "[Z", Cond.static yX3_stepsBetween, Cond.code yX3_stepsBetween cX3_stepsBetween 3 (some .int), Cond.methodLink RX3 151 Lib.Math.abs.name, Cond.static Lib.Math.abs.name, Cond.initialized "java/lang/Math", Cond.code Lib.Math.abs.name Lib.Math.abs.code 1 (some .int), Cond.methodLink RX3 148 yX3_placeOf, Cond.methodLink RX3 156 yX3_headOf, Cond.methodLink RX1 112 yX1_wearByReading, Cond.instanceMethod yX1_wearByReading, Cond.selects RX1 yX1_wearByReading yX1_wearByReading, Cond.code yX1_wearByReading cX1_wearByReading 2 none, Cond.fieldLink RX1 26 "LentSectors$Heads" "wear" "[I", Cond.fieldLink RX1 15 "LentSectors$Heads" "ageing" "[I", Cond.methodLink RX1 115 yX1_lookAt, Cond.instanceMethod yX1_lookAt, Cond.selects RX1 yX1_lookAt yX1_lookAt]
def wsX1_readAt_r3 : List Cond := [Cond.code yX1_lookAt cX1_lookAt 4 none, Cond.fieldLink RX1 47 "LentSectors$Heads" "rescues" "I", Cond.fieldLink RX1 32 "LentSectors$Heads" "rescuesOf" "[I", Cond.methodLink RX1 86 yX1_isGood, Cond.instanceMethod yX1_isGood, Cond.selects RX1 yX1_isGood yX1_isGood, Cond.code yX1_isGood cX1_isGood 2 (some .boolean), Cond.fieldLink RX1 9 "LentSectors$Heads" "limit" "I", Cond.methodLink RX1 118 yX1_lendableTo, Cond.instanceMethod yX1_lendableTo, Cond.selects RX1 yX1_lendableTo yX1_lendableTo, Cond.code yX1_lendableTo cX1_lendableTo 7 (some .int), Cond.methodLink RX1 95 yX1_firstFreeOf, Cond.instanceMethod yX1_firstFreeOf, Cond.selects RX1 yX1_firstFreeOf yX1_firstFreeOf, Cond.code yX1_firstFreeOf cX1_firstFreeOf 3 (some .int), Cond.methodLink RX1 92 yX1_isFree, Cond.instanceMethod yX1_isFree, Cond.selects RX1 yX1_isFree yX1_isFree, Cond.code yX1_isFree cX1_isFree 4 (some .boolean), Cond.fieldLink RX1 38 "LentSectors$Heads" "client" "[I", Cond.methodLink RX1 98 yX1_freeOf, Cond.instanceMethod yX1_freeOf, Cond.selects RX1 yX1_freeOf yX1_freeOf]
def wsX1_readAt_r4 : List Cond := [Cond.code yX1_freeOf cX1_freeOf 4 (some .int), Cond.methodLink RX1 121 yX1_lend, Cond.instanceMethod yX1_lend, Cond.selects RX1 yX1_lend yX1_lend, Cond.code yX1_lend cX1_lend 3 none, Cond.methodLink RX1 142 yX1_release, Cond.instanceMethod yX1_release, Cond.selects RX1 yX1_release yX1_release, Cond.code yX1_release cX1_release 2 none, Cond.methodLink RX1 136 yX1_moveTo, Cond.instanceMethod yX1_moveTo, Cond.selects RX1 yX1_moveTo yX1_moveTo, Cond.code yX1_moveTo cX1_moveTo 2 none, Cond.methodLink RX1 124 yX1_wearByWriting, Cond.instanceMethod yX1_wearByWriting, Cond.selects RX1 yX1_wearByWriting yX1_wearByWriting, Cond.code yX1_wearByWriting cX1_wearByWriting 2 none, Cond.methodLink RX1 89 yX1_isBad, Cond.instanceMethod yX1_isBad, Cond.selects RX1 yX1_isBad yX1_isBad, Cond.code yX1_isBad cX1_isBad 2 (some .boolean), Cond.methodLink RX1 139 yX1_lose, Cond.instanceMethod yX1_lose, Cond.selects RX1 yX1_lose yX1_lose]
def wsX1_readAt_r5 : List Cond := [Cond.code yX1_lose cX1_lose 2 none, Cond.fieldLink RX1 50 "LentSectors$Heads" "losses" "I"]
def wsX1_readAt : List Cond := .code yX1_readAt cX1_readAt 2 (some .int) :: ((wsX1_readAt_r1 ++ (wsX1_readAt_r2 ++ (wsX1_readAt_r3 ++ (wsX1_readAt_r4 ++ wsX1_readAt_r5)))) ++ wsX10)
def wsX1_writeAt_r1 : List Cond := [Cond.fieldLink RX1 35 "LentSectors$Heads" "server" "[I", Cond.fieldLink RX1 29 "LentSectors$Heads" "value" "[I", Cond.fieldLink RX1 56 "LentSectors$Heads" "writes" "I", Cond.methodLink RX1 69 yX1_isAddress, Cond.instanceMethod yX1_isAddress, Cond.selects RX1 yX1_isAddress yX1_isAddress, Cond.initialized RX1, Cond.code yX1_isAddress cX1_isAddress 2 (some .boolean), Cond.fieldLink RX1 19 "LentSectors$Heads" "spares" "[I", Cond.static yX3_isSector, Cond.initialized RX3, Cond.code yX3_isSector cX3_isSector 1 (some .boolean), Cond.static yX3_placeOf, Cond.code yX3_placeOf cX3_placeOf 1 (some .int), Cond.static yX3_headOf, Cond.code yX3_headOf cX3_headOf 1 (some .int), Cond.methodLink RX1 83 yX1_isLost, Cond.instanceMethod yX1_isLost, Cond.selects RX1 yX1_isLost yX1_isLost, Cond.code yX1_isLost cX1_isLost 2 (some .boolean), Cond.methodLink RX1 118 yX1_lendableTo, Cond.instanceMethod yX1_lendableTo, Cond.selects RX1 yX1_lendableTo yX1_lendableTo, Cond.code yX1_lendableTo cX1_lendableTo 7 (some .int)]
def wsX1_writeAt_r2 : List Cond := [Cond.methodLink RX1 95 yX1_firstFreeOf, Cond.instanceMethod yX1_firstFreeOf, Cond.selects RX1 yX1_firstFreeOf yX1_firstFreeOf, Cond.code yX1_firstFreeOf cX1_firstFreeOf 3 (some .int), Cond.methodLink RX1 92 yX1_isFree, Cond.instanceMethod yX1_isFree, Cond.selects RX1 yX1_isFree yX1_isFree, Cond.code yX1_isFree cX1_isFree 4 (some .boolean), Cond.fieldLink RX1 38 "LentSectors$Heads" "client" "[I", Cond.fieldLink RX1 22 "LentSectors$Heads" "givenUp" "[Z", Cond.methodLink RX1 86 yX1_isGood, Cond.instanceMethod yX1_isGood, Cond.selects RX1 yX1_isGood yX1_isGood, Cond.code yX1_isGood cX1_isGood 2 (some .boolean), Cond.fieldLink RX1 26 "LentSectors$Heads" "wear" "[I", Cond.fieldLink RX1 9 "LentSectors$Heads" "limit" "I", Cond.methodLink RX1 98 yX1_freeOf, Cond.instanceMethod yX1_freeOf, Cond.selects RX1 yX1_freeOf yX1_freeOf, Cond.code yX1_freeOf cX1_freeOf 4 (some .int), Cond.methodLink RX1 121 yX1_lend, Cond.instanceMethod yX1_lend, Cond.selects RX1 yX1_lend yX1_lend, Cond.code yX1_lend cX1_lend 3 none]
def wsX1_writeAt_r3 : List Cond := [Cond.methodLink RX1 142 yX1_release, Cond.instanceMethod yX1_release, Cond.selects RX1 yX1_release yX1_release, Cond.code yX1_release cX1_release 2 none, Cond.methodLink RX1 108 yX1_goTo, Cond.instanceMethod yX1_goTo, Cond.selects RX1 yX1_goTo yX1_goTo, Cond.code yX1_goTo cX1_goTo 2 none, Cond.fieldLink RX1 44 "LentSectors$Heads" "steps" "I", Cond.fieldLink RX1 41 "LentSectors$Heads" "arm" "I", Cond.methodLink RX1 145 yX1_stepsTo, Cond.instanceMethod yX1_stepsTo, Cond.selects RX1 yX1_stepsTo yX1_stepsTo, Cond.code yX1_stepsTo cX1_stepsTo 3 (some .int), Cond.static yX3_stepsBetween, Cond.code yX3_stepsBetween cX3_stepsBetween 3 (some .int), Cond.methodLink RX3 151 Lib.Math.abs.name, Cond.static Lib.Math.abs.name, Cond.initialized "java/lang/Math", Cond.code Lib.Math.abs.name Lib.Math.abs.code 1 (some .int), Cond.methodLink RX3 148 yX3_placeOf, Cond.methodLink RX3 156 yX3_headOf, Cond.methodLink RX1 124 yX1_wearByWriting, Cond.instanceMethod yX1_wearByWriting]
def wsX1_writeAt_r4 : List Cond := [Cond.selects RX1 yX1_wearByWriting yX1_wearByWriting, Cond.code yX1_wearByWriting cX1_wearByWriting 2 none, Cond.fieldLink RX1 15 "LentSectors$Heads" "ageing" "[I", Cond.methodLink RX1 115 yX1_lookAt, Cond.instanceMethod yX1_lookAt, Cond.selects RX1 yX1_lookAt yX1_lookAt, Cond.code yX1_lookAt cX1_lookAt 4 none, Cond.fieldLink RX1 47 "LentSectors$Heads" "rescues" "I", Cond.fieldLink RX1 32 "LentSectors$Heads" "rescuesOf" "[I", Cond.methodLink RX1 136 yX1_moveTo, Cond.instanceMethod yX1_moveTo, Cond.selects RX1 yX1_moveTo yX1_moveTo, Cond.code yX1_moveTo cX1_moveTo 2 none, Cond.methodLink RX1 89 yX1_isBad, Cond.instanceMethod yX1_isBad, Cond.selects RX1 yX1_isBad yX1_isBad, Cond.code yX1_isBad cX1_isBad 2 (some .boolean), Cond.methodLink RX1 139 yX1_lose, Cond.instanceMethod yX1_lose, Cond.selects RX1 yX1_lose yX1_lose, Cond.code yX1_lose cX1_lose 2 none, Cond.fieldLink RX1 50 "LentSectors$Heads" "losses" "I"]
def wsX1_writeAt : List Cond := .code yX1_writeAt cX1_writeAt 4 (some .int) :: ((wsX1_writeAt_r1 ++ (wsX1_writeAt_r2 ++ (wsX1_writeAt_r3 ++ wsX1_writeAt_r4))) ++ wsX10)
def wsX1_copyRow_r1 : List Cond := [Cond.methodLink RX1 127 yX1_readAt, Cond.instanceMethod yX1_readAt, Cond.selects RX1 yX1_readAt yX1_readAt, Cond.initialized RX1, Cond.code yX1_readAt cX1_readAt 2 (some .int), Cond.fieldLink RX1 35 "LentSectors$Heads" "server" "[I", Cond.fieldLink RX1 53 "LentSectors$Heads" "reads" "I", Cond.fieldLink RX1 29 "LentSectors$Heads" "value" "[I", Cond.methodLink RX1 69 yX1_isAddress, Cond.instanceMethod yX1_isAddress, Cond.selects RX1 yX1_isAddress yX1_isAddress, Cond.code yX1_isAddress cX1_isAddress 2 (some .boolean), Cond.fieldLink RX1 19 "LentSectors$Heads" "spares" "[I", Cond.static yX3_isSector, Cond.initialized RX3, Cond.code yX3_isSector cX3_isSector 1 (some .boolean), Cond.static yX3_placeOf, Cond.code yX3_placeOf cX3_placeOf 1 (some .int), Cond.static yX3_headOf, Cond.code yX3_headOf cX3_headOf 1 (some .int), Cond.methodLink RX1 83 yX1_isLost, Cond.instanceMethod yX1_isLost, Cond.selects RX1 yX1_isLost yX1_isLost, Cond.code yX1_isLost cX1_isLost 2 (some .boolean)]
def wsX1_copyRow_r2 : List Cond := [Cond.methodLink RX1 108 yX1_goTo, Cond.instanceMethod yX1_goTo, Cond.selects RX1 yX1_goTo yX1_goTo, Cond.code yX1_goTo cX1_goTo 2 none, Cond.fieldLink RX1 44 "LentSectors$Heads" "steps" "I", Cond.fieldLink RX1 41 "LentSectors$Heads" "arm" "I", Cond.methodLink RX1 145 yX1_stepsTo, Cond.instanceMethod yX1_stepsTo, Cond.selects RX1 yX1_stepsTo yX1_stepsTo, Cond.code yX1_stepsTo cX1_stepsTo 3 (some .int), Cond.fieldLink RX1 22 "LentSectors$Heads" "givenUp" "[Z", Cond.static yX3_stepsBetween, Cond.code yX3_stepsBetween cX3_stepsBetween 3 (some .int), Cond.methodLink RX3 151 Lib.Math.abs.name, Cond.static Lib.Math.abs.name, Cond.initialized "java/lang/Math", Cond.code Lib.Math.abs.name Lib.Math.abs.code 1 (some .int), Cond.methodLink RX3 148 yX3_placeOf, Cond.methodLink RX3 156 yX3_headOf, Cond.methodLink RX1 112 yX1_wearByReading, Cond.instanceMethod yX1_wearByReading, Cond.selects RX1 yX1_wearByReading yX1_wearByReading, Cond.code yX1_wearByReading cX1_wearByReading 2 none, Cond.fieldLink RX1 26 "LentSectors$Heads" "wear" "[I"]
def wsX1_copyRow_r3 : List Cond := [Cond.fieldLink RX1 15 "LentSectors$Heads" "ageing" "[I", Cond.methodLink RX1 115 yX1_lookAt, Cond.instanceMethod yX1_lookAt, Cond.selects RX1 yX1_lookAt yX1_lookAt, Cond.code yX1_lookAt cX1_lookAt 4 none, Cond.fieldLink RX1 47 "LentSectors$Heads" "rescues" "I", Cond.fieldLink RX1 32 "LentSectors$Heads" "rescuesOf" "[I", Cond.methodLink RX1 86 yX1_isGood, Cond.instanceMethod yX1_isGood, Cond.selects RX1 yX1_isGood yX1_isGood, Cond.code yX1_isGood cX1_isGood 2 (some .boolean), Cond.fieldLink RX1 9 "LentSectors$Heads" "limit" "I", Cond.methodLink RX1 118 yX1_lendableTo, Cond.instanceMethod yX1_lendableTo, Cond.selects RX1 yX1_lendableTo yX1_lendableTo, Cond.code yX1_lendableTo cX1_lendableTo 7 (some .int), Cond.methodLink RX1 95 yX1_firstFreeOf, Cond.instanceMethod yX1_firstFreeOf, Cond.selects RX1 yX1_firstFreeOf yX1_firstFreeOf, Cond.code yX1_firstFreeOf cX1_firstFreeOf 3 (some .int), Cond.methodLink RX1 92 yX1_isFree, Cond.instanceMethod yX1_isFree, Cond.selects RX1 yX1_isFree yX1_isFree, Cond.code yX1_isFree cX1_isFree 4 (some .boolean)]
def wsX1_copyRow_r4 : List Cond := [Cond.fieldLink RX1 38 "LentSectors$Heads" "client" "[I", Cond.methodLink RX1 98 yX1_freeOf, Cond.instanceMethod yX1_freeOf, Cond.selects RX1 yX1_freeOf yX1_freeOf, Cond.code yX1_freeOf cX1_freeOf 4 (some .int), Cond.methodLink RX1 121 yX1_lend, Cond.instanceMethod yX1_lend, Cond.selects RX1 yX1_lend yX1_lend, Cond.code yX1_lend cX1_lend 3 none, Cond.methodLink RX1 142 yX1_release, Cond.instanceMethod yX1_release, Cond.selects RX1 yX1_release yX1_release, Cond.code yX1_release cX1_release 2 none, Cond.methodLink RX1 136 yX1_moveTo, Cond.instanceMethod yX1_moveTo, Cond.selects RX1 yX1_moveTo yX1_moveTo, Cond.code yX1_moveTo cX1_moveTo 2 none, Cond.methodLink RX1 124 yX1_wearByWriting, Cond.instanceMethod yX1_wearByWriting, Cond.selects RX1 yX1_wearByWriting yX1_wearByWriting, Cond.code yX1_wearByWriting cX1_wearByWriting 2 none, Cond.methodLink RX1 89 yX1_isBad, Cond.instanceMethod yX1_isBad, Cond.selects RX1 yX1_isBad yX1_isBad]
def wsX1_copyRow_r5 : List Cond := [Cond.code yX1_isBad cX1_isBad 2 (some .boolean), Cond.methodLink RX1 139 yX1_lose, Cond.instanceMethod yX1_lose, Cond.selects RX1 yX1_lose yX1_lose, Cond.code yX1_lose cX1_lose 2 none, Cond.fieldLink RX1 50 "LentSectors$Heads" "losses" "I", Cond.methodLink RX1 130 yX1_writeAt, Cond.instanceMethod yX1_writeAt, Cond.selects RX1 yX1_writeAt yX1_writeAt, Cond.code yX1_writeAt cX1_writeAt 4 (some .int), Cond.fieldLink RX1 56 "LentSectors$Heads" "writes" "I"]
def wsX1_copyRow : List Cond := .code yX1_copyRow cX1_copyRow 6 (some .int) :: ((wsX1_copyRow_r1 ++ (wsX1_copyRow_r2 ++ (wsX1_copyRow_r3 ++ (wsX1_copyRow_r4 ++ wsX1_copyRow_r5)))) ++ wsX10)
def wsX1_lostOf : List Cond := .code yX1_lostOf cX1_lostOf 4 (some .int) :: ([.fieldLink RX1 19 "LentSectors$Heads" "spares" "[I", .methodLink RX1 83 yX1_isLost, .instanceMethod yX1_isLost, .selects RX1 yX1_isLost yX1_isLost, .initialized RX1, .code yX1_isLost cX1_isLost 2 (some .boolean), .fieldLink RX1 35 "LentSectors$Heads" "server" "[I"] ++ wsX10)
def wsX1_testHead_r1 : List Cond := [Cond.fieldLink RX1 19 "LentSectors$Heads" "spares" "[I", Cond.fieldLink RX1 47 "LentSectors$Heads" "rescues" "I", Cond.methodLink RX1 133 yX1_lostOf, Cond.instanceMethod yX1_lostOf, Cond.selects RX1 yX1_lostOf yX1_lostOf, Cond.initialized RX1, Cond.code yX1_lostOf cX1_lostOf 4 (some .int), Cond.methodLink RX1 83 yX1_isLost, Cond.instanceMethod yX1_isLost, Cond.selects RX1 yX1_isLost yX1_isLost, Cond.code yX1_isLost cX1_isLost 2 (some .boolean), Cond.fieldLink RX1 35 "LentSectors$Heads" "server" "[I", Cond.methodLink RX1 127 yX1_readAt, Cond.instanceMethod yX1_readAt, Cond.selects RX1 yX1_readAt yX1_readAt, Cond.code yX1_readAt cX1_readAt 2 (some .int), Cond.fieldLink RX1 53 "LentSectors$Heads" "reads" "I", Cond.fieldLink RX1 29 "LentSectors$Heads" "value" "[I", Cond.methodLink RX1 69 yX1_isAddress, Cond.instanceMethod yX1_isAddress, Cond.selects RX1 yX1_isAddress yX1_isAddress, Cond.code yX1_isAddress cX1_isAddress 2 (some .boolean), Cond.static yX3_isSector, Cond.initialized RX3]
def wsX1_testHead_r2 : List Cond := [Cond.code yX3_isSector cX3_isSector 1 (some .boolean), Cond.static yX3_placeOf, Cond.code yX3_placeOf cX3_placeOf 1 (some .int), Cond.static yX3_headOf, Cond.code yX3_headOf cX3_headOf 1 (some .int), Cond.methodLink RX1 108 yX1_goTo, Cond.instanceMethod yX1_goTo, Cond.selects RX1 yX1_goTo yX1_goTo, Cond.code yX1_goTo cX1_goTo 2 none, Cond.fieldLink RX1 44 "LentSectors$Heads" "steps" "I", Cond.fieldLink RX1 41 "LentSectors$Heads" "arm" "I", Cond.methodLink RX1 145 yX1_stepsTo, Cond.instanceMethod yX1_stepsTo, Cond.selects RX1 yX1_stepsTo yX1_stepsTo, Cond.code yX1_stepsTo cX1_stepsTo 3 (some .int), Cond.fieldLink RX1 22 "LentSectors$Heads" "givenUp" "[Z", Cond.static yX3_stepsBetween, Cond.code yX3_stepsBetween cX3_stepsBetween 3 (some .int), Cond.methodLink RX3 151 Lib.Math.abs.name, Cond.static Lib.Math.abs.name, Cond.initialized "java/lang/Math", Cond.code Lib.Math.abs.name Lib.Math.abs.code 1 (some .int), Cond.methodLink RX3 148 yX3_placeOf, Cond.methodLink RX3 156 yX3_headOf]
def wsX1_testHead_r3 : List Cond := [Cond.methodLink RX1 112 yX1_wearByReading, Cond.instanceMethod yX1_wearByReading, Cond.selects RX1 yX1_wearByReading yX1_wearByReading, Cond.code yX1_wearByReading cX1_wearByReading 2 none, Cond.fieldLink RX1 26 "LentSectors$Heads" "wear" "[I", Cond.fieldLink RX1 15 "LentSectors$Heads" "ageing" "[I", Cond.methodLink RX1 115 yX1_lookAt, Cond.instanceMethod yX1_lookAt, Cond.selects RX1 yX1_lookAt yX1_lookAt, Cond.code yX1_lookAt cX1_lookAt 4 none, Cond.fieldLink RX1 32 "LentSectors$Heads" "rescuesOf" "[I", Cond.methodLink RX1 86 yX1_isGood, Cond.instanceMethod yX1_isGood, Cond.selects RX1 yX1_isGood yX1_isGood, Cond.code yX1_isGood cX1_isGood 2 (some .boolean), Cond.fieldLink RX1 9 "LentSectors$Heads" "limit" "I", Cond.methodLink RX1 118 yX1_lendableTo, Cond.instanceMethod yX1_lendableTo, Cond.selects RX1 yX1_lendableTo yX1_lendableTo, Cond.code yX1_lendableTo cX1_lendableTo 7 (some .int), Cond.methodLink RX1 95 yX1_firstFreeOf, Cond.instanceMethod yX1_firstFreeOf, Cond.selects RX1 yX1_firstFreeOf yX1_firstFreeOf, Cond.code yX1_firstFreeOf cX1_firstFreeOf 3 (some .int)]
def wsX1_testHead_r4 : List Cond := [Cond.methodLink RX1 92 yX1_isFree, Cond.instanceMethod yX1_isFree, Cond.selects RX1 yX1_isFree yX1_isFree, Cond.code yX1_isFree cX1_isFree 4 (some .boolean), Cond.fieldLink RX1 38 "LentSectors$Heads" "client" "[I", Cond.methodLink RX1 98 yX1_freeOf, Cond.instanceMethod yX1_freeOf, Cond.selects RX1 yX1_freeOf yX1_freeOf, Cond.code yX1_freeOf cX1_freeOf 4 (some .int), Cond.methodLink RX1 121 yX1_lend, Cond.instanceMethod yX1_lend, Cond.selects RX1 yX1_lend yX1_lend, Cond.code yX1_lend cX1_lend 3 none, Cond.methodLink RX1 142 yX1_release, Cond.instanceMethod yX1_release, Cond.selects RX1 yX1_release yX1_release, Cond.code yX1_release cX1_release 2 none, Cond.methodLink RX1 136 yX1_moveTo, Cond.instanceMethod yX1_moveTo, Cond.selects RX1 yX1_moveTo yX1_moveTo, Cond.code yX1_moveTo cX1_moveTo 2 none, Cond.methodLink RX1 124 yX1_wearByWriting, Cond.instanceMethod yX1_wearByWriting, Cond.selects RX1 yX1_wearByWriting yX1_wearByWriting]
def wsX1_testHead_r5 : List Cond := [Cond.code yX1_wearByWriting cX1_wearByWriting 2 none, Cond.methodLink RX1 89 yX1_isBad, Cond.instanceMethod yX1_isBad, Cond.selects RX1 yX1_isBad yX1_isBad, Cond.code yX1_isBad cX1_isBad 2 (some .boolean), Cond.methodLink RX1 139 yX1_lose, Cond.instanceMethod yX1_lose, Cond.selects RX1 yX1_lose yX1_lose, Cond.code yX1_lose cX1_lose 2 none, Cond.fieldLink RX1 50 "LentSectors$Heads" "losses" "I"]
def wsX1_testHead : List Cond := .code yX1_testHead cX1_testHead 4 (some .int) :: ((wsX1_testHead_r1 ++ (wsX1_testHead_r2 ++ (wsX1_testHead_r3 ++ (wsX1_testHead_r4 ++ wsX1_testHead_r5)))) ++ wsX10)
def wsX1_giveBackAt_r1 : List Cond := [Cond.fieldLink RX1 22 "LentSectors$Heads" "givenUp" "[Z", Cond.fieldLink RX1 35 "LentSectors$Heads" "server" "[I", Cond.methodLink RX1 69 yX1_isAddress, Cond.instanceMethod yX1_isAddress, Cond.selects RX1 yX1_isAddress yX1_isAddress, Cond.initialized RX1, Cond.code yX1_isAddress cX1_isAddress 2 (some .boolean), Cond.fieldLink RX1 19 "LentSectors$Heads" "spares" "[I", Cond.static yX3_isSector, Cond.initialized RX3, Cond.code yX3_isSector cX3_isSector 1 (some .boolean), Cond.static yX3_placeOf, Cond.code yX3_placeOf cX3_placeOf 1 (some .int), Cond.static yX3_headOf, Cond.code yX3_headOf cX3_headOf 1 (some .int), Cond.methodLink RX1 148 yX1_isLongWay, Cond.instanceMethod yX1_isLongWay, Cond.selects RX1 yX1_isLongWay yX1_isLongWay, Cond.code yX1_isLongWay cX1_isLongWay 2 (some .boolean), Cond.methodLink RX1 83 yX1_isLost, Cond.instanceMethod yX1_isLost, Cond.selects RX1 yX1_isLost yX1_isLost, Cond.code yX1_isLost cX1_isLost 2 (some .boolean), Cond.methodLink RX1 86 yX1_isGood]
def wsX1_giveBackAt_r2 : List Cond := [Cond.instanceMethod yX1_isGood, Cond.selects RX1 yX1_isGood yX1_isGood, Cond.code yX1_isGood cX1_isGood 2 (some .boolean), Cond.fieldLink RX1 26 "LentSectors$Heads" "wear" "[I", Cond.fieldLink RX1 9 "LentSectors$Heads" "limit" "I", Cond.methodLink RX1 108 yX1_goTo, Cond.instanceMethod yX1_goTo, Cond.selects RX1 yX1_goTo yX1_goTo, Cond.code yX1_goTo cX1_goTo 2 none, Cond.fieldLink RX1 44 "LentSectors$Heads" "steps" "I", Cond.fieldLink RX1 41 "LentSectors$Heads" "arm" "I", Cond.methodLink RX1 145 yX1_stepsTo, Cond.instanceMethod yX1_stepsTo, Cond.selects RX1 yX1_stepsTo yX1_stepsTo, Cond.code yX1_stepsTo cX1_stepsTo 3 (some .int), Cond.static yX3_stepsBetween, Cond.code yX3_stepsBetween cX3_stepsBetween 3 (some .int), Cond.methodLink RX3 151 Lib.Math.abs.name, Cond.static Lib.Math.abs.name, Cond.initialized "java/lang/Math", Cond.code Lib.Math.abs.name Lib.Math.abs.code 1 (some .int), Cond.methodLink RX3 148 yX3_placeOf, Cond.methodLink RX3 156 yX3_headOf, Cond.methodLink RX1 136 yX1_moveTo]
def wsX1_giveBackAt_r3 : List Cond := [Cond.instanceMethod yX1_moveTo, Cond.selects RX1 yX1_moveTo yX1_moveTo, Cond.code yX1_moveTo cX1_moveTo 2 none, Cond.methodLink RX1 124 yX1_wearByWriting, Cond.instanceMethod yX1_wearByWriting, Cond.selects RX1 yX1_wearByWriting yX1_wearByWriting, Cond.code yX1_wearByWriting cX1_wearByWriting 2 none, Cond.fieldLink RX1 15 "LentSectors$Heads" "ageing" "[I", Cond.methodLink RX1 121 yX1_lend, Cond.instanceMethod yX1_lend, Cond.selects RX1 yX1_lend yX1_lend, Cond.code yX1_lend cX1_lend 3 none, Cond.fieldLink RX1 38 "LentSectors$Heads" "client" "[I", Cond.methodLink RX1 142 yX1_release, Cond.instanceMethod yX1_release, Cond.selects RX1 yX1_release yX1_release, Cond.code yX1_release cX1_release 2 none]
def wsX1_giveBackAt : List Cond := .code yX1_giveBackAt cX1_giveBackAt 3 (some .int) :: ((wsX1_giveBackAt_r1 ++ (wsX1_giveBackAt_r2 ++ wsX1_giveBackAt_r3)) ++ wsX10)
def wsX1_moveAway_r1 : List Cond := [Cond.methodLink RX1 118 yX1_lendableTo, Cond.instanceMethod yX1_lendableTo, Cond.selects RX1 yX1_lendableTo yX1_lendableTo, Cond.initialized RX1, Cond.code yX1_lendableTo cX1_lendableTo 7 (some .int), Cond.static yX3_headOf, Cond.initialized RX3, Cond.code yX3_headOf cX3_headOf 1 (some .int), Cond.methodLink RX1 95 yX1_firstFreeOf, Cond.instanceMethod yX1_firstFreeOf, Cond.selects RX1 yX1_firstFreeOf yX1_firstFreeOf, Cond.code yX1_firstFreeOf cX1_firstFreeOf 3 (some .int), Cond.methodLink RX1 92 yX1_isFree, Cond.instanceMethod yX1_isFree, Cond.selects RX1 yX1_isFree yX1_isFree, Cond.code yX1_isFree cX1_isFree 4 (some .boolean), Cond.fieldLink RX1 19 "LentSectors$Heads" "spares" "[I", Cond.fieldLink RX1 38 "LentSectors$Heads" "client" "[I", Cond.fieldLink RX1 22 "LentSectors$Heads" "givenUp" "[Z", Cond.static yX3_placeOf, Cond.code yX3_placeOf cX3_placeOf 1 (some .int), Cond.methodLink RX1 86 yX1_isGood, Cond.instanceMethod yX1_isGood, Cond.selects RX1 yX1_isGood yX1_isGood]
def wsX1_moveAway_r2 : List Cond := [Cond.code yX1_isGood cX1_isGood 2 (some .boolean), Cond.fieldLink RX1 26 "LentSectors$Heads" "wear" "[I", Cond.fieldLink RX1 9 "LentSectors$Heads" "limit" "I", Cond.methodLink RX1 98 yX1_freeOf, Cond.instanceMethod yX1_freeOf, Cond.selects RX1 yX1_freeOf yX1_freeOf, Cond.code yX1_freeOf cX1_freeOf 4 (some .int), Cond.methodLink RX1 139 yX1_lose, Cond.instanceMethod yX1_lose, Cond.selects RX1 yX1_lose yX1_lose, Cond.code yX1_lose cX1_lose 2 none, Cond.fieldLink RX1 50 "LentSectors$Heads" "losses" "I", Cond.methodLink RX1 142 yX1_release, Cond.instanceMethod yX1_release, Cond.selects RX1 yX1_release yX1_release, Cond.code yX1_release cX1_release 2 none, Cond.fieldLink RX1 35 "LentSectors$Heads" "server" "[I", Cond.methodLink RX1 83 yX1_isLost, Cond.instanceMethod yX1_isLost, Cond.selects RX1 yX1_isLost yX1_isLost, Cond.code yX1_isLost cX1_isLost 2 (some .boolean), Cond.methodLink RX1 121 yX1_lend, Cond.instanceMethod yX1_lend, Cond.selects RX1 yX1_lend yX1_lend]
def wsX1_moveAway_r3 : List Cond := [Cond.code yX1_lend cX1_lend 3 none, Cond.methodLink RX1 124 yX1_wearByWriting, Cond.instanceMethod yX1_wearByWriting, Cond.selects RX1 yX1_wearByWriting yX1_wearByWriting, Cond.code yX1_wearByWriting cX1_wearByWriting 2 none, Cond.fieldLink RX1 15 "LentSectors$Heads" "ageing" "[I"]
def wsX1_moveAway : List Cond := .code yX1_moveAway cX1_moveAway 3 none :: ((wsX1_moveAway_r1 ++ (wsX1_moveAway_r2 ++ wsX1_moveAway_r3)) ++ wsX10)
def wsX1_vacate_r1 : List Cond := [Cond.fieldLink RX1 50 "LentSectors$Heads" "losses" "I", Cond.fieldLink RX1 22 "LentSectors$Heads" "givenUp" "[Z", Cond.fieldLink RX1 35 "LentSectors$Heads" "server" "[I", Cond.methodLink RX1 69 yX1_isAddress, Cond.instanceMethod yX1_isAddress, Cond.selects RX1 yX1_isAddress yX1_isAddress, Cond.initialized RX1, Cond.code yX1_isAddress cX1_isAddress 2 (some .boolean), Cond.fieldLink RX1 19 "LentSectors$Heads" "spares" "[I", Cond.static yX3_isSector, Cond.initialized RX3, Cond.code yX3_isSector cX3_isSector 1 (some .boolean), Cond.static yX3_placeOf, Cond.code yX3_placeOf cX3_placeOf 1 (some .int), Cond.static yX3_headOf, Cond.code yX3_headOf cX3_headOf 1 (some .int), Cond.methodLink RX1 83 yX1_isLost, Cond.instanceMethod yX1_isLost, Cond.selects RX1 yX1_isLost yX1_isLost, Cond.code yX1_isLost cX1_isLost 2 (some .boolean), Cond.methodLink RX1 151 yX1_moveAway, Cond.instanceMethod yX1_moveAway, Cond.selects RX1 yX1_moveAway yX1_moveAway, Cond.code yX1_moveAway cX1_moveAway 3 none]
def wsX1_vacate_r2 : List Cond := [Cond.methodLink RX1 118 yX1_lendableTo, Cond.instanceMethod yX1_lendableTo, Cond.selects RX1 yX1_lendableTo yX1_lendableTo, Cond.code yX1_lendableTo cX1_lendableTo 7 (some .int), Cond.methodLink RX1 95 yX1_firstFreeOf, Cond.instanceMethod yX1_firstFreeOf, Cond.selects RX1 yX1_firstFreeOf yX1_firstFreeOf, Cond.code yX1_firstFreeOf cX1_firstFreeOf 3 (some .int), Cond.methodLink RX1 92 yX1_isFree, Cond.instanceMethod yX1_isFree, Cond.selects RX1 yX1_isFree yX1_isFree, Cond.code yX1_isFree cX1_isFree 4 (some .boolean), Cond.fieldLink RX1 38 "LentSectors$Heads" "client" "[I", Cond.methodLink RX1 86 yX1_isGood, Cond.instanceMethod yX1_isGood, Cond.selects RX1 yX1_isGood yX1_isGood, Cond.code yX1_isGood cX1_isGood 2 (some .boolean), Cond.fieldLink RX1 26 "LentSectors$Heads" "wear" "[I", Cond.fieldLink RX1 9 "LentSectors$Heads" "limit" "I", Cond.methodLink RX1 98 yX1_freeOf, Cond.instanceMethod yX1_freeOf, Cond.selects RX1 yX1_freeOf yX1_freeOf, Cond.code yX1_freeOf cX1_freeOf 4 (some .int), Cond.methodLink RX1 139 yX1_lose]
def wsX1_vacate_r3 : List Cond := [Cond.instanceMethod yX1_lose, Cond.selects RX1 yX1_lose yX1_lose, Cond.code yX1_lose cX1_lose 2 none, Cond.methodLink RX1 142 yX1_release, Cond.instanceMethod yX1_release, Cond.selects RX1 yX1_release yX1_release, Cond.code yX1_release cX1_release 2 none, Cond.methodLink RX1 121 yX1_lend, Cond.instanceMethod yX1_lend, Cond.selects RX1 yX1_lend yX1_lend, Cond.code yX1_lend cX1_lend 3 none, Cond.methodLink RX1 124 yX1_wearByWriting, Cond.instanceMethod yX1_wearByWriting, Cond.selects RX1 yX1_wearByWriting yX1_wearByWriting, Cond.code yX1_wearByWriting cX1_wearByWriting 2 none, Cond.fieldLink RX1 15 "LentSectors$Heads" "ageing" "[I"]
def wsX1_vacate : List Cond := .code yX1_vacate cX1_vacate 4 (some .int) :: ((wsX1_vacate_r1 ++ (wsX1_vacate_r2 ++ wsX1_vacate_r3)) ++ wsX10)
def wsX1_tellAddress_r1 : List Cond := [Cond.fieldLink RX1 29 "LentSectors$Heads" "value" "[I", Cond.fieldLink RX1 35 "LentSectors$Heads" "server" "[I", Cond.fieldLink RX1 32 "LentSectors$Heads" "rescuesOf" "[I", Cond.methodLink RX1 83 yX1_isLost, Cond.instanceMethod yX1_isLost, Cond.selects RX1 yX1_isLost yX1_isLost, Cond.initialized RX1, Cond.code yX1_isLost cX1_isLost 2 (some .boolean), Cond.methodLink RX1 148 yX1_isLongWay, Cond.instanceMethod yX1_isLongWay, Cond.selects RX1 yX1_isLongWay yX1_isLongWay, Cond.code yX1_isLongWay cX1_isLongWay 2 (some .boolean), Cond.methodLink RX1 118 yX1_lendableTo, Cond.instanceMethod yX1_lendableTo, Cond.selects RX1 yX1_lendableTo yX1_lendableTo, Cond.code yX1_lendableTo cX1_lendableTo 7 (some .int), Cond.static yX3_headOf, Cond.initialized RX3, Cond.code yX3_headOf cX3_headOf 1 (some .int), Cond.methodLink RX1 95 yX1_firstFreeOf, Cond.instanceMethod yX1_firstFreeOf, Cond.selects RX1 yX1_firstFreeOf yX1_firstFreeOf, Cond.code yX1_firstFreeOf cX1_firstFreeOf 3 (some .int), Cond.methodLink RX1 92 yX1_isFree]
def wsX1_tellAddress_r2 : List Cond := [Cond.instanceMethod yX1_isFree, Cond.selects RX1 yX1_isFree yX1_isFree, Cond.code yX1_isFree cX1_isFree 4 (some .boolean), Cond.fieldLink RX1 19 "LentSectors$Heads" "spares" "[I", Cond.fieldLink RX1 38 "LentSectors$Heads" "client" "[I", Cond.fieldLink RX1 22 "LentSectors$Heads" "givenUp" "[Z", Cond.static yX3_placeOf, Cond.code yX3_placeOf cX3_placeOf 1 (some .int), Cond.methodLink RX1 86 yX1_isGood, Cond.instanceMethod yX1_isGood, Cond.selects RX1 yX1_isGood yX1_isGood, Cond.code yX1_isGood cX1_isGood 2 (some .boolean), Cond.fieldLink RX1 26 "LentSectors$Heads" "wear" "[I", Cond.fieldLink RX1 9 "LentSectors$Heads" "limit" "I", Cond.methodLink RX1 98 yX1_freeOf, Cond.instanceMethod yX1_freeOf, Cond.selects RX1 yX1_freeOf yX1_freeOf, Cond.code yX1_freeOf cX1_freeOf 4 (some .int), Cond.methodLink RX1 145 yX1_stepsTo, Cond.instanceMethod yX1_stepsTo, Cond.selects RX1 yX1_stepsTo yX1_stepsTo, Cond.code yX1_stepsTo cX1_stepsTo 3 (some .int), Cond.fieldLink RX1 41 "LentSectors$Heads" "arm" "I", Cond.static yX3_stepsBetween]
def wsX1_tellAddress_r3 : List Cond := [Cond.code yX3_stepsBetween cX3_stepsBetween 3 (some .int), Cond.methodLink RX3 151 Lib.Math.abs.name, Cond.static Lib.Math.abs.name, Cond.initialized "java/lang/Math", Cond.code Lib.Math.abs.name Lib.Math.abs.code 1 (some .int), Cond.methodLink RX3 148 yX3_placeOf, Cond.methodLink RX3 156 yX3_headOf]
def wsX1_tellAddress : List Cond := .code yX1_tellAddress cX1_tellAddress 3 (some .int) :: ((wsX1_tellAddress_r1 ++ (wsX1_tellAddress_r2 ++ wsX1_tellAddress_r3)) ++ wsX10)
def wsX1_tellSector_r1 : List Cond := [Cond.fieldLink RX1 26 "LentSectors$Heads" "wear" "[I", Cond.fieldLink RX1 38 "LentSectors$Heads" "client" "[I", Cond.methodLink RX1 154 yX1_gradeOf, Cond.instanceMethod yX1_gradeOf, Cond.selects RX1 yX1_gradeOf yX1_gradeOf, Cond.initialized RX1, Cond.code yX1_gradeOf cX1_gradeOf 2 (some .int), Cond.methodLink RX1 86 yX1_isGood, Cond.instanceMethod yX1_isGood, Cond.selects RX1 yX1_isGood yX1_isGood, Cond.code yX1_isGood cX1_isGood 2 (some .boolean), Cond.fieldLink RX1 9 "LentSectors$Heads" "limit" "I", Cond.methodLink RX1 89 yX1_isBad, Cond.instanceMethod yX1_isBad, Cond.selects RX1 yX1_isBad yX1_isBad, Cond.code yX1_isBad cX1_isBad 2 (some .boolean), Cond.methodLink RX1 69 yX1_isAddress, Cond.instanceMethod yX1_isAddress, Cond.selects RX1 yX1_isAddress yX1_isAddress, Cond.code yX1_isAddress cX1_isAddress 2 (some .boolean), Cond.fieldLink RX1 19 "LentSectors$Heads" "spares" "[I", Cond.static yX3_isSector, Cond.initialized RX3, Cond.code yX3_isSector cX3_isSector 1 (some .boolean)]
def wsX1_tellSector_r2 : List Cond := [Cond.static yX3_placeOf, Cond.code yX3_placeOf cX3_placeOf 1 (some .int), Cond.static yX3_headOf, Cond.code yX3_headOf cX3_headOf 1 (some .int), Cond.methodLink RX1 92 yX1_isFree, Cond.instanceMethod yX1_isFree, Cond.selects RX1 yX1_isFree yX1_isFree, Cond.code yX1_isFree cX1_isFree 4 (some .boolean), Cond.fieldLink RX1 22 "LentSectors$Heads" "givenUp" "[Z"]
def wsX1_tellSector : List Cond := .code yX1_tellSector cX1_tellSector 3 (some .int) :: ((wsX1_tellSector_r1 ++ wsX1_tellSector_r2) ++ wsX10)
def wsX1_leadingElsewhere : List Cond := .code yX1_leadingElsewhere cX1_leadingElsewhere 6 (some .int) :: ([.static yX3_headOf, .initialized RX3, .code yX3_headOf cX3_headOf 1 (some .int)])
def wsX1_gradedOf : List Cond := .code yX1_gradedOf cX1_gradedOf 5 (some .int) :: ([.methodLink RX1 154 yX1_gradeOf, .instanceMethod yX1_gradeOf, .selects RX1 yX1_gradeOf yX1_gradeOf, .initialized RX1, .code yX1_gradeOf cX1_gradeOf 2 (some .int), .methodLink RX1 86 yX1_isGood, .instanceMethod yX1_isGood, .selects RX1 yX1_isGood yX1_isGood, .code yX1_isGood cX1_isGood 2 (some .boolean), .fieldLink RX1 26 "LentSectors$Heads" "wear" "[I", .fieldLink RX1 9 "LentSectors$Heads" "limit" "I", .methodLink RX1 89 yX1_isBad, .instanceMethod yX1_isBad, .selects RX1 yX1_isBad yX1_isBad, .code yX1_isBad cX1_isBad 2 (some .boolean)] ++ wsX10)
def wsX1_tellHead_r1 : List Cond := [Cond.fieldLink RX1 15 "LentSectors$Heads" "ageing" "[I", Cond.fieldLink RX1 19 "LentSectors$Heads" "spares" "[I", Cond.fieldLink RX1 22 "LentSectors$Heads" "givenUp" "[Z", Cond.fieldLink RX1 38 "LentSectors$Heads" "client" "[I", Cond.fieldLink RX1 35 "LentSectors$Heads" "server" "[I", Cond.methodLink RX1 98 yX1_freeOf, Cond.instanceMethod yX1_freeOf, Cond.selects RX1 yX1_freeOf yX1_freeOf, Cond.initialized RX1, Cond.code yX1_freeOf cX1_freeOf 4 (some .int), Cond.methodLink RX1 92 yX1_isFree, Cond.instanceMethod yX1_isFree, Cond.selects RX1 yX1_isFree yX1_isFree, Cond.code yX1_isFree cX1_isFree 4 (some .boolean), Cond.static yX3_headOf, Cond.initialized RX3, Cond.code yX3_headOf cX3_headOf 1 (some .int), Cond.static yX3_placeOf, Cond.code yX3_placeOf cX3_placeOf 1 (some .int), Cond.methodLink RX1 86 yX1_isGood, Cond.instanceMethod yX1_isGood, Cond.selects RX1 yX1_isGood yX1_isGood, Cond.code yX1_isGood cX1_isGood 2 (some .boolean), Cond.fieldLink RX1 26 "LentSectors$Heads" "wear" "[I"]
def wsX1_tellHead_r2 : List Cond := [Cond.fieldLink RX1 9 "LentSectors$Heads" "limit" "I", Cond.methodLink RX1 157 yX1_leadingElsewhere, Cond.instanceMethod yX1_leadingElsewhere, Cond.selects RX1 yX1_leadingElsewhere yX1_leadingElsewhere, Cond.code yX1_leadingElsewhere cX1_leadingElsewhere 6 (some .int), Cond.methodLink RX1 133 yX1_lostOf, Cond.instanceMethod yX1_lostOf, Cond.selects RX1 yX1_lostOf yX1_lostOf, Cond.code yX1_lostOf cX1_lostOf 4 (some .int), Cond.methodLink RX1 83 yX1_isLost, Cond.instanceMethod yX1_isLost, Cond.selects RX1 yX1_isLost yX1_isLost, Cond.code yX1_isLost cX1_isLost 2 (some .boolean), Cond.methodLink RX1 105 yX1_wearOf, Cond.instanceMethod yX1_wearOf, Cond.selects RX1 yX1_wearOf yX1_wearOf, Cond.code yX1_wearOf cX1_wearOf 4 (some .int), Cond.methodLink RX1 161 yX1_gradedOf, Cond.instanceMethod yX1_gradedOf, Cond.selects RX1 yX1_gradedOf yX1_gradedOf, Cond.code yX1_gradedOf cX1_gradedOf 5 (some .int), Cond.methodLink RX1 154 yX1_gradeOf, Cond.instanceMethod yX1_gradeOf, Cond.selects RX1 yX1_gradeOf yX1_gradeOf]
def wsX1_tellHead_r3 : List Cond := [Cond.code yX1_gradeOf cX1_gradeOf 2 (some .int), Cond.methodLink RX1 89 yX1_isBad, Cond.instanceMethod yX1_isBad, Cond.selects RX1 yX1_isBad yX1_isBad, Cond.code yX1_isBad cX1_isBad 2 (some .boolean)]
def wsX1_tellHead : List Cond := .code yX1_tellHead cX1_tellHead 3 (some .int) :: ((wsX1_tellHead_r1 ++ (wsX1_tellHead_r2 ++ wsX1_tellHead_r3)) ++ wsX10)
def wsX1_overHeads_r1 : List Cond := [Cond.methodLink RX1 177 yX1_tellHead, Cond.instanceMethod yX1_tellHead, Cond.selects RX1 yX1_tellHead yX1_tellHead, Cond.initialized RX1, Cond.code yX1_tellHead cX1_tellHead 3 (some .int), Cond.fieldLink RX1 15 "LentSectors$Heads" "ageing" "[I", Cond.fieldLink RX1 19 "LentSectors$Heads" "spares" "[I", Cond.fieldLink RX1 22 "LentSectors$Heads" "givenUp" "[Z", Cond.fieldLink RX1 38 "LentSectors$Heads" "client" "[I", Cond.fieldLink RX1 35 "LentSectors$Heads" "server" "[I", Cond.methodLink RX1 98 yX1_freeOf, Cond.instanceMethod yX1_freeOf, Cond.selects RX1 yX1_freeOf yX1_freeOf, Cond.code yX1_freeOf cX1_freeOf 4 (some .int), Cond.methodLink RX1 92 yX1_isFree, Cond.instanceMethod yX1_isFree, Cond.selects RX1 yX1_isFree yX1_isFree, Cond.code yX1_isFree cX1_isFree 4 (some .boolean), Cond.static yX3_headOf, Cond.initialized RX3, Cond.code yX3_headOf cX3_headOf 1 (some .int), Cond.static yX3_placeOf, Cond.code yX3_placeOf cX3_placeOf 1 (some .int), Cond.methodLink RX1 86 yX1_isGood]
def wsX1_overHeads_r2 : List Cond := [Cond.instanceMethod yX1_isGood, Cond.selects RX1 yX1_isGood yX1_isGood, Cond.code yX1_isGood cX1_isGood 2 (some .boolean), Cond.fieldLink RX1 26 "LentSectors$Heads" "wear" "[I", Cond.fieldLink RX1 9 "LentSectors$Heads" "limit" "I", Cond.methodLink RX1 157 yX1_leadingElsewhere, Cond.instanceMethod yX1_leadingElsewhere, Cond.selects RX1 yX1_leadingElsewhere yX1_leadingElsewhere, Cond.code yX1_leadingElsewhere cX1_leadingElsewhere 6 (some .int), Cond.methodLink RX1 133 yX1_lostOf, Cond.instanceMethod yX1_lostOf, Cond.selects RX1 yX1_lostOf yX1_lostOf, Cond.code yX1_lostOf cX1_lostOf 4 (some .int), Cond.methodLink RX1 83 yX1_isLost, Cond.instanceMethod yX1_isLost, Cond.selects RX1 yX1_isLost yX1_isLost, Cond.code yX1_isLost cX1_isLost 2 (some .boolean), Cond.methodLink RX1 105 yX1_wearOf, Cond.instanceMethod yX1_wearOf, Cond.selects RX1 yX1_wearOf yX1_wearOf, Cond.code yX1_wearOf cX1_wearOf 4 (some .int), Cond.methodLink RX1 161 yX1_gradedOf, Cond.instanceMethod yX1_gradedOf, Cond.selects RX1 yX1_gradedOf yX1_gradedOf]
def wsX1_overHeads_r3 : List Cond := [Cond.code yX1_gradedOf cX1_gradedOf 5 (some .int), Cond.methodLink RX1 154 yX1_gradeOf, Cond.instanceMethod yX1_gradeOf, Cond.selects RX1 yX1_gradeOf yX1_gradeOf, Cond.code yX1_gradeOf cX1_gradeOf 2 (some .int), Cond.methodLink RX1 89 yX1_isBad, Cond.instanceMethod yX1_isBad, Cond.selects RX1 yX1_isBad yX1_isBad, Cond.code yX1_isBad cX1_isBad 2 (some .boolean)]
def wsX1_overHeads : List Cond := .code yX1_overHeads cX1_overHeads 4 (some .int) :: ((wsX1_overHeads_r1 ++ (wsX1_overHeads_r2 ++ wsX1_overHeads_r3)) ++ wsX10)
def wsX1_longWayCount : List Cond := .code yX1_longWayCount cX1_longWayCount 3 (some .int) :: ([.methodLink RX1 69 yX1_isAddress, .instanceMethod yX1_isAddress, .selects RX1 yX1_isAddress yX1_isAddress, .initialized RX1, .code yX1_isAddress cX1_isAddress 2 (some .boolean), .fieldLink RX1 19 "LentSectors$Heads" "spares" "[I", .static yX3_isSector, .initialized RX3, .code yX3_isSector cX3_isSector 1 (some .boolean), .static yX3_placeOf, .code yX3_placeOf cX3_placeOf 1 (some .int), .static yX3_headOf, .code yX3_headOf cX3_headOf 1 (some .int), .methodLink RX1 148 yX1_isLongWay, .instanceMethod yX1_isLongWay, .selects RX1 yX1_isLongWay yX1_isLongWay, .code yX1_isLongWay cX1_isLongWay 2 (some .boolean), .fieldLink RX1 35 "LentSectors$Heads" "server" "[I", .methodLink RX1 83 yX1_isLost, .instanceMethod yX1_isLost, .selects RX1 yX1_isLost yX1_isLost, .code yX1_isLost cX1_isLost 2 (some .boolean)] ++ wsX10)
def wsX1_tellWhole_r1 : List Cond := [Cond.fieldLink RX1 9 "LentSectors$Heads" "limit" "I", Cond.fieldLink RX1 41 "LentSectors$Heads" "arm" "I", Cond.fieldLink RX1 44 "LentSectors$Heads" "steps" "I", Cond.fieldLink RX1 47 "LentSectors$Heads" "rescues" "I", Cond.fieldLink RX1 50 "LentSectors$Heads" "losses" "I", Cond.fieldLink RX1 53 "LentSectors$Heads" "reads" "I", Cond.fieldLink RX1 56 "LentSectors$Heads" "writes" "I", Cond.methodLink RX1 164 yX1_overHeads, Cond.instanceMethod yX1_overHeads, Cond.selects RX1 yX1_overHeads yX1_overHeads, Cond.initialized RX1, Cond.code yX1_overHeads cX1_overHeads 4 (some .int), Cond.methodLink RX1 177 yX1_tellHead, Cond.instanceMethod yX1_tellHead, Cond.selects RX1 yX1_tellHead yX1_tellHead, Cond.code yX1_tellHead cX1_tellHead 3 (some .int), Cond.fieldLink RX1 15 "LentSectors$Heads" "ageing" "[I", Cond.fieldLink RX1 19 "LentSectors$Heads" "spares" "[I", Cond.fieldLink RX1 22 "LentSectors$Heads" "givenUp" "[Z", Cond.fieldLink RX1 38 "LentSectors$Heads" "client" "[I", Cond.fieldLink RX1 35 "LentSectors$Heads" "server" "[I", Cond.methodLink RX1 98 yX1_freeOf, Cond.instanceMethod yX1_freeOf, Cond.selects RX1 yX1_freeOf yX1_freeOf]
def wsX1_tellWhole_r2 : List Cond := [Cond.code yX1_freeOf cX1_freeOf 4 (some .int), Cond.methodLink RX1 92 yX1_isFree, Cond.instanceMethod yX1_isFree, Cond.selects RX1 yX1_isFree yX1_isFree, Cond.code yX1_isFree cX1_isFree 4 (some .boolean), Cond.static yX3_headOf, Cond.initialized RX3, Cond.code yX3_headOf cX3_headOf 1 (some .int), Cond.static yX3_placeOf, Cond.code yX3_placeOf cX3_placeOf 1 (some .int), Cond.methodLink RX1 86 yX1_isGood, Cond.instanceMethod yX1_isGood, Cond.selects RX1 yX1_isGood yX1_isGood, Cond.code yX1_isGood cX1_isGood 2 (some .boolean), Cond.fieldLink RX1 26 "LentSectors$Heads" "wear" "[I", Cond.methodLink RX1 157 yX1_leadingElsewhere, Cond.instanceMethod yX1_leadingElsewhere, Cond.selects RX1 yX1_leadingElsewhere yX1_leadingElsewhere, Cond.code yX1_leadingElsewhere cX1_leadingElsewhere 6 (some .int), Cond.methodLink RX1 133 yX1_lostOf, Cond.instanceMethod yX1_lostOf, Cond.selects RX1 yX1_lostOf yX1_lostOf, Cond.code yX1_lostOf cX1_lostOf 4 (some .int), Cond.methodLink RX1 83 yX1_isLost]
def wsX1_tellWhole_r3 : List Cond := [Cond.instanceMethod yX1_isLost, Cond.selects RX1 yX1_isLost yX1_isLost, Cond.code yX1_isLost cX1_isLost 2 (some .boolean), Cond.methodLink RX1 105 yX1_wearOf, Cond.instanceMethod yX1_wearOf, Cond.selects RX1 yX1_wearOf yX1_wearOf, Cond.code yX1_wearOf cX1_wearOf 4 (some .int), Cond.methodLink RX1 161 yX1_gradedOf, Cond.instanceMethod yX1_gradedOf, Cond.selects RX1 yX1_gradedOf yX1_gradedOf, Cond.code yX1_gradedOf cX1_gradedOf 5 (some .int), Cond.methodLink RX1 154 yX1_gradeOf, Cond.instanceMethod yX1_gradeOf, Cond.selects RX1 yX1_gradeOf yX1_gradeOf, Cond.code yX1_gradeOf cX1_gradeOf 2 (some .int), Cond.methodLink RX1 89 yX1_isBad, Cond.instanceMethod yX1_isBad, Cond.selects RX1 yX1_isBad yX1_isBad, Cond.code yX1_isBad cX1_isBad 2 (some .boolean), Cond.methodLink RX1 167 yX1_longWayCount, Cond.instanceMethod yX1_longWayCount, Cond.selects RX1 yX1_longWayCount yX1_longWayCount, Cond.code yX1_longWayCount cX1_longWayCount 3 (some .int), Cond.methodLink RX1 69 yX1_isAddress]
def wsX1_tellWhole_r4 : List Cond := [Cond.instanceMethod yX1_isAddress, Cond.selects RX1 yX1_isAddress yX1_isAddress, Cond.code yX1_isAddress cX1_isAddress 2 (some .boolean), Cond.static yX3_isSector, Cond.code yX3_isSector cX3_isSector 1 (some .boolean), Cond.methodLink RX1 148 yX1_isLongWay, Cond.instanceMethod yX1_isLongWay, Cond.selects RX1 yX1_isLongWay yX1_isLongWay, Cond.code yX1_isLongWay cX1_isLongWay 2 (some .boolean)]
def wsX1_tellWhole : List Cond := .code yX1_tellWhole cX1_tellWhole 2 (some .int) :: ((wsX1_tellWhole_r1 ++ (wsX1_tellWhole_r2 ++ (wsX1_tellWhole_r3 ++ wsX1_tellWhole_r4))) ++ wsX10)
def wsX1_readsUntilChange_r1 : List Cond := [Cond.fieldLink RX1 35 "LentSectors$Heads" "server" "[I", Cond.fieldLink RX1 9 "LentSectors$Heads" "limit" "I", Cond.fieldLink RX1 26 "LentSectors$Heads" "wear" "[I", Cond.fieldLink RX1 15 "LentSectors$Heads" "ageing" "[I", Cond.methodLink RX1 69 yX1_isAddress, Cond.instanceMethod yX1_isAddress, Cond.selects RX1 yX1_isAddress yX1_isAddress, Cond.initialized RX1, Cond.code yX1_isAddress cX1_isAddress 2 (some .boolean), Cond.fieldLink RX1 19 "LentSectors$Heads" "spares" "[I", Cond.static yX3_isSector, Cond.initialized RX3, Cond.code yX3_isSector cX3_isSector 1 (some .boolean), Cond.static yX3_placeOf, Cond.code yX3_placeOf cX3_placeOf 1 (some .int), Cond.static yX3_headOf, Cond.code yX3_headOf cX3_headOf 1 (some .int), Cond.methodLink RX1 83 yX1_isLost, Cond.instanceMethod yX1_isLost, Cond.selects RX1 yX1_isLost yX1_isLost, Cond.code yX1_isLost cX1_isLost 2 (some .boolean), Cond.methodLink RX1 118 yX1_lendableTo, Cond.instanceMethod yX1_lendableTo, Cond.selects RX1 yX1_lendableTo yX1_lendableTo]
def wsX1_readsUntilChange_r2 : List Cond := [Cond.code yX1_lendableTo cX1_lendableTo 7 (some .int), Cond.methodLink RX1 95 yX1_firstFreeOf, Cond.instanceMethod yX1_firstFreeOf, Cond.selects RX1 yX1_firstFreeOf yX1_firstFreeOf, Cond.code yX1_firstFreeOf cX1_firstFreeOf 3 (some .int), Cond.methodLink RX1 92 yX1_isFree, Cond.instanceMethod yX1_isFree, Cond.selects RX1 yX1_isFree yX1_isFree, Cond.code yX1_isFree cX1_isFree 4 (some .boolean), Cond.fieldLink RX1 38 "LentSectors$Heads" "client" "[I", Cond.fieldLink RX1 22 "LentSectors$Heads" "givenUp" "[Z", Cond.methodLink RX1 86 yX1_isGood, Cond.instanceMethod yX1_isGood, Cond.selects RX1 yX1_isGood yX1_isGood, Cond.code yX1_isGood cX1_isGood 2 (some .boolean), Cond.methodLink RX1 98 yX1_freeOf, Cond.instanceMethod yX1_freeOf, Cond.selects RX1 yX1_freeOf yX1_freeOf, Cond.code yX1_freeOf cX1_freeOf 4 (some .int)]
def wsX1_readsUntilChange : List Cond := .code yX1_readsUntilChange cX1_readsUntilChange 6 (some .int) :: ((wsX1_readsUntilChange_r1 ++ wsX1_readsUntilChange_r2) ++ wsX10)
def wsX1_hasRank : List Cond := .code yX1_hasRank cX1_hasRank 2 (some .boolean) :: ([.methodLink RX1 69 yX1_isAddress, .instanceMethod yX1_isAddress, .selects RX1 yX1_isAddress yX1_isAddress, .initialized RX1, .code yX1_isAddress cX1_isAddress 2 (some .boolean), .fieldLink RX1 19 "LentSectors$Heads" "spares" "[I", .static yX3_isSector, .initialized RX3, .code yX3_isSector cX3_isSector 1 (some .boolean), .static yX3_placeOf, .code yX3_placeOf cX3_placeOf 1 (some .int), .static yX3_headOf, .code yX3_headOf cX3_headOf 1 (some .int), .methodLink RX1 83 yX1_isLost, .instanceMethod yX1_isLost, .selects RX1 yX1_isLost yX1_isLost, .code yX1_isLost cX1_isLost 2 (some .boolean), .fieldLink RX1 35 "LentSectors$Heads" "server" "[I"] ++ wsX10)
def wsX1_rankOf : List Cond := .code yX1_rankOf cX1_rankOf 6 (some .int) :: ([.fieldLink RX1 26 "LentSectors$Heads" "wear" "[I", .fieldLink RX1 35 "LentSectors$Heads" "server" "[I", .methodLink RX1 171 yX1_hasRank, .instanceMethod yX1_hasRank, .selects RX1 yX1_hasRank yX1_hasRank, .initialized RX1, .code yX1_hasRank cX1_hasRank 2 (some .boolean), .methodLink RX1 69 yX1_isAddress, .instanceMethod yX1_isAddress, .selects RX1 yX1_isAddress yX1_isAddress, .code yX1_isAddress cX1_isAddress 2 (some .boolean), .fieldLink RX1 19 "LentSectors$Heads" "spares" "[I", .static yX3_isSector, .initialized RX3, .code yX3_isSector cX3_isSector 1 (some .boolean), .static yX3_placeOf, .code yX3_placeOf cX3_placeOf 1 (some .int), .static yX3_headOf, .code yX3_headOf cX3_headOf 1 (some .int), .methodLink RX1 83 yX1_isLost, .instanceMethod yX1_isLost, .selects RX1 yX1_isLost yX1_isLost, .code yX1_isLost cX1_isLost 2 (some .boolean)] ++ wsX10)
def wsX1_addressOfRank_r1 : List Cond := [Cond.methodLink RX1 171 yX1_hasRank, Cond.instanceMethod yX1_hasRank, Cond.selects RX1 yX1_hasRank yX1_hasRank, Cond.initialized RX1, Cond.code yX1_hasRank cX1_hasRank 2 (some .boolean), Cond.methodLink RX1 69 yX1_isAddress, Cond.instanceMethod yX1_isAddress, Cond.selects RX1 yX1_isAddress yX1_isAddress, Cond.code yX1_isAddress cX1_isAddress 2 (some .boolean), Cond.fieldLink RX1 19 "LentSectors$Heads" "spares" "[I", Cond.static yX3_isSector, Cond.initialized RX3, Cond.code yX3_isSector cX3_isSector 1 (some .boolean), Cond.static yX3_placeOf, Cond.code yX3_placeOf cX3_placeOf 1 (some .int), Cond.static yX3_headOf, Cond.code yX3_headOf cX3_headOf 1 (some .int), Cond.methodLink RX1 83 yX1_isLost, Cond.instanceMethod yX1_isLost, Cond.selects RX1 yX1_isLost yX1_isLost, Cond.code yX1_isLost cX1_isLost 2 (some .boolean), Cond.fieldLink RX1 35 "LentSectors$Heads" "server" "[I", Cond.methodLink RX1 174 yX1_rankOf, Cond.instanceMethod yX1_rankOf]
def wsX1_addressOfRank_r2 : List Cond := [Cond.selects RX1 yX1_rankOf yX1_rankOf, Cond.code yX1_rankOf cX1_rankOf 6 (some .int), Cond.fieldLink RX1 26 "LentSectors$Heads" "wear" "[I"]
def wsX1_addressOfRank : List Cond := .code yX1_addressOfRank cX1_addressOfRank 3 (some .int) :: ((wsX1_addressOfRank_r1 ++ wsX1_addressOfRank_r2) ++ wsX10)
def wsX2_init_r1 : List Cond := [Cond.methodLink RX2 3 objectInit, Cond.instanceMethod objectInit, Cond.code objectInit ⟨#[0xb1]⟩ 1 none, Cond.classLink RX2 9 RX1, Cond.fieldLink RX2 11 "LentSectors$History" "rooms" "[LLentSectors$Heads;", Cond.fieldLink RX2 17 "LentSectors$History" "oldest" "I", Cond.fieldLink RX2 21 "LentSectors$History" "many" "I", Cond.instantiable RX1 15, Cond.initialized RX1, Cond.methodLink RX2 24 yX1_init, Cond.instanceMethod yX1_init, Cond.code yX1_init cX1_init 2 none, Cond.methodLink RX1 3 objectInit, Cond.fieldLink RX1 9 "LentSectors$Heads" "limit" "I", Cond.arrayClass .int, Cond.fieldLink RX1 15 "LentSectors$Heads" "ageing" "[I", Cond.fieldLink RX1 19 "LentSectors$Heads" "spares" "[I", Cond.arrayClass .boolean, Cond.fieldLink RX1 22 "LentSectors$Heads" "givenUp" "[Z", Cond.fieldLink RX1 26 "LentSectors$Heads" "wear" "[I", Cond.fieldLink RX1 29 "LentSectors$Heads" "value" "[I", Cond.fieldLink RX1 32 "LentSectors$Heads" "rescuesOf" "[I", Cond.fieldLink RX1 35 "LentSectors$Heads" "server" "[I", Cond.fieldLink RX1 38 "LentSectors$Heads" "client" "[I"]
def wsX2_init_r2 : List Cond := [Cond.fieldLink RX1 41 "LentSectors$Heads" "arm" "I", Cond.fieldLink RX1 44 "LentSectors$Heads" "steps" "I", Cond.fieldLink RX1 47 "LentSectors$Heads" "rescues" "I", Cond.fieldLink RX1 50 "LentSectors$Heads" "losses" "I", Cond.fieldLink RX1 53 "LentSectors$Heads" "reads" "I", Cond.fieldLink RX1 56 "LentSectors$Heads" "writes" "I", Cond.methodLink RX1 59 yX1_divide, Cond.instanceMethod yX1_divide, Cond.selects RX1 yX1_divide yX1_divide, Cond.code yX1_divide cX1_divide 6 none, Cond.methodLink RX1 69 yX1_isAddress, Cond.instanceMethod yX1_isAddress, Cond.selects RX1 yX1_isAddress yX1_isAddress, Cond.code yX1_isAddress cX1_isAddress 2 (some .boolean), Cond.static yX3_isSector, Cond.initialized RX3, Cond.code yX3_isSector cX3_isSector 1 (some .boolean), Cond.static yX3_placeOf, Cond.code yX3_placeOf cX3_placeOf 1 (some .int), Cond.static yX3_headOf, Cond.code yX3_headOf cX3_headOf 1 (some .int)]
def wsX2_init : List Cond := .code yX2_init cX2_init 2 none :: ((wsX2_init_r1 ++ wsX2_init_r2) ++ wsX20 ++ wsX10)
def wsX2_states : List Cond := .code yX2_states cX2_states 1 (some .int) :: ([.fieldLink RX2 21 "LentSectors$History" "many" "I"] ++ wsX20)
def wsX2_record_r1 : List Cond := [Cond.fieldLink RX2 21 "LentSectors$History" "many" "I", Cond.fieldLink RX2 17 "LentSectors$History" "oldest" "I", Cond.fieldLink RX2 11 "LentSectors$History" "rooms" "[LLentSectors$Heads;", Cond.methodLink RX2 25 yX1_takeOver, Cond.instanceMethod yX1_takeOver, Cond.selects RX1 yX1_takeOver yX1_takeOver, Cond.initialized RX1, Cond.code yX1_takeOver cX1_takeOver 2 none, Cond.fieldLink RX1 9 "LentSectors$Heads" "limit" "I", Cond.fieldLink RX1 15 "LentSectors$Heads" "ageing" "[I", Cond.methodLink RX1 63 arraycopyName, Cond.native arraycopyName, Cond.static arraycopyName, Cond.initialized "java/lang/System", Cond.fieldLink RX1 19 "LentSectors$Heads" "spares" "[I", Cond.fieldLink RX1 22 "LentSectors$Heads" "givenUp" "[Z", Cond.fieldLink RX1 26 "LentSectors$Heads" "wear" "[I", Cond.fieldLink RX1 29 "LentSectors$Heads" "value" "[I", Cond.fieldLink RX1 32 "LentSectors$Heads" "rescuesOf" "[I", Cond.fieldLink RX1 35 "LentSectors$Heads" "server" "[I", Cond.fieldLink RX1 38 "LentSectors$Heads" "client" "[I", Cond.fieldLink RX1 41 "LentSectors$Heads" "arm" "I", Cond.fieldLink RX1 44 "LentSectors$Heads" "steps" "I", Cond.fieldLink RX1 47 "LentSectors$Heads" "rescues" "I"]
def wsX2_record_r2 : List Cond := [Cond.fieldLink RX1 50 "LentSectors$Heads" "losses" "I", Cond.fieldLink RX1 53 "LentSectors$Heads" "reads" "I", Cond.fieldLink RX1 56 "LentSectors$Heads" "writes" "I"]
def wsX2_record : List Cond := .code yX2_record cX2_record 2 none :: ((wsX2_record_r1 ++ wsX2_record_r2) ++ wsX20 ++ wsX10)
def wsX2_takeBack_r1 : List Cond := [Cond.fieldLink RX2 21 "LentSectors$History" "many" "I", Cond.fieldLink RX2 11 "LentSectors$History" "rooms" "[LLentSectors$Heads;", Cond.fieldLink RX2 17 "LentSectors$History" "oldest" "I", Cond.methodLink RX2 25 yX1_takeOver, Cond.instanceMethod yX1_takeOver, Cond.selects RX1 yX1_takeOver yX1_takeOver, Cond.initialized RX1, Cond.code yX1_takeOver cX1_takeOver 2 none, Cond.fieldLink RX1 9 "LentSectors$Heads" "limit" "I", Cond.fieldLink RX1 15 "LentSectors$Heads" "ageing" "[I", Cond.methodLink RX1 63 arraycopyName, Cond.native arraycopyName, Cond.static arraycopyName, Cond.initialized "java/lang/System", Cond.fieldLink RX1 19 "LentSectors$Heads" "spares" "[I", Cond.fieldLink RX1 22 "LentSectors$Heads" "givenUp" "[Z", Cond.fieldLink RX1 26 "LentSectors$Heads" "wear" "[I", Cond.fieldLink RX1 29 "LentSectors$Heads" "value" "[I", Cond.fieldLink RX1 32 "LentSectors$Heads" "rescuesOf" "[I", Cond.fieldLink RX1 35 "LentSectors$Heads" "server" "[I", Cond.fieldLink RX1 38 "LentSectors$Heads" "client" "[I", Cond.fieldLink RX1 41 "LentSectors$Heads" "arm" "I", Cond.fieldLink RX1 44 "LentSectors$Heads" "steps" "I", Cond.fieldLink RX1 47 "LentSectors$Heads" "rescues" "I"]
def wsX2_takeBack_r2 : List Cond := [Cond.fieldLink RX1 50 "LentSectors$Heads" "losses" "I", Cond.fieldLink RX1 53 "LentSectors$Heads" "reads" "I", Cond.fieldLink RX1 56 "LentSectors$Heads" "writes" "I"]
def wsX2_takeBack : List Cond := .code yX2_takeBack cX2_takeBack 2 none :: ((wsX2_takeBack_r1 ++ wsX2_takeBack_r2) ++ wsX20 ++ wsX10)
def wsX3_init_r1 : List Cond := [Cond.methodLink RX3 3 objectInit, Cond.instanceMethod objectInit, Cond.code objectInit ⟨#[0xb1]⟩ 1 none, Cond.classLink RX3 9 RX1, Cond.instantiable RX1 15, Cond.initialized RX1, Cond.fieldLink RX3 12 "LentSectors" "now" "LLentSectors$Heads;", Cond.fieldLink RX3 16 "LentSectors" "trial" "LLentSectors$Heads;", Cond.fieldLink RX3 19 "LentSectors" "kept" "LLentSectors$Heads;", Cond.classLink RX3 22 RX2, Cond.instantiable RX2 3, Cond.initialized RX2, Cond.fieldLink RX3 25 "LentSectors" "history" "LLentSectors$History;", Cond.classLink RX3 29 RX0, Cond.instantiable RX0 6, Cond.initialized RX0, Cond.fieldLink RX3 32 "LentSectors" "text" "LLentSectors$CommandText;", Cond.fieldLink RX3 36 "LentSectors" "hasKept" "Z", Cond.methodLink RX3 11 yX1_init, Cond.instanceMethod yX1_init, Cond.code yX1_init cX1_init 2 none, Cond.methodLink RX1 3 objectInit, Cond.fieldLink RX1 9 "LentSectors$Heads" "limit" "I", Cond.arrayClass .int]
def wsX3_init_r2 : List Cond := [Cond.fieldLink RX1 15 "LentSectors$Heads" "ageing" "[I", Cond.fieldLink RX1 19 "LentSectors$Heads" "spares" "[I", Cond.arrayClass .boolean, Cond.fieldLink RX1 22 "LentSectors$Heads" "givenUp" "[Z", Cond.fieldLink RX1 26 "LentSectors$Heads" "wear" "[I", Cond.fieldLink RX1 29 "LentSectors$Heads" "value" "[I", Cond.fieldLink RX1 32 "LentSectors$Heads" "rescuesOf" "[I", Cond.fieldLink RX1 35 "LentSectors$Heads" "server" "[I", Cond.fieldLink RX1 38 "LentSectors$Heads" "client" "[I", Cond.fieldLink RX1 41 "LentSectors$Heads" "arm" "I", Cond.fieldLink RX1 44 "LentSectors$Heads" "steps" "I", Cond.fieldLink RX1 47 "LentSectors$Heads" "rescues" "I", Cond.fieldLink RX1 50 "LentSectors$Heads" "losses" "I", Cond.fieldLink RX1 53 "LentSectors$Heads" "reads" "I", Cond.fieldLink RX1 56 "LentSectors$Heads" "writes" "I", Cond.methodLink RX1 59 yX1_divide, Cond.instanceMethod yX1_divide, Cond.selects RX1 yX1_divide yX1_divide, Cond.code yX1_divide cX1_divide 6 none, Cond.methodLink RX1 69 yX1_isAddress, Cond.instanceMethod yX1_isAddress, Cond.selects RX1 yX1_isAddress yX1_isAddress, Cond.code yX1_isAddress cX1_isAddress 2 (some .boolean), Cond.static yX3_isSector]
def wsX3_init_r3 : List Cond := [Cond.initialized RX3, Cond.code yX3_isSector cX3_isSector 1 (some .boolean), Cond.static yX3_placeOf, Cond.code yX3_placeOf cX3_placeOf 1 (some .int), Cond.static yX3_headOf, Cond.code yX3_headOf cX3_headOf 1 (some .int), Cond.methodLink RX3 24 yX2_init, Cond.instanceMethod yX2_init, Cond.code yX2_init cX2_init 2 none, Cond.methodLink RX2 3 objectInit, Cond.classLink RX2 9 RX1, Cond.fieldLink RX2 11 "LentSectors$History" "rooms" "[LLentSectors$Heads;", Cond.fieldLink RX2 17 "LentSectors$History" "oldest" "I", Cond.fieldLink RX2 21 "LentSectors$History" "many" "I", Cond.methodLink RX2 24 yX1_init, Cond.instanceMethod yX0_init, Cond.code yX0_init cX0_init 1 none, Cond.methodLink RX0 3 objectInit, Cond.fieldLink RX0 9 "LentSectors$CommandText" "codes" "[I", Cond.fieldLink RX0 15 "LentSectors$CommandText" "length" "I", Cond.fieldLink RX0 19 "LentSectors$CommandText" "sectors" "[I", Cond.fieldLink RX0 22 "LentSectors$CommandText" "values" "[I", Cond.fieldLink RX0 25 "LentSectors$CommandText" "commands" "I", Cond.fieldLink RX0 28 "LentSectors$CommandText" "at" "I"]
def wsX3_init : List Cond := .code yX3_init cX3_init 1 none :: ((wsX3_init_r1 ++ (wsX3_init_r2 ++ wsX3_init_r3)) ++ wsX10 ++ wsX30 ++ wsX20 ++ wsX00)
def wsX3_startTrial_r1 : List Cond := [Cond.fieldLink RX3 16 "LentSectors" "trial" "LLentSectors$Heads;", Cond.fieldLink RX3 12 "LentSectors" "now" "LLentSectors$Heads;", Cond.methodLink RX3 115 yX1_takeOver, Cond.instanceMethod yX1_takeOver, Cond.selects RX1 yX1_takeOver yX1_takeOver, Cond.initialized RX1, Cond.code yX1_takeOver cX1_takeOver 2 none, Cond.fieldLink RX1 9 "LentSectors$Heads" "limit" "I", Cond.fieldLink RX1 15 "LentSectors$Heads" "ageing" "[I", Cond.methodLink RX1 63 arraycopyName, Cond.native arraycopyName, Cond.static arraycopyName, Cond.initialized "java/lang/System", Cond.fieldLink RX1 19 "LentSectors$Heads" "spares" "[I", Cond.fieldLink RX1 22 "LentSectors$Heads" "givenUp" "[Z", Cond.fieldLink RX1 26 "LentSectors$Heads" "wear" "[I", Cond.fieldLink RX1 29 "LentSectors$Heads" "value" "[I", Cond.fieldLink RX1 32 "LentSectors$Heads" "rescuesOf" "[I", Cond.fieldLink RX1 35 "LentSectors$Heads" "server" "[I", Cond.fieldLink RX1 38 "LentSectors$Heads" "client" "[I", Cond.fieldLink RX1 41 "LentSectors$Heads" "arm" "I", Cond.fieldLink RX1 44 "LentSectors$Heads" "steps" "I", Cond.fieldLink RX1 47 "LentSectors$Heads" "rescues" "I", Cond.fieldLink RX1 50 "LentSectors$Heads" "losses" "I"]
def wsX3_startTrial_r2 : List Cond := [Cond.fieldLink RX1 53 "LentSectors$Heads" "reads" "I", Cond.fieldLink RX1 56 "LentSectors$Heads" "writes" "I"]
def wsX3_startTrial : List Cond := .code yX3_startTrial cX3_startTrial 1 none :: ((wsX3_startTrial_r1 ++ wsX3_startTrial_r2) ++ wsX30 ++ wsX10)
def wsX3_settle_r1 : List Cond := [Cond.fieldLink RX3 25 "LentSectors" "history" "LLentSectors$History;", Cond.fieldLink RX3 12 "LentSectors" "now" "LLentSectors$Heads;", Cond.fieldLink RX3 16 "LentSectors" "trial" "LLentSectors$Heads;", Cond.methodLink RX3 145 yX2_record, Cond.instanceMethod yX2_record, Cond.selects RX2 yX2_record yX2_record, Cond.initialized RX2, Cond.code yX2_record cX2_record 2 none, Cond.fieldLink RX2 21 "LentSectors$History" "many" "I", Cond.fieldLink RX2 17 "LentSectors$History" "oldest" "I", Cond.fieldLink RX2 11 "LentSectors$History" "rooms" "[LLentSectors$Heads;", Cond.methodLink RX2 25 yX1_takeOver, Cond.instanceMethod yX1_takeOver, Cond.selects RX1 yX1_takeOver yX1_takeOver, Cond.initialized RX1, Cond.code yX1_takeOver cX1_takeOver 2 none, Cond.fieldLink RX1 9 "LentSectors$Heads" "limit" "I", Cond.fieldLink RX1 15 "LentSectors$Heads" "ageing" "[I", Cond.methodLink RX1 63 arraycopyName, Cond.native arraycopyName, Cond.static arraycopyName, Cond.initialized "java/lang/System", Cond.fieldLink RX1 19 "LentSectors$Heads" "spares" "[I", Cond.fieldLink RX1 22 "LentSectors$Heads" "givenUp" "[Z"]
def wsX3_settle_r2 : List Cond := [Cond.fieldLink RX1 26 "LentSectors$Heads" "wear" "[I", Cond.fieldLink RX1 29 "LentSectors$Heads" "value" "[I", Cond.fieldLink RX1 32 "LentSectors$Heads" "rescuesOf" "[I", Cond.fieldLink RX1 35 "LentSectors$Heads" "server" "[I", Cond.fieldLink RX1 38 "LentSectors$Heads" "client" "[I", Cond.fieldLink RX1 41 "LentSectors$Heads" "arm" "I", Cond.fieldLink RX1 44 "LentSectors$Heads" "steps" "I", Cond.fieldLink RX1 47 "LentSectors$Heads" "rescues" "I", Cond.fieldLink RX1 50 "LentSectors$Heads" "losses" "I", Cond.fieldLink RX1 53 "LentSectors$Heads" "reads" "I", Cond.fieldLink RX1 56 "LentSectors$Heads" "writes" "I", Cond.methodLink RX3 115 yX1_takeOver]
def wsX3_settle : List Cond := .code yX3_settle cX3_settle 2 (some .int) :: ((wsX3_settle_r1 ++ wsX3_settle_r2) ++ wsX30 ++ wsX20 ++ wsX10)
def wsX3_setLimit_r1 : List Cond := [Cond.fieldLink RX3 16 "LentSectors" "trial" "LLentSectors$Heads;", Cond.methodLink RX3 40 yX3_startTrial, Cond.instanceMethod yX3_startTrial, Cond.selects RX3 yX3_startTrial yX3_startTrial, Cond.initialized RX3, Cond.code yX3_startTrial cX3_startTrial 1 none, Cond.fieldLink RX3 12 "LentSectors" "now" "LLentSectors$Heads;", Cond.methodLink RX3 115 yX1_takeOver, Cond.instanceMethod yX1_takeOver, Cond.selects RX1 yX1_takeOver yX1_takeOver, Cond.initialized RX1, Cond.code yX1_takeOver cX1_takeOver 2 none, Cond.fieldLink RX1 9 "LentSectors$Heads" "limit" "I", Cond.fieldLink RX1 15 "LentSectors$Heads" "ageing" "[I", Cond.methodLink RX1 63 arraycopyName, Cond.native arraycopyName, Cond.static arraycopyName, Cond.initialized "java/lang/System", Cond.fieldLink RX1 19 "LentSectors$Heads" "spares" "[I", Cond.fieldLink RX1 22 "LentSectors$Heads" "givenUp" "[Z", Cond.fieldLink RX1 26 "LentSectors$Heads" "wear" "[I", Cond.fieldLink RX1 29 "LentSectors$Heads" "value" "[I", Cond.fieldLink RX1 32 "LentSectors$Heads" "rescuesOf" "[I", Cond.fieldLink RX1 35 "LentSectors$Heads" "server" "[I"]
def wsX3_setLimit_r2 : List Cond := [Cond.fieldLink RX1 38 "LentSectors$Heads" "client" "[I", Cond.fieldLink RX1 41 "LentSectors$Heads" "arm" "I", Cond.fieldLink RX1 44 "LentSectors$Heads" "steps" "I", Cond.fieldLink RX1 47 "LentSectors$Heads" "rescues" "I", Cond.fieldLink RX1 50 "LentSectors$Heads" "losses" "I", Cond.fieldLink RX1 53 "LentSectors$Heads" "reads" "I", Cond.fieldLink RX1 56 "LentSectors$Heads" "writes" "I", Cond.methodLink RX3 43 yX1_changeLimit, Cond.instanceMethod yX1_changeLimit, Cond.selects RX1 yX1_changeLimit yX1_changeLimit, Cond.code yX1_changeLimit cX1_changeLimit 3 (some .int), Cond.methodLink RX3 47 yX3_settle, Cond.instanceMethod yX3_settle, Cond.selects RX3 yX3_settle yX3_settle, Cond.code yX3_settle cX3_settle 2 (some .int), Cond.fieldLink RX3 25 "LentSectors" "history" "LLentSectors$History;", Cond.methodLink RX3 145 yX2_record, Cond.instanceMethod yX2_record, Cond.selects RX2 yX2_record yX2_record, Cond.initialized RX2, Cond.code yX2_record cX2_record 2 none, Cond.fieldLink RX2 21 "LentSectors$History" "many" "I", Cond.fieldLink RX2 17 "LentSectors$History" "oldest" "I", Cond.fieldLink RX2 11 "LentSectors$History" "rooms" "[LLentSectors$Heads;"]
def wsX3_setLimit_r3 : List Cond := [Cond.methodLink RX2 25 yX1_takeOver]
def wsX3_setLimit : List Cond := .code yX3_setLimit cX3_setLimit 2 (some .int) :: ((wsX3_setLimit_r1 ++ (wsX3_setLimit_r2 ++ wsX3_setLimit_r3)) ++ wsX30 ++ wsX10 ++ wsX20)
def wsX3_isHead : List Cond := .code yX3_isHead cX3_isHead 1 (some .boolean) :: ([])
def wsX3_setHead_r1 : List Cond := [Cond.fieldLink RX3 16 "LentSectors" "trial" "LLentSectors$Heads;", Cond.methodLink RX3 50 yX3_isHead, Cond.static yX3_isHead, Cond.initialized RX3, Cond.code yX3_isHead cX3_isHead 1 (some .boolean), Cond.methodLink RX3 40 yX3_startTrial, Cond.instanceMethod yX3_startTrial, Cond.selects RX3 yX3_startTrial yX3_startTrial, Cond.code yX3_startTrial cX3_startTrial 1 none, Cond.fieldLink RX3 12 "LentSectors" "now" "LLentSectors$Heads;", Cond.methodLink RX3 115 yX1_takeOver, Cond.instanceMethod yX1_takeOver, Cond.selects RX1 yX1_takeOver yX1_takeOver, Cond.initialized RX1, Cond.code yX1_takeOver cX1_takeOver 2 none, Cond.fieldLink RX1 9 "LentSectors$Heads" "limit" "I", Cond.fieldLink RX1 15 "LentSectors$Heads" "ageing" "[I", Cond.methodLink RX1 63 arraycopyName, Cond.native arraycopyName, Cond.static arraycopyName, Cond.initialized "java/lang/System", Cond.fieldLink RX1 19 "LentSectors$Heads" "spares" "[I", Cond.fieldLink RX1 22 "LentSectors$Heads" "givenUp" "[Z", Cond.fieldLink RX1 26 "LentSectors$Heads" "wear" "[I"]
def wsX3_setHead_r2 : List Cond := [Cond.fieldLink RX1 29 "LentSectors$Heads" "value" "[I", Cond.fieldLink RX1 32 "LentSectors$Heads" "rescuesOf" "[I", Cond.fieldLink RX1 35 "LentSectors$Heads" "server" "[I", Cond.fieldLink RX1 38 "LentSectors$Heads" "client" "[I", Cond.fieldLink RX1 41 "LentSectors$Heads" "arm" "I", Cond.fieldLink RX1 44 "LentSectors$Heads" "steps" "I", Cond.fieldLink RX1 47 "LentSectors$Heads" "rescues" "I", Cond.fieldLink RX1 50 "LentSectors$Heads" "losses" "I", Cond.fieldLink RX1 53 "LentSectors$Heads" "reads" "I", Cond.fieldLink RX1 56 "LentSectors$Heads" "writes" "I", Cond.methodLink RX3 54 yX1_changeAgeing, Cond.instanceMethod yX1_changeAgeing, Cond.selects RX1 yX1_changeAgeing yX1_changeAgeing, Cond.code yX1_changeAgeing cX1_changeAgeing 4 (some .int), Cond.methodLink RX3 58 yX1_changeSpares, Cond.instanceMethod yX1_changeSpares, Cond.selects RX1 yX1_changeSpares yX1_changeSpares, Cond.code yX1_changeSpares cX1_changeSpares 4 (some .int), Cond.methodLink RX1 105 yX1_wearOf, Cond.instanceMethod yX1_wearOf, Cond.selects RX1 yX1_wearOf yX1_wearOf, Cond.code yX1_wearOf cX1_wearOf 4 (some .int), Cond.methodLink RX1 59 yX1_divide, Cond.instanceMethod yX1_divide]
def wsX3_setHead_r3 : List Cond := [Cond.selects RX1 yX1_divide yX1_divide, Cond.code yX1_divide cX1_divide 6 none, Cond.methodLink RX1 69 yX1_isAddress, Cond.instanceMethod yX1_isAddress, Cond.selects RX1 yX1_isAddress yX1_isAddress, Cond.code yX1_isAddress cX1_isAddress 2 (some .boolean), Cond.static yX3_isSector, Cond.code yX3_isSector cX3_isSector 1 (some .boolean), Cond.static yX3_placeOf, Cond.code yX3_placeOf cX3_placeOf 1 (some .int), Cond.static yX3_headOf, Cond.code yX3_headOf cX3_headOf 1 (some .int), Cond.methodLink RX3 47 yX3_settle, Cond.instanceMethod yX3_settle, Cond.selects RX3 yX3_settle yX3_settle, Cond.code yX3_settle cX3_settle 2 (some .int), Cond.fieldLink RX3 25 "LentSectors" "history" "LLentSectors$History;", Cond.methodLink RX3 145 yX2_record, Cond.instanceMethod yX2_record, Cond.selects RX2 yX2_record yX2_record, Cond.initialized RX2, Cond.code yX2_record cX2_record 2 none, Cond.fieldLink RX2 21 "LentSectors$History" "many" "I", Cond.fieldLink RX2 17 "LentSectors$History" "oldest" "I"]
def wsX3_setHead_r4 : List Cond := [Cond.fieldLink RX2 11 "LentSectors$History" "rooms" "[LLentSectors$Heads;", Cond.methodLink RX2 25 yX1_takeOver]
def wsX3_setHead : List Cond := .code yX3_setHead cX3_setHead 4 (some .int) :: ((wsX3_setHead_r1 ++ (wsX3_setHead_r2 ++ (wsX3_setHead_r3 ++ wsX3_setHead_r4))) ++ wsX30 ++ wsX10 ++ wsX20)
def wsX3_read_r1 : List Cond := [Cond.fieldLink RX3 16 "LentSectors" "trial" "LLentSectors$Heads;", Cond.methodLink RX3 40 yX3_startTrial, Cond.instanceMethod yX3_startTrial, Cond.selects RX3 yX3_startTrial yX3_startTrial, Cond.initialized RX3, Cond.code yX3_startTrial cX3_startTrial 1 none, Cond.fieldLink RX3 12 "LentSectors" "now" "LLentSectors$Heads;", Cond.methodLink RX3 115 yX1_takeOver, Cond.instanceMethod yX1_takeOver, Cond.selects RX1 yX1_takeOver yX1_takeOver, Cond.initialized RX1, Cond.code yX1_takeOver cX1_takeOver 2 none, Cond.fieldLink RX1 9 "LentSectors$Heads" "limit" "I", Cond.fieldLink RX1 15 "LentSectors$Heads" "ageing" "[I", Cond.methodLink RX1 63 arraycopyName, Cond.native arraycopyName, Cond.static arraycopyName, Cond.initialized "java/lang/System", Cond.fieldLink RX1 19 "LentSectors$Heads" "spares" "[I", Cond.fieldLink RX1 22 "LentSectors$Heads" "givenUp" "[Z", Cond.fieldLink RX1 26 "LentSectors$Heads" "wear" "[I", Cond.fieldLink RX1 29 "LentSectors$Heads" "value" "[I", Cond.fieldLink RX1 32 "LentSectors$Heads" "rescuesOf" "[I", Cond.fieldLink RX1 35 "LentSectors$Heads" "server" "[I"]
def wsX3_read_r2 : List Cond := [Cond.fieldLink RX1 38 "LentSectors$Heads" "client" "[I", Cond.fieldLink RX1 41 "LentSectors$Heads" "arm" "I", Cond.fieldLink RX1 44 "LentSectors$Heads" "steps" "I", Cond.fieldLink RX1 47 "LentSectors$Heads" "rescues" "I", Cond.fieldLink RX1 50 "LentSectors$Heads" "losses" "I", Cond.fieldLink RX1 53 "LentSectors$Heads" "reads" "I", Cond.fieldLink RX1 56 "LentSectors$Heads" "writes" "I", Cond.methodLink RX3 61 yX1_readAt, Cond.instanceMethod yX1_readAt, Cond.selects RX1 yX1_readAt yX1_readAt, Cond.code yX1_readAt cX1_readAt 2 (some .int), Cond.methodLink RX1 69 yX1_isAddress, Cond.instanceMethod yX1_isAddress, Cond.selects RX1 yX1_isAddress yX1_isAddress, Cond.code yX1_isAddress cX1_isAddress 2 (some .boolean), Cond.static yX3_isSector, Cond.code yX3_isSector cX3_isSector 1 (some .boolean), Cond.static yX3_placeOf, Cond.code yX3_placeOf cX3_placeOf 1 (some .int), Cond.static yX3_headOf, Cond.code yX3_headOf cX3_headOf 1 (some .int), Cond.methodLink RX1 83 yX1_isLost, Cond.instanceMethod yX1_isLost, Cond.selects RX1 yX1_isLost yX1_isLost]
def wsX3_read_r3 : List Cond := [Cond.code yX1_isLost cX1_isLost 2 (some .boolean), Cond.methodLink RX1 108 yX1_goTo, Cond.instanceMethod yX1_goTo, Cond.selects RX1 yX1_goTo yX1_goTo, Cond.code yX1_goTo cX1_goTo 2 none, Cond.methodLink RX1 145 yX1_stepsTo, Cond.instanceMethod yX1_stepsTo, Cond.selects RX1 yX1_stepsTo yX1_stepsTo, Cond.code yX1_stepsTo cX1_stepsTo 3 (some .int), Cond.static yX3_stepsBetween, Cond.code yX3_stepsBetween cX3_stepsBetween 3 (some .int), Cond.methodLink RX3 151 Lib.Math.abs.name, Cond.static Lib.Math.abs.name, Cond.initialized "java/lang/Math", Cond.code Lib.Math.abs.name Lib.Math.abs.code 1 (some .int), Cond.methodLink RX3 148 yX3_placeOf, Cond.methodLink RX3 156 yX3_headOf, Cond.methodLink RX1 112 yX1_wearByReading, Cond.instanceMethod yX1_wearByReading, Cond.selects RX1 yX1_wearByReading yX1_wearByReading, Cond.code yX1_wearByReading cX1_wearByReading 2 none, Cond.methodLink RX1 115 yX1_lookAt, Cond.instanceMethod yX1_lookAt, Cond.selects RX1 yX1_lookAt yX1_lookAt]
def wsX3_read_r4 : List Cond := [Cond.code yX1_lookAt cX1_lookAt 4 none, Cond.methodLink RX1 86 yX1_isGood, Cond.instanceMethod yX1_isGood, Cond.selects RX1 yX1_isGood yX1_isGood, Cond.code yX1_isGood cX1_isGood 2 (some .boolean), Cond.methodLink RX1 118 yX1_lendableTo, Cond.instanceMethod yX1_lendableTo, Cond.selects RX1 yX1_lendableTo yX1_lendableTo, Cond.code yX1_lendableTo cX1_lendableTo 7 (some .int), Cond.methodLink RX1 95 yX1_firstFreeOf, Cond.instanceMethod yX1_firstFreeOf, Cond.selects RX1 yX1_firstFreeOf yX1_firstFreeOf, Cond.code yX1_firstFreeOf cX1_firstFreeOf 3 (some .int), Cond.methodLink RX1 92 yX1_isFree, Cond.instanceMethod yX1_isFree, Cond.selects RX1 yX1_isFree yX1_isFree, Cond.code yX1_isFree cX1_isFree 4 (some .boolean), Cond.methodLink RX1 98 yX1_freeOf, Cond.instanceMethod yX1_freeOf, Cond.selects RX1 yX1_freeOf yX1_freeOf, Cond.code yX1_freeOf cX1_freeOf 4 (some .int), Cond.methodLink RX1 121 yX1_lend, Cond.instanceMethod yX1_lend, Cond.selects RX1 yX1_lend yX1_lend]
def wsX3_read_r5 : List Cond := [Cond.code yX1_lend cX1_lend 3 none, Cond.methodLink RX1 142 yX1_release, Cond.instanceMethod yX1_release, Cond.selects RX1 yX1_release yX1_release, Cond.code yX1_release cX1_release 2 none, Cond.methodLink RX1 136 yX1_moveTo, Cond.instanceMethod yX1_moveTo, Cond.selects RX1 yX1_moveTo yX1_moveTo, Cond.code yX1_moveTo cX1_moveTo 2 none, Cond.methodLink RX1 124 yX1_wearByWriting, Cond.instanceMethod yX1_wearByWriting, Cond.selects RX1 yX1_wearByWriting yX1_wearByWriting, Cond.code yX1_wearByWriting cX1_wearByWriting 2 none, Cond.methodLink RX1 89 yX1_isBad, Cond.instanceMethod yX1_isBad, Cond.selects RX1 yX1_isBad yX1_isBad, Cond.code yX1_isBad cX1_isBad 2 (some .boolean), Cond.methodLink RX1 139 yX1_lose, Cond.instanceMethod yX1_lose, Cond.selects RX1 yX1_lose yX1_lose, Cond.code yX1_lose cX1_lose 2 none, Cond.methodLink RX3 47 yX3_settle, Cond.instanceMethod yX3_settle, Cond.selects RX3 yX3_settle yX3_settle]
def wsX3_read_r6 : List Cond := [Cond.code yX3_settle cX3_settle 2 (some .int), Cond.fieldLink RX3 25 "LentSectors" "history" "LLentSectors$History;", Cond.methodLink RX3 145 yX2_record, Cond.instanceMethod yX2_record, Cond.selects RX2 yX2_record yX2_record, Cond.initialized RX2, Cond.code yX2_record cX2_record 2 none, Cond.fieldLink RX2 21 "LentSectors$History" "many" "I", Cond.fieldLink RX2 17 "LentSectors$History" "oldest" "I", Cond.fieldLink RX2 11 "LentSectors$History" "rooms" "[LLentSectors$Heads;", Cond.methodLink RX2 25 yX1_takeOver]
def wsX3_read : List Cond := .code yX3_read cX3_read 2 (some .int) :: ((wsX3_read_r1 ++ (wsX3_read_r2 ++ (wsX3_read_r3 ++ (wsX3_read_r4 ++ (wsX3_read_r5 ++ wsX3_read_r6))))) ++ wsX30 ++ wsX10 ++ wsX20)
def wsX3_write_r1 : List Cond := [Cond.fieldLink RX3 16 "LentSectors" "trial" "LLentSectors$Heads;", Cond.methodLink RX3 40 yX3_startTrial, Cond.instanceMethod yX3_startTrial, Cond.selects RX3 yX3_startTrial yX3_startTrial, Cond.initialized RX3, Cond.code yX3_startTrial cX3_startTrial 1 none, Cond.fieldLink RX3 12 "LentSectors" "now" "LLentSectors$Heads;", Cond.methodLink RX3 115 yX1_takeOver, Cond.instanceMethod yX1_takeOver, Cond.selects RX1 yX1_takeOver yX1_takeOver, Cond.initialized RX1, Cond.code yX1_takeOver cX1_takeOver 2 none, Cond.fieldLink RX1 9 "LentSectors$Heads" "limit" "I", Cond.fieldLink RX1 15 "LentSectors$Heads" "ageing" "[I", Cond.methodLink RX1 63 arraycopyName, Cond.native arraycopyName, Cond.static arraycopyName, Cond.initialized "java/lang/System", Cond.fieldLink RX1 19 "LentSectors$Heads" "spares" "[I", Cond.fieldLink RX1 22 "LentSectors$Heads" "givenUp" "[Z", Cond.fieldLink RX1 26 "LentSectors$Heads" "wear" "[I", Cond.fieldLink RX1 29 "LentSectors$Heads" "value" "[I", Cond.fieldLink RX1 32 "LentSectors$Heads" "rescuesOf" "[I", Cond.fieldLink RX1 35 "LentSectors$Heads" "server" "[I"]
def wsX3_write_r2 : List Cond := [Cond.fieldLink RX1 38 "LentSectors$Heads" "client" "[I", Cond.fieldLink RX1 41 "LentSectors$Heads" "arm" "I", Cond.fieldLink RX1 44 "LentSectors$Heads" "steps" "I", Cond.fieldLink RX1 47 "LentSectors$Heads" "rescues" "I", Cond.fieldLink RX1 50 "LentSectors$Heads" "losses" "I", Cond.fieldLink RX1 53 "LentSectors$Heads" "reads" "I", Cond.fieldLink RX1 56 "LentSectors$Heads" "writes" "I", Cond.methodLink RX3 64 yX1_writeAt, Cond.instanceMethod yX1_writeAt, Cond.selects RX1 yX1_writeAt yX1_writeAt, Cond.code yX1_writeAt cX1_writeAt 4 (some .int), Cond.methodLink RX1 69 yX1_isAddress, Cond.instanceMethod yX1_isAddress, Cond.selects RX1 yX1_isAddress yX1_isAddress, Cond.code yX1_isAddress cX1_isAddress 2 (some .boolean), Cond.static yX3_isSector, Cond.code yX3_isSector cX3_isSector 1 (some .boolean), Cond.static yX3_placeOf, Cond.code yX3_placeOf cX3_placeOf 1 (some .int), Cond.static yX3_headOf, Cond.code yX3_headOf cX3_headOf 1 (some .int), Cond.methodLink RX1 83 yX1_isLost, Cond.instanceMethod yX1_isLost, Cond.selects RX1 yX1_isLost yX1_isLost]
def wsX3_write_r3 : List Cond := [Cond.code yX1_isLost cX1_isLost 2 (some .boolean), Cond.methodLink RX1 118 yX1_lendableTo, Cond.instanceMethod yX1_lendableTo, Cond.selects RX1 yX1_lendableTo yX1_lendableTo, Cond.code yX1_lendableTo cX1_lendableTo 7 (some .int), Cond.methodLink RX1 95 yX1_firstFreeOf, Cond.instanceMethod yX1_firstFreeOf, Cond.selects RX1 yX1_firstFreeOf yX1_firstFreeOf, Cond.code yX1_firstFreeOf cX1_firstFreeOf 3 (some .int), Cond.methodLink RX1 92 yX1_isFree, Cond.instanceMethod yX1_isFree, Cond.selects RX1 yX1_isFree yX1_isFree, Cond.code yX1_isFree cX1_isFree 4 (some .boolean), Cond.methodLink RX1 86 yX1_isGood, Cond.instanceMethod yX1_isGood, Cond.selects RX1 yX1_isGood yX1_isGood, Cond.code yX1_isGood cX1_isGood 2 (some .boolean), Cond.methodLink RX1 98 yX1_freeOf, Cond.instanceMethod yX1_freeOf, Cond.selects RX1 yX1_freeOf yX1_freeOf, Cond.code yX1_freeOf cX1_freeOf 4 (some .int), Cond.methodLink RX1 121 yX1_lend, Cond.instanceMethod yX1_lend, Cond.selects RX1 yX1_lend yX1_lend]
def wsX3_write_r4 : List Cond := [Cond.code yX1_lend cX1_lend 3 none, Cond.methodLink RX1 142 yX1_release, Cond.instanceMethod yX1_release, Cond.selects RX1 yX1_release yX1_release, Cond.code yX1_release cX1_release 2 none, Cond.methodLink RX1 108 yX1_goTo, Cond.instanceMethod yX1_goTo, Cond.selects RX1 yX1_goTo yX1_goTo, Cond.code yX1_goTo cX1_goTo 2 none, Cond.methodLink RX1 145 yX1_stepsTo, Cond.instanceMethod yX1_stepsTo, Cond.selects RX1 yX1_stepsTo yX1_stepsTo, Cond.code yX1_stepsTo cX1_stepsTo 3 (some .int), Cond.static yX3_stepsBetween, Cond.code yX3_stepsBetween cX3_stepsBetween 3 (some .int), Cond.methodLink RX3 151 Lib.Math.abs.name, Cond.static Lib.Math.abs.name, Cond.initialized "java/lang/Math", Cond.code Lib.Math.abs.name Lib.Math.abs.code 1 (some .int), Cond.methodLink RX3 148 yX3_placeOf, Cond.methodLink RX3 156 yX3_headOf, Cond.methodLink RX1 124 yX1_wearByWriting, Cond.instanceMethod yX1_wearByWriting, Cond.selects RX1 yX1_wearByWriting yX1_wearByWriting]
def wsX3_write_r5 : List Cond := [Cond.code yX1_wearByWriting cX1_wearByWriting 2 none, Cond.methodLink RX1 115 yX1_lookAt, Cond.instanceMethod yX1_lookAt, Cond.selects RX1 yX1_lookAt yX1_lookAt, Cond.code yX1_lookAt cX1_lookAt 4 none, Cond.methodLink RX1 136 yX1_moveTo, Cond.instanceMethod yX1_moveTo, Cond.selects RX1 yX1_moveTo yX1_moveTo, Cond.code yX1_moveTo cX1_moveTo 2 none, Cond.methodLink RX1 89 yX1_isBad, Cond.instanceMethod yX1_isBad, Cond.selects RX1 yX1_isBad yX1_isBad, Cond.code yX1_isBad cX1_isBad 2 (some .boolean), Cond.methodLink RX1 139 yX1_lose, Cond.instanceMethod yX1_lose, Cond.selects RX1 yX1_lose yX1_lose, Cond.code yX1_lose cX1_lose 2 none, Cond.methodLink RX3 47 yX3_settle, Cond.instanceMethod yX3_settle, Cond.selects RX3 yX3_settle yX3_settle, Cond.code yX3_settle cX3_settle 2 (some .int), Cond.fieldLink RX3 25 "LentSectors" "history" "LLentSectors$History;", Cond.methodLink RX3 145 yX2_record, Cond.instanceMethod yX2_record]
def wsX3_write_r6 : List Cond := [Cond.selects RX2 yX2_record yX2_record, Cond.initialized RX2, Cond.code yX2_record cX2_record 2 none, Cond.fieldLink RX2 21 "LentSectors$History" "many" "I", Cond.fieldLink RX2 17 "LentSectors$History" "oldest" "I", Cond.fieldLink RX2 11 "LentSectors$History" "rooms" "[LLentSectors$Heads;", Cond.methodLink RX2 25 yX1_takeOver]
def wsX3_write : List Cond := .code yX3_write cX3_write 3 (some .int) :: ((wsX3_write_r1 ++ (wsX3_write_r2 ++ (wsX3_write_r3 ++ (wsX3_write_r4 ++ (wsX3_write_r5 ++ wsX3_write_r6))))) ++ wsX30 ++ wsX10 ++ wsX20)
def wsX3_copy_r1 : List Cond := [Cond.fieldLink RX3 12 "LentSectors" "now" "LLentSectors$Heads;", Cond.fieldLink RX3 16 "LentSectors" "trial" "LLentSectors$Heads;", Cond.methodLink RX3 67 yX1_isAddress, Cond.instanceMethod yX1_isAddress, Cond.selects RX1 yX1_isAddress yX1_isAddress, Cond.initialized RX1, Cond.code yX1_isAddress cX1_isAddress 2 (some .boolean), Cond.fieldLink RX1 19 "LentSectors$Heads" "spares" "[I", Cond.static yX3_isSector, Cond.initialized RX3, Cond.code yX3_isSector cX3_isSector 1 (some .boolean), Cond.static yX3_placeOf, Cond.code yX3_placeOf cX3_placeOf 1 (some .int), Cond.static yX3_headOf, Cond.code yX3_headOf cX3_headOf 1 (some .int), Cond.methodLink RX3 40 yX3_startTrial, Cond.instanceMethod yX3_startTrial, Cond.selects RX3 yX3_startTrial yX3_startTrial, Cond.code yX3_startTrial cX3_startTrial 1 none, Cond.methodLink RX3 115 yX1_takeOver, Cond.instanceMethod yX1_takeOver, Cond.selects RX1 yX1_takeOver yX1_takeOver, Cond.code yX1_takeOver cX1_takeOver 2 none, Cond.fieldLink RX1 9 "LentSectors$Heads" "limit" "I"]
def wsX3_copy_r2 : List Cond := [Cond.fieldLink RX1 15 "LentSectors$Heads" "ageing" "[I", Cond.methodLink RX1 63 arraycopyName, Cond.native arraycopyName, Cond.static arraycopyName, Cond.initialized "java/lang/System", Cond.fieldLink RX1 22 "LentSectors$Heads" "givenUp" "[Z", Cond.fieldLink RX1 26 "LentSectors$Heads" "wear" "[I", Cond.fieldLink RX1 29 "LentSectors$Heads" "value" "[I", Cond.fieldLink RX1 32 "LentSectors$Heads" "rescuesOf" "[I", Cond.fieldLink RX1 35 "LentSectors$Heads" "server" "[I", Cond.fieldLink RX1 38 "LentSectors$Heads" "client" "[I", Cond.fieldLink RX1 41 "LentSectors$Heads" "arm" "I", Cond.fieldLink RX1 44 "LentSectors$Heads" "steps" "I", Cond.fieldLink RX1 47 "LentSectors$Heads" "rescues" "I", Cond.fieldLink RX1 50 "LentSectors$Heads" "losses" "I", Cond.fieldLink RX1 53 "LentSectors$Heads" "reads" "I", Cond.fieldLink RX1 56 "LentSectors$Heads" "writes" "I", Cond.methodLink RX3 70 yX1_copyRow, Cond.instanceMethod yX1_copyRow, Cond.selects RX1 yX1_copyRow yX1_copyRow, Cond.code yX1_copyRow cX1_copyRow 6 (some .int), Cond.methodLink RX1 127 yX1_readAt, Cond.instanceMethod yX1_readAt, Cond.selects RX1 yX1_readAt yX1_readAt]
def wsX3_copy_r3 : List Cond := [Cond.code yX1_readAt cX1_readAt 2 (some .int), Cond.methodLink RX1 69 yX1_isAddress, Cond.methodLink RX1 83 yX1_isLost, Cond.instanceMethod yX1_isLost, Cond.selects RX1 yX1_isLost yX1_isLost, Cond.code yX1_isLost cX1_isLost 2 (some .boolean), Cond.methodLink RX1 108 yX1_goTo, Cond.instanceMethod yX1_goTo, Cond.selects RX1 yX1_goTo yX1_goTo, Cond.code yX1_goTo cX1_goTo 2 none, Cond.methodLink RX1 145 yX1_stepsTo, Cond.instanceMethod yX1_stepsTo, Cond.selects RX1 yX1_stepsTo yX1_stepsTo, Cond.code yX1_stepsTo cX1_stepsTo 3 (some .int), Cond.static yX3_stepsBetween, Cond.code yX3_stepsBetween cX3_stepsBetween 3 (some .int), Cond.methodLink RX3 151 Lib.Math.abs.name, Cond.static Lib.Math.abs.name, Cond.initialized "java/lang/Math", Cond.code Lib.Math.abs.name Lib.Math.abs.code 1 (some .int), Cond.methodLink RX3 148 yX3_placeOf, Cond.methodLink RX3 156 yX3_headOf, Cond.methodLink RX1 112 yX1_wearByReading, Cond.instanceMethod yX1_wearByReading]
def wsX3_copy_r4 : List Cond := [Cond.selects RX1 yX1_wearByReading yX1_wearByReading, Cond.code yX1_wearByReading cX1_wearByReading 2 none, Cond.methodLink RX1 115 yX1_lookAt, Cond.instanceMethod yX1_lookAt, Cond.selects RX1 yX1_lookAt yX1_lookAt, Cond.code yX1_lookAt cX1_lookAt 4 none, Cond.methodLink RX1 86 yX1_isGood, Cond.instanceMethod yX1_isGood, Cond.selects RX1 yX1_isGood yX1_isGood, Cond.code yX1_isGood cX1_isGood 2 (some .boolean), Cond.methodLink RX1 118 yX1_lendableTo, Cond.instanceMethod yX1_lendableTo, Cond.selects RX1 yX1_lendableTo yX1_lendableTo, Cond.code yX1_lendableTo cX1_lendableTo 7 (some .int), Cond.methodLink RX1 95 yX1_firstFreeOf, Cond.instanceMethod yX1_firstFreeOf, Cond.selects RX1 yX1_firstFreeOf yX1_firstFreeOf, Cond.code yX1_firstFreeOf cX1_firstFreeOf 3 (some .int), Cond.methodLink RX1 92 yX1_isFree, Cond.instanceMethod yX1_isFree, Cond.selects RX1 yX1_isFree yX1_isFree, Cond.code yX1_isFree cX1_isFree 4 (some .boolean), Cond.methodLink RX1 98 yX1_freeOf, Cond.instanceMethod yX1_freeOf]
def wsX3_copy_r5 : List Cond := [Cond.selects RX1 yX1_freeOf yX1_freeOf, Cond.code yX1_freeOf cX1_freeOf 4 (some .int), Cond.methodLink RX1 121 yX1_lend, Cond.instanceMethod yX1_lend, Cond.selects RX1 yX1_lend yX1_lend, Cond.code yX1_lend cX1_lend 3 none, Cond.methodLink RX1 142 yX1_release, Cond.instanceMethod yX1_release, Cond.selects RX1 yX1_release yX1_release, Cond.code yX1_release cX1_release 2 none, Cond.methodLink RX1 136 yX1_moveTo, Cond.instanceMethod yX1_moveTo, Cond.selects RX1 yX1_moveTo yX1_moveTo, Cond.code yX1_moveTo cX1_moveTo 2 none, Cond.methodLink RX1 124 yX1_wearByWriting, Cond.instanceMethod yX1_wearByWriting, Cond.selects RX1 yX1_wearByWriting yX1_wearByWriting, Cond.code yX1_wearByWriting cX1_wearByWriting 2 none, Cond.methodLink RX1 89 yX1_isBad, Cond.instanceMethod yX1_isBad, Cond.selects RX1 yX1_isBad yX1_isBad, Cond.code yX1_isBad cX1_isBad 2 (some .boolean), Cond.methodLink RX1 139 yX1_lose, Cond.instanceMethod yX1_lose]
def wsX3_copy_r6 : List Cond := [Cond.selects RX1 yX1_lose yX1_lose, Cond.code yX1_lose cX1_lose 2 none, Cond.methodLink RX1 130 yX1_writeAt, Cond.instanceMethod yX1_writeAt, Cond.selects RX1 yX1_writeAt yX1_writeAt, Cond.code yX1_writeAt cX1_writeAt 4 (some .int), Cond.methodLink RX3 47 yX3_settle, Cond.instanceMethod yX3_settle, Cond.selects RX3 yX3_settle yX3_settle, Cond.code yX3_settle cX3_settle 2 (some .int), Cond.fieldLink RX3 25 "LentSectors" "history" "LLentSectors$History;", Cond.methodLink RX3 145 yX2_record, Cond.instanceMethod yX2_record, Cond.selects RX2 yX2_record yX2_record, Cond.initialized RX2, Cond.code yX2_record cX2_record 2 none, Cond.fieldLink RX2 21 "LentSectors$History" "many" "I", Cond.fieldLink RX2 17 "LentSectors$History" "oldest" "I", Cond.fieldLink RX2 11 "LentSectors$History" "rooms" "[LLentSectors$Heads;", Cond.methodLink RX2 25 yX1_takeOver]
def wsX3_copy : List Cond := .code yX3_copy cX3_copy 5 (some .int) :: ((wsX3_copy_r1 ++ (wsX3_copy_r2 ++ (wsX3_copy_r3 ++ (wsX3_copy_r4 ++ (wsX3_copy_r5 ++ wsX3_copy_r6))))) ++ wsX30 ++ wsX10 ++ wsX20)
def wsX3_test_r1 : List Cond := [Cond.fieldLink RX3 16 "LentSectors" "trial" "LLentSectors$Heads;", Cond.methodLink RX3 50 yX3_isHead, Cond.static yX3_isHead, Cond.initialized RX3, Cond.code yX3_isHead cX3_isHead 1 (some .boolean), Cond.methodLink RX3 40 yX3_startTrial, Cond.instanceMethod yX3_startTrial, Cond.selects RX3 yX3_startTrial yX3_startTrial, Cond.code yX3_startTrial cX3_startTrial 1 none, Cond.fieldLink RX3 12 "LentSectors" "now" "LLentSectors$Heads;", Cond.methodLink RX3 115 yX1_takeOver, Cond.instanceMethod yX1_takeOver, Cond.selects RX1 yX1_takeOver yX1_takeOver, Cond.initialized RX1, Cond.code yX1_takeOver cX1_takeOver 2 none, Cond.fieldLink RX1 9 "LentSectors$Heads" "limit" "I", Cond.fieldLink RX1 15 "LentSectors$Heads" "ageing" "[I", Cond.methodLink RX1 63 arraycopyName, Cond.native arraycopyName, Cond.static arraycopyName, Cond.initialized "java/lang/System", Cond.fieldLink RX1 19 "LentSectors$Heads" "spares" "[I", Cond.fieldLink RX1 22 "LentSectors$Heads" "givenUp" "[Z", Cond.fieldLink RX1 26 "LentSectors$Heads" "wear" "[I"]
def wsX3_test_r2 : List Cond := [Cond.fieldLink RX1 29 "LentSectors$Heads" "value" "[I", Cond.fieldLink RX1 32 "LentSectors$Heads" "rescuesOf" "[I", Cond.fieldLink RX1 35 "LentSectors$Heads" "server" "[I", Cond.fieldLink RX1 38 "LentSectors$Heads" "client" "[I", Cond.fieldLink RX1 41 "LentSectors$Heads" "arm" "I", Cond.fieldLink RX1 44 "LentSectors$Heads" "steps" "I", Cond.fieldLink RX1 47 "LentSectors$Heads" "rescues" "I", Cond.fieldLink RX1 50 "LentSectors$Heads" "losses" "I", Cond.fieldLink RX1 53 "LentSectors$Heads" "reads" "I", Cond.fieldLink RX1 56 "LentSectors$Heads" "writes" "I", Cond.methodLink RX3 74 yX1_testHead, Cond.instanceMethod yX1_testHead, Cond.selects RX1 yX1_testHead yX1_testHead, Cond.code yX1_testHead cX1_testHead 4 (some .int), Cond.methodLink RX1 133 yX1_lostOf, Cond.instanceMethod yX1_lostOf, Cond.selects RX1 yX1_lostOf yX1_lostOf, Cond.code yX1_lostOf cX1_lostOf 4 (some .int), Cond.methodLink RX1 83 yX1_isLost, Cond.instanceMethod yX1_isLost, Cond.selects RX1 yX1_isLost yX1_isLost, Cond.code yX1_isLost cX1_isLost 2 (some .boolean), Cond.methodLink RX1 127 yX1_readAt, Cond.instanceMethod yX1_readAt]
def wsX3_test_r3 : List Cond := [Cond.selects RX1 yX1_readAt yX1_readAt, Cond.code yX1_readAt cX1_readAt 2 (some .int), Cond.methodLink RX1 69 yX1_isAddress, Cond.instanceMethod yX1_isAddress, Cond.selects RX1 yX1_isAddress yX1_isAddress, Cond.code yX1_isAddress cX1_isAddress 2 (some .boolean), Cond.static yX3_isSector, Cond.code yX3_isSector cX3_isSector 1 (some .boolean), Cond.static yX3_placeOf, Cond.code yX3_placeOf cX3_placeOf 1 (some .int), Cond.static yX3_headOf, Cond.code yX3_headOf cX3_headOf 1 (some .int), Cond.methodLink RX1 108 yX1_goTo, Cond.instanceMethod yX1_goTo, Cond.selects RX1 yX1_goTo yX1_goTo, Cond.code yX1_goTo cX1_goTo 2 none, Cond.methodLink RX1 145 yX1_stepsTo, Cond.instanceMethod yX1_stepsTo, Cond.selects RX1 yX1_stepsTo yX1_stepsTo, Cond.code yX1_stepsTo cX1_stepsTo 3 (some .int), Cond.static yX3_stepsBetween, Cond.code yX3_stepsBetween cX3_stepsBetween 3 (some .int), Cond.methodLink RX3 151 Lib.Math.abs.name, Cond.static Lib.Math.abs.name]
def wsX3_test_r4 : List Cond := [Cond.initialized "java/lang/Math", Cond.code Lib.Math.abs.name Lib.Math.abs.code 1 (some .int), Cond.methodLink RX3 148 yX3_placeOf, Cond.methodLink RX3 156 yX3_headOf, Cond.methodLink RX1 112 yX1_wearByReading, Cond.instanceMethod yX1_wearByReading, Cond.selects RX1 yX1_wearByReading yX1_wearByReading, Cond.code yX1_wearByReading cX1_wearByReading 2 none, Cond.methodLink RX1 115 yX1_lookAt, Cond.instanceMethod yX1_lookAt, Cond.selects RX1 yX1_lookAt yX1_lookAt, Cond.code yX1_lookAt cX1_lookAt 4 none, Cond.methodLink RX1 86 yX1_isGood, Cond.instanceMethod yX1_isGood, Cond.selects RX1 yX1_isGood yX1_isGood, Cond.code yX1_isGood cX1_isGood 2 (some .boolean), Cond.methodLink RX1 118 yX1_lendableTo, Cond.instanceMethod yX1_lendableTo, Cond.selects RX1 yX1_lendableTo yX1_lendableTo, Cond.code yX1_lendableTo cX1_lendableTo 7 (some .int), Cond.methodLink RX1 95 yX1_firstFreeOf, Cond.instanceMethod yX1_firstFreeOf, Cond.selects RX1 yX1_firstFreeOf yX1_firstFreeOf, Cond.code yX1_firstFreeOf cX1_firstFreeOf 3 (some .int)]
def wsX3_test_r5 : List Cond := [Cond.methodLink RX1 92 yX1_isFree, Cond.instanceMethod yX1_isFree, Cond.selects RX1 yX1_isFree yX1_isFree, Cond.code yX1_isFree cX1_isFree 4 (some .boolean), Cond.methodLink RX1 98 yX1_freeOf, Cond.instanceMethod yX1_freeOf, Cond.selects RX1 yX1_freeOf yX1_freeOf, Cond.code yX1_freeOf cX1_freeOf 4 (some .int), Cond.methodLink RX1 121 yX1_lend, Cond.instanceMethod yX1_lend, Cond.selects RX1 yX1_lend yX1_lend, Cond.code yX1_lend cX1_lend 3 none, Cond.methodLink RX1 142 yX1_release, Cond.instanceMethod yX1_release, Cond.selects RX1 yX1_release yX1_release, Cond.code yX1_release cX1_release 2 none, Cond.methodLink RX1 136 yX1_moveTo, Cond.instanceMethod yX1_moveTo, Cond.selects RX1 yX1_moveTo yX1_moveTo, Cond.code yX1_moveTo cX1_moveTo 2 none, Cond.methodLink RX1 124 yX1_wearByWriting, Cond.instanceMethod yX1_wearByWriting, Cond.selects RX1 yX1_wearByWriting yX1_wearByWriting, Cond.code yX1_wearByWriting cX1_wearByWriting 2 none]
def wsX3_test_r6 : List Cond := [Cond.methodLink RX1 89 yX1_isBad, Cond.instanceMethod yX1_isBad, Cond.selects RX1 yX1_isBad yX1_isBad, Cond.code yX1_isBad cX1_isBad 2 (some .boolean), Cond.methodLink RX1 139 yX1_lose, Cond.instanceMethod yX1_lose, Cond.selects RX1 yX1_lose yX1_lose, Cond.code yX1_lose cX1_lose 2 none, Cond.methodLink RX3 47 yX3_settle, Cond.instanceMethod yX3_settle, Cond.selects RX3 yX3_settle yX3_settle, Cond.code yX3_settle cX3_settle 2 (some .int), Cond.fieldLink RX3 25 "LentSectors" "history" "LLentSectors$History;", Cond.methodLink RX3 145 yX2_record, Cond.instanceMethod yX2_record, Cond.selects RX2 yX2_record yX2_record, Cond.initialized RX2, Cond.code yX2_record cX2_record 2 none, Cond.fieldLink RX2 21 "LentSectors$History" "many" "I", Cond.fieldLink RX2 17 "LentSectors$History" "oldest" "I", Cond.fieldLink RX2 11 "LentSectors$History" "rooms" "[LLentSectors$Heads;", Cond.methodLink RX2 25 yX1_takeOver]
def wsX3_test : List Cond := .code yX3_test cX3_test 2 (some .int) :: ((wsX3_test_r1 ++ (wsX3_test_r2 ++ (wsX3_test_r3 ++ (wsX3_test_r4 ++ (wsX3_test_r5 ++ wsX3_test_r6))))) ++ wsX30 ++ wsX10 ++ wsX20)
def wsX3_perform_r1 : List Cond := [Cond.fieldLink RX3 32 "LentSectors" "text" "LLentSectors$CommandText;", Cond.fieldLink RX3 16 "LentSectors" "trial" "LLentSectors$Heads;", Cond.methodLink RX3 77 yX0_parse, Cond.instanceMethod yX0_parse, Cond.selects RX0 yX0_parse yX0_parse, Cond.initialized RX0, Cond.code yX0_parse cX0_parse 2 (some .int), Cond.fieldLink RX0 28 "LentSectors$CommandText" "at" "I", Cond.fieldLink RX0 25 "LentSectors$CommandText" "commands" "I", Cond.methodLink RX0 31 yX0_takeCommand, Cond.instanceMethod yX0_takeCommand, Cond.selects RX0 yX0_takeCommand yX0_takeCommand, Cond.code yX0_takeCommand cX0_takeCommand 4 (some .boolean), Cond.methodLink RX0 39 yX0_take, Cond.instanceMethod yX0_take, Cond.selects RX0 yX0_take yX0_take, Cond.code yX0_take cX0_take 2 (some .boolean), Cond.methodLink RX0 35 yX0_peek, Cond.instanceMethod yX0_peek, Cond.selects RX0 yX0_peek yX0_peek, Cond.code yX0_peek cX0_peek 1 (some .int), Cond.fieldLink RX0 15 "LentSectors$CommandText" "length" "I", Cond.fieldLink RX0 9 "LentSectors$CommandText" "codes" "[I", Cond.methodLink RX0 43 yX0_takeNumber]
def wsX3_perform_r2 : List Cond := [Cond.instanceMethod yX0_takeNumber, Cond.selects RX0 yX0_takeNumber yX0_takeNumber, Cond.code yX0_takeNumber cX0_takeNumber 4 (some .int), Cond.methodLink RX0 51 yX0_digitAt, Cond.instanceMethod yX0_digitAt, Cond.selects RX0 yX0_digitAt yX0_digitAt, Cond.code yX0_digitAt cX0_digitAt 2 (some .int), Cond.methodLink RX0 47 yX0_addCommand, Cond.instanceMethod yX0_addCommand, Cond.selects RX0 yX0_addCommand yX0_addCommand, Cond.code yX0_addCommand cX0_addCommand 3 none, Cond.fieldLink RX0 19 "LentSectors$CommandText" "sectors" "[I", Cond.fieldLink RX0 22 "LentSectors$CommandText" "values" "[I", Cond.methodLink RX3 40 yX3_startTrial, Cond.instanceMethod yX3_startTrial, Cond.selects RX3 yX3_startTrial yX3_startTrial, Cond.initialized RX3, Cond.code yX3_startTrial cX3_startTrial 1 none, Cond.fieldLink RX3 12 "LentSectors" "now" "LLentSectors$Heads;", Cond.methodLink RX3 115 yX1_takeOver, Cond.instanceMethod yX1_takeOver, Cond.selects RX1 yX1_takeOver yX1_takeOver, Cond.initialized RX1, Cond.code yX1_takeOver cX1_takeOver 2 none]
def wsX3_perform_r3 : List Cond := [Cond.fieldLink RX1 9 "LentSectors$Heads" "limit" "I", Cond.fieldLink RX1 15 "LentSectors$Heads" "ageing" "[I", Cond.methodLink RX1 63 arraycopyName, Cond.native arraycopyName, Cond.static arraycopyName, Cond.initialized "java/lang/System", Cond.fieldLink RX1 19 "LentSectors$Heads" "spares" "[I", Cond.fieldLink RX1 22 "LentSectors$Heads" "givenUp" "[Z", Cond.fieldLink RX1 26 "LentSectors$Heads" "wear" "[I", Cond.fieldLink RX1 29 "LentSectors$Heads" "value" "[I", Cond.fieldLink RX1 32 "LentSectors$Heads" "rescuesOf" "[I", Cond.fieldLink RX1 35 "LentSectors$Heads" "server" "[I", Cond.fieldLink RX1 38 "LentSectors$Heads" "client" "[I", Cond.fieldLink RX1 41 "LentSectors$Heads" "arm" "I", Cond.fieldLink RX1 44 "LentSectors$Heads" "steps" "I", Cond.fieldLink RX1 47 "LentSectors$Heads" "rescues" "I", Cond.fieldLink RX1 50 "LentSectors$Heads" "losses" "I", Cond.fieldLink RX1 53 "LentSectors$Heads" "reads" "I", Cond.fieldLink RX1 56 "LentSectors$Heads" "writes" "I", Cond.methodLink RX3 81 yX0_commandCount, Cond.instanceMethod yX0_commandCount, Cond.selects RX0 yX0_commandCount yX0_commandCount, Cond.code yX0_commandCount cX0_commandCount 1 (some .int), Cond.methodLink RX3 84 yX0_commandSector]
def wsX3_perform_r4 : List Cond := [Cond.instanceMethod yX0_commandSector, Cond.selects RX0 yX0_commandSector yX0_commandSector, Cond.code yX0_commandSector cX0_commandSector 2 (some .int), Cond.methodLink RX3 87 yX0_commandValue, Cond.instanceMethod yX0_commandValue, Cond.selects RX0 yX0_commandValue yX0_commandValue, Cond.code yX0_commandValue cX0_commandValue 2 (some .int), Cond.methodLink RX3 61 yX1_readAt, Cond.instanceMethod yX1_readAt, Cond.selects RX1 yX1_readAt yX1_readAt, Cond.code yX1_readAt cX1_readAt 2 (some .int), Cond.methodLink RX1 69 yX1_isAddress, Cond.instanceMethod yX1_isAddress, Cond.selects RX1 yX1_isAddress yX1_isAddress, Cond.code yX1_isAddress cX1_isAddress 2 (some .boolean), Cond.static yX3_isSector, Cond.code yX3_isSector cX3_isSector 1 (some .boolean), Cond.static yX3_placeOf, Cond.code yX3_placeOf cX3_placeOf 1 (some .int), Cond.static yX3_headOf, Cond.code yX3_headOf cX3_headOf 1 (some .int), Cond.methodLink RX1 83 yX1_isLost, Cond.instanceMethod yX1_isLost, Cond.selects RX1 yX1_isLost yX1_isLost]
def wsX3_perform_r5 : List Cond := [Cond.code yX1_isLost cX1_isLost 2 (some .boolean), Cond.methodLink RX1 108 yX1_goTo, Cond.instanceMethod yX1_goTo, Cond.selects RX1 yX1_goTo yX1_goTo, Cond.code yX1_goTo cX1_goTo 2 none, Cond.methodLink RX1 145 yX1_stepsTo, Cond.instanceMethod yX1_stepsTo, Cond.selects RX1 yX1_stepsTo yX1_stepsTo, Cond.code yX1_stepsTo cX1_stepsTo 3 (some .int), Cond.static yX3_stepsBetween, Cond.code yX3_stepsBetween cX3_stepsBetween 3 (some .int), Cond.methodLink RX3 151 Lib.Math.abs.name, Cond.static Lib.Math.abs.name, Cond.initialized "java/lang/Math", Cond.code Lib.Math.abs.name Lib.Math.abs.code 1 (some .int), Cond.methodLink RX3 148 yX3_placeOf, Cond.methodLink RX3 156 yX3_headOf, Cond.methodLink RX1 112 yX1_wearByReading, Cond.instanceMethod yX1_wearByReading, Cond.selects RX1 yX1_wearByReading yX1_wearByReading, Cond.code yX1_wearByReading cX1_wearByReading 2 none, Cond.methodLink RX1 115 yX1_lookAt, Cond.instanceMethod yX1_lookAt, Cond.selects RX1 yX1_lookAt yX1_lookAt]
def wsX3_perform_r6 : List Cond := [Cond.code yX1_lookAt cX1_lookAt 4 none, Cond.methodLink RX1 86 yX1_isGood, Cond.instanceMethod yX1_isGood, Cond.selects RX1 yX1_isGood yX1_isGood, Cond.code yX1_isGood cX1_isGood 2 (some .boolean), Cond.methodLink RX1 118 yX1_lendableTo, Cond.instanceMethod yX1_lendableTo, Cond.selects RX1 yX1_lendableTo yX1_lendableTo, Cond.code yX1_lendableTo cX1_lendableTo 7 (some .int), Cond.methodLink RX1 95 yX1_firstFreeOf, Cond.instanceMethod yX1_firstFreeOf, Cond.selects RX1 yX1_firstFreeOf yX1_firstFreeOf, Cond.code yX1_firstFreeOf cX1_firstFreeOf 3 (some .int), Cond.methodLink RX1 92 yX1_isFree, Cond.instanceMethod yX1_isFree, Cond.selects RX1 yX1_isFree yX1_isFree, Cond.code yX1_isFree cX1_isFree 4 (some .boolean), Cond.methodLink RX1 98 yX1_freeOf, Cond.instanceMethod yX1_freeOf, Cond.selects RX1 yX1_freeOf yX1_freeOf, Cond.code yX1_freeOf cX1_freeOf 4 (some .int), Cond.methodLink RX1 121 yX1_lend, Cond.instanceMethod yX1_lend, Cond.selects RX1 yX1_lend yX1_lend]
def wsX3_perform_r7 : List Cond := [Cond.code yX1_lend cX1_lend 3 none, Cond.methodLink RX1 142 yX1_release, Cond.instanceMethod yX1_release, Cond.selects RX1 yX1_release yX1_release, Cond.code yX1_release cX1_release 2 none, Cond.methodLink RX1 136 yX1_moveTo, Cond.instanceMethod yX1_moveTo, Cond.selects RX1 yX1_moveTo yX1_moveTo, Cond.code yX1_moveTo cX1_moveTo 2 none, Cond.methodLink RX1 124 yX1_wearByWriting, Cond.instanceMethod yX1_wearByWriting, Cond.selects RX1 yX1_wearByWriting yX1_wearByWriting, Cond.code yX1_wearByWriting cX1_wearByWriting 2 none, Cond.methodLink RX1 89 yX1_isBad, Cond.instanceMethod yX1_isBad, Cond.selects RX1 yX1_isBad yX1_isBad, Cond.code yX1_isBad cX1_isBad 2 (some .boolean), Cond.methodLink RX1 139 yX1_lose, Cond.instanceMethod yX1_lose, Cond.selects RX1 yX1_lose yX1_lose, Cond.code yX1_lose cX1_lose 2 none, Cond.methodLink RX3 64 yX1_writeAt, Cond.instanceMethod yX1_writeAt, Cond.selects RX1 yX1_writeAt yX1_writeAt]
def wsX3_perform_r8 : List Cond := [Cond.code yX1_writeAt cX1_writeAt 4 (some .int), Cond.methodLink RX3 47 yX3_settle, Cond.instanceMethod yX3_settle, Cond.selects RX3 yX3_settle yX3_settle, Cond.code yX3_settle cX3_settle 2 (some .int), Cond.fieldLink RX3 25 "LentSectors" "history" "LLentSectors$History;", Cond.methodLink RX3 145 yX2_record, Cond.instanceMethod yX2_record, Cond.selects RX2 yX2_record yX2_record, Cond.initialized RX2, Cond.code yX2_record cX2_record 2 none, Cond.fieldLink RX2 21 "LentSectors$History" "many" "I", Cond.fieldLink RX2 17 "LentSectors$History" "oldest" "I", Cond.fieldLink RX2 11 "LentSectors$History" "rooms" "[LLentSectors$Heads;", Cond.methodLink RX2 25 yX1_takeOver]
def wsX3_perform : List Cond := .code yX3_perform cX3_perform 6 (some .int) :: ((wsX3_perform_r1 ++ (wsX3_perform_r2 ++ (wsX3_perform_r3 ++ (wsX3_perform_r4 ++ (wsX3_perform_r5 ++ (wsX3_perform_r6 ++ (wsX3_perform_r7 ++ wsX3_perform_r8))))))) ++ wsX30 ++ wsX00 ++ wsX10 ++ wsX20)
def wsX3_giveBack_r1 : List Cond := [Cond.fieldLink RX3 16 "LentSectors" "trial" "LLentSectors$Heads;", Cond.methodLink RX3 40 yX3_startTrial, Cond.instanceMethod yX3_startTrial, Cond.selects RX3 yX3_startTrial yX3_startTrial, Cond.initialized RX3, Cond.code yX3_startTrial cX3_startTrial 1 none, Cond.fieldLink RX3 12 "LentSectors" "now" "LLentSectors$Heads;", Cond.methodLink RX3 115 yX1_takeOver, Cond.instanceMethod yX1_takeOver, Cond.selects RX1 yX1_takeOver yX1_takeOver, Cond.initialized RX1, Cond.code yX1_takeOver cX1_takeOver 2 none, Cond.fieldLink RX1 9 "LentSectors$Heads" "limit" "I", Cond.fieldLink RX1 15 "LentSectors$Heads" "ageing" "[I", Cond.methodLink RX1 63 arraycopyName, Cond.native arraycopyName, Cond.static arraycopyName, Cond.initialized "java/lang/System", Cond.fieldLink RX1 19 "LentSectors$Heads" "spares" "[I", Cond.fieldLink RX1 22 "LentSectors$Heads" "givenUp" "[Z", Cond.fieldLink RX1 26 "LentSectors$Heads" "wear" "[I", Cond.fieldLink RX1 29 "LentSectors$Heads" "value" "[I", Cond.fieldLink RX1 32 "LentSectors$Heads" "rescuesOf" "[I", Cond.fieldLink RX1 35 "LentSectors$Heads" "server" "[I"]
def wsX3_giveBack_r2 : List Cond := [Cond.fieldLink RX1 38 "LentSectors$Heads" "client" "[I", Cond.fieldLink RX1 41 "LentSectors$Heads" "arm" "I", Cond.fieldLink RX1 44 "LentSectors$Heads" "steps" "I", Cond.fieldLink RX1 47 "LentSectors$Heads" "rescues" "I", Cond.fieldLink RX1 50 "LentSectors$Heads" "losses" "I", Cond.fieldLink RX1 53 "LentSectors$Heads" "reads" "I", Cond.fieldLink RX1 56 "LentSectors$Heads" "writes" "I", Cond.methodLink RX3 90 yX1_giveBackAt, Cond.instanceMethod yX1_giveBackAt, Cond.selects RX1 yX1_giveBackAt yX1_giveBackAt, Cond.code yX1_giveBackAt cX1_giveBackAt 3 (some .int), Cond.methodLink RX1 69 yX1_isAddress, Cond.instanceMethod yX1_isAddress, Cond.selects RX1 yX1_isAddress yX1_isAddress, Cond.code yX1_isAddress cX1_isAddress 2 (some .boolean), Cond.static yX3_isSector, Cond.code yX3_isSector cX3_isSector 1 (some .boolean), Cond.static yX3_placeOf, Cond.code yX3_placeOf cX3_placeOf 1 (some .int), Cond.static yX3_headOf, Cond.code yX3_headOf cX3_headOf 1 (some .int), Cond.methodLink RX1 148 yX1_isLongWay, Cond.instanceMethod yX1_isLongWay, Cond.selects RX1 yX1_isLongWay yX1_isLongWay]
def wsX3_giveBack_r3 : List Cond := [Cond.code yX1_isLongWay cX1_isLongWay 2 (some .boolean), Cond.methodLink RX1 83 yX1_isLost, Cond.instanceMethod yX1_isLost, Cond.selects RX1 yX1_isLost yX1_isLost, Cond.code yX1_isLost cX1_isLost 2 (some .boolean), Cond.methodLink RX1 86 yX1_isGood, Cond.instanceMethod yX1_isGood, Cond.selects RX1 yX1_isGood yX1_isGood, Cond.code yX1_isGood cX1_isGood 2 (some .boolean), Cond.methodLink RX1 108 yX1_goTo, Cond.instanceMethod yX1_goTo, Cond.selects RX1 yX1_goTo yX1_goTo, Cond.code yX1_goTo cX1_goTo 2 none, Cond.methodLink RX1 145 yX1_stepsTo, Cond.instanceMethod yX1_stepsTo, Cond.selects RX1 yX1_stepsTo yX1_stepsTo, Cond.code yX1_stepsTo cX1_stepsTo 3 (some .int), Cond.static yX3_stepsBetween, Cond.code yX3_stepsBetween cX3_stepsBetween 3 (some .int), Cond.methodLink RX3 151 Lib.Math.abs.name, Cond.static Lib.Math.abs.name, Cond.initialized "java/lang/Math", Cond.code Lib.Math.abs.name Lib.Math.abs.code 1 (some .int), Cond.methodLink RX3 148 yX3_placeOf]
def wsX3_giveBack_r4 : List Cond := [Cond.methodLink RX3 156 yX3_headOf, Cond.methodLink RX1 136 yX1_moveTo, Cond.instanceMethod yX1_moveTo, Cond.selects RX1 yX1_moveTo yX1_moveTo, Cond.code yX1_moveTo cX1_moveTo 2 none, Cond.methodLink RX1 124 yX1_wearByWriting, Cond.instanceMethod yX1_wearByWriting, Cond.selects RX1 yX1_wearByWriting yX1_wearByWriting, Cond.code yX1_wearByWriting cX1_wearByWriting 2 none, Cond.methodLink RX1 121 yX1_lend, Cond.instanceMethod yX1_lend, Cond.selects RX1 yX1_lend yX1_lend, Cond.code yX1_lend cX1_lend 3 none, Cond.methodLink RX1 142 yX1_release, Cond.instanceMethod yX1_release, Cond.selects RX1 yX1_release yX1_release, Cond.code yX1_release cX1_release 2 none, Cond.methodLink RX3 47 yX3_settle, Cond.instanceMethod yX3_settle, Cond.selects RX3 yX3_settle yX3_settle, Cond.code yX3_settle cX3_settle 2 (some .int), Cond.fieldLink RX3 25 "LentSectors" "history" "LLentSectors$History;", Cond.methodLink RX3 145 yX2_record, Cond.instanceMethod yX2_record]
def wsX3_giveBack_r5 : List Cond := [Cond.selects RX2 yX2_record yX2_record, Cond.initialized RX2, Cond.code yX2_record cX2_record 2 none, Cond.fieldLink RX2 21 "LentSectors$History" "many" "I", Cond.fieldLink RX2 17 "LentSectors$History" "oldest" "I", Cond.fieldLink RX2 11 "LentSectors$History" "rooms" "[LLentSectors$Heads;", Cond.methodLink RX2 25 yX1_takeOver]
def wsX3_giveBack : List Cond := .code yX3_giveBack cX3_giveBack 2 (some .int) :: ((wsX3_giveBack_r1 ++ (wsX3_giveBack_r2 ++ (wsX3_giveBack_r3 ++ (wsX3_giveBack_r4 ++ wsX3_giveBack_r5)))) ++ wsX30 ++ wsX10 ++ wsX20)
def wsX3_giveUp_r1 : List Cond := [Cond.fieldLink RX3 12 "LentSectors" "now" "LLentSectors$Heads;", Cond.fieldLink RX3 16 "LentSectors" "trial" "LLentSectors$Heads;", Cond.methodLink RX3 50 yX3_isHead, Cond.static yX3_isHead, Cond.initialized RX3, Cond.code yX3_isHead cX3_isHead 1 (some .boolean), Cond.methodLink RX3 93 yX1_othersAreGivenUp, Cond.instanceMethod yX1_othersAreGivenUp, Cond.selects RX1 yX1_othersAreGivenUp yX1_othersAreGivenUp, Cond.initialized RX1, Cond.code yX1_othersAreGivenUp cX1_othersAreGivenUp 3 (some .boolean), Cond.fieldLink RX1 22 "LentSectors$Heads" "givenUp" "[Z", Cond.methodLink RX3 96 yX1_isGivenUp, Cond.instanceMethod yX1_isGivenUp, Cond.selects RX1 yX1_isGivenUp yX1_isGivenUp, Cond.code yX1_isGivenUp cX1_isGivenUp 2 (some .boolean), Cond.methodLink RX3 40 yX3_startTrial, Cond.instanceMethod yX3_startTrial, Cond.selects RX3 yX3_startTrial yX3_startTrial, Cond.code yX3_startTrial cX3_startTrial 1 none, Cond.methodLink RX3 115 yX1_takeOver, Cond.instanceMethod yX1_takeOver, Cond.selects RX1 yX1_takeOver yX1_takeOver, Cond.code yX1_takeOver cX1_takeOver 2 none]
def wsX3_giveUp_r2 : List Cond := [Cond.fieldLink RX1 9 "LentSectors$Heads" "limit" "I", Cond.fieldLink RX1 15 "LentSectors$Heads" "ageing" "[I", Cond.methodLink RX1 63 arraycopyName, Cond.native arraycopyName, Cond.static arraycopyName, Cond.initialized "java/lang/System", Cond.fieldLink RX1 19 "LentSectors$Heads" "spares" "[I", Cond.fieldLink RX1 26 "LentSectors$Heads" "wear" "[I", Cond.fieldLink RX1 29 "LentSectors$Heads" "value" "[I", Cond.fieldLink RX1 32 "LentSectors$Heads" "rescuesOf" "[I", Cond.fieldLink RX1 35 "LentSectors$Heads" "server" "[I", Cond.fieldLink RX1 38 "LentSectors$Heads" "client" "[I", Cond.fieldLink RX1 41 "LentSectors$Heads" "arm" "I", Cond.fieldLink RX1 44 "LentSectors$Heads" "steps" "I", Cond.fieldLink RX1 47 "LentSectors$Heads" "rescues" "I", Cond.fieldLink RX1 50 "LentSectors$Heads" "losses" "I", Cond.fieldLink RX1 53 "LentSectors$Heads" "reads" "I", Cond.fieldLink RX1 56 "LentSectors$Heads" "writes" "I", Cond.methodLink RX3 99 yX1_vacate, Cond.instanceMethod yX1_vacate, Cond.selects RX1 yX1_vacate yX1_vacate, Cond.code yX1_vacate cX1_vacate 4 (some .int), Cond.methodLink RX1 69 yX1_isAddress, Cond.instanceMethod yX1_isAddress]
def wsX3_giveUp_r3 : List Cond := [Cond.selects RX1 yX1_isAddress yX1_isAddress, Cond.code yX1_isAddress cX1_isAddress 2 (some .boolean), Cond.static yX3_isSector, Cond.code yX3_isSector cX3_isSector 1 (some .boolean), Cond.static yX3_placeOf, Cond.code yX3_placeOf cX3_placeOf 1 (some .int), Cond.static yX3_headOf, Cond.code yX3_headOf cX3_headOf 1 (some .int), Cond.methodLink RX1 83 yX1_isLost, Cond.instanceMethod yX1_isLost, Cond.selects RX1 yX1_isLost yX1_isLost, Cond.code yX1_isLost cX1_isLost 2 (some .boolean), Cond.methodLink RX1 151 yX1_moveAway, Cond.instanceMethod yX1_moveAway, Cond.selects RX1 yX1_moveAway yX1_moveAway, Cond.code yX1_moveAway cX1_moveAway 3 none, Cond.methodLink RX1 118 yX1_lendableTo, Cond.instanceMethod yX1_lendableTo, Cond.selects RX1 yX1_lendableTo yX1_lendableTo, Cond.code yX1_lendableTo cX1_lendableTo 7 (some .int), Cond.methodLink RX1 95 yX1_firstFreeOf, Cond.instanceMethod yX1_firstFreeOf, Cond.selects RX1 yX1_firstFreeOf yX1_firstFreeOf, Cond.code yX1_firstFreeOf cX1_firstFreeOf 3 (some .int)]
def wsX3_giveUp_r4 : List Cond := [Cond.methodLink RX1 92 yX1_isFree, Cond.instanceMethod yX1_isFree, Cond.selects RX1 yX1_isFree yX1_isFree, Cond.code yX1_isFree cX1_isFree 4 (some .boolean), Cond.methodLink RX1 86 yX1_isGood, Cond.instanceMethod yX1_isGood, Cond.selects RX1 yX1_isGood yX1_isGood, Cond.code yX1_isGood cX1_isGood 2 (some .boolean), Cond.methodLink RX1 98 yX1_freeOf, Cond.instanceMethod yX1_freeOf, Cond.selects RX1 yX1_freeOf yX1_freeOf, Cond.code yX1_freeOf cX1_freeOf 4 (some .int), Cond.methodLink RX1 139 yX1_lose, Cond.instanceMethod yX1_lose, Cond.selects RX1 yX1_lose yX1_lose, Cond.code yX1_lose cX1_lose 2 none, Cond.methodLink RX1 142 yX1_release, Cond.instanceMethod yX1_release, Cond.selects RX1 yX1_release yX1_release, Cond.code yX1_release cX1_release 2 none, Cond.methodLink RX1 121 yX1_lend, Cond.instanceMethod yX1_lend, Cond.selects RX1 yX1_lend yX1_lend, Cond.code yX1_lend cX1_lend 3 none]
def wsX3_giveUp_r5 : List Cond := [Cond.methodLink RX1 124 yX1_wearByWriting, Cond.instanceMethod yX1_wearByWriting, Cond.selects RX1 yX1_wearByWriting yX1_wearByWriting, Cond.code yX1_wearByWriting cX1_wearByWriting 2 none, Cond.methodLink RX3 47 yX3_settle, Cond.instanceMethod yX3_settle, Cond.selects RX3 yX3_settle yX3_settle, Cond.code yX3_settle cX3_settle 2 (some .int), Cond.fieldLink RX3 25 "LentSectors" "history" "LLentSectors$History;", Cond.methodLink RX3 145 yX2_record, Cond.instanceMethod yX2_record, Cond.selects RX2 yX2_record yX2_record, Cond.initialized RX2, Cond.code yX2_record cX2_record 2 none, Cond.fieldLink RX2 21 "LentSectors$History" "many" "I", Cond.fieldLink RX2 17 "LentSectors$History" "oldest" "I", Cond.fieldLink RX2 11 "LentSectors$History" "rooms" "[LLentSectors$Heads;", Cond.methodLink RX2 25 yX1_takeOver]
def wsX3_giveUp : List Cond := .code yX3_giveUp cX3_giveUp 2 (some .int) :: ((wsX3_giveUp_r1 ++ (wsX3_giveUp_r2 ++ (wsX3_giveUp_r3 ++ (wsX3_giveUp_r4 ++ wsX3_giveUp_r5)))) ++ wsX30 ++ wsX10 ++ wsX20)
def wsX3_type : List Cond := .code yX3_type cX3_type 2 (some .int) :: ([.fieldLink RX3 32 "LentSectors" "text" "LLentSectors$CommandText;", .methodLink RX3 102 yX0_append, .instanceMethod yX0_append, .selects RX0 yX0_append yX0_append, .initialized RX0, .code yX0_append cX0_append 2 (some .int), .fieldLink RX0 15 "LentSectors$CommandText" "length" "I", .fieldLink RX0 9 "LentSectors$CommandText" "codes" "[I"] ++ wsX30 ++ wsX00)
def wsX3_clearText : List Cond := .code yX3_clearText cX3_clearText 1 (some .int) :: ([.fieldLink RX3 32 "LentSectors" "text" "LLentSectors$CommandText;", .methodLink RX3 105 yX0_empty, .instanceMethod yX0_empty, .selects RX0 yX0_empty yX0_empty, .initialized RX0, .code yX0_empty cX0_empty 2 (some .int), .fieldLink RX0 15 "LentSectors$CommandText" "length" "I"] ++ wsX30 ++ wsX00)
def wsX3_undo_r1 : List Cond := [Cond.fieldLink RX3 25 "LentSectors" "history" "LLentSectors$History;", Cond.fieldLink RX3 12 "LentSectors" "now" "LLentSectors$Heads;", Cond.methodLink RX3 108 yX2_states, Cond.instanceMethod yX2_states, Cond.selects RX2 yX2_states yX2_states, Cond.initialized RX2, Cond.code yX2_states cX2_states 1 (some .int), Cond.fieldLink RX2 21 "LentSectors$History" "many" "I", Cond.methodLink RX3 111 yX2_takeBack, Cond.instanceMethod yX2_takeBack, Cond.selects RX2 yX2_takeBack yX2_takeBack, Cond.code yX2_takeBack cX2_takeBack 2 none, Cond.fieldLink RX2 11 "LentSectors$History" "rooms" "[LLentSectors$Heads;", Cond.fieldLink RX2 17 "LentSectors$History" "oldest" "I", Cond.methodLink RX2 25 yX1_takeOver, Cond.instanceMethod yX1_takeOver, Cond.selects RX1 yX1_takeOver yX1_takeOver, Cond.initialized RX1, Cond.code yX1_takeOver cX1_takeOver 2 none, Cond.fieldLink RX1 9 "LentSectors$Heads" "limit" "I", Cond.fieldLink RX1 15 "LentSectors$Heads" "ageing" "[I", Cond.methodLink RX1 63 arraycopyName, Cond.native arraycopyName, Cond.static arraycopyName]
def wsX3_undo_r2 : List Cond := [Cond.initialized "java/lang/System", Cond.fieldLink RX1 19 "LentSectors$Heads" "spares" "[I", Cond.fieldLink RX1 22 "LentSectors$Heads" "givenUp" "[Z", Cond.fieldLink RX1 26 "LentSectors$Heads" "wear" "[I", Cond.fieldLink RX1 29 "LentSectors$Heads" "value" "[I", Cond.fieldLink RX1 32 "LentSectors$Heads" "rescuesOf" "[I", Cond.fieldLink RX1 35 "LentSectors$Heads" "server" "[I", Cond.fieldLink RX1 38 "LentSectors$Heads" "client" "[I", Cond.fieldLink RX1 41 "LentSectors$Heads" "arm" "I", Cond.fieldLink RX1 44 "LentSectors$Heads" "steps" "I", Cond.fieldLink RX1 47 "LentSectors$Heads" "rescues" "I", Cond.fieldLink RX1 50 "LentSectors$Heads" "losses" "I", Cond.fieldLink RX1 53 "LentSectors$Heads" "reads" "I", Cond.fieldLink RX1 56 "LentSectors$Heads" "writes" "I"]
def wsX3_undo : List Cond := .code yX3_undo cX3_undo 1 (some .int) :: ((wsX3_undo_r1 ++ wsX3_undo_r2) ++ wsX30 ++ wsX20 ++ wsX10)
def wsX3_keep_r1 : List Cond := [Cond.fieldLink RX3 19 "LentSectors" "kept" "LLentSectors$Heads;", Cond.fieldLink RX3 12 "LentSectors" "now" "LLentSectors$Heads;", Cond.fieldLink RX3 36 "LentSectors" "hasKept" "Z", Cond.methodLink RX3 115 yX1_takeOver, Cond.instanceMethod yX1_takeOver, Cond.selects RX1 yX1_takeOver yX1_takeOver, Cond.initialized RX1, Cond.code yX1_takeOver cX1_takeOver 2 none, Cond.fieldLink RX1 9 "LentSectors$Heads" "limit" "I", Cond.fieldLink RX1 15 "LentSectors$Heads" "ageing" "[I", Cond.methodLink RX1 63 arraycopyName, Cond.native arraycopyName, Cond.static arraycopyName, Cond.initialized "java/lang/System", Cond.fieldLink RX1 19 "LentSectors$Heads" "spares" "[I", Cond.fieldLink RX1 22 "LentSectors$Heads" "givenUp" "[Z", Cond.fieldLink RX1 26 "LentSectors$Heads" "wear" "[I", Cond.fieldLink RX1 29 "LentSectors$Heads" "value" "[I", Cond.fieldLink RX1 32 "LentSectors$Heads" "rescuesOf" "[I", Cond.fieldLink RX1 35 "LentSectors$Heads" "server" "[I", Cond.fieldLink RX1 38 "LentSectors$Heads" "client" "[I", Cond.fieldLink RX1 41 "LentSectors$Heads" "arm" "I", Cond.fieldLink RX1 44 "LentSectors$Heads" "steps" "I", Cond.fieldLink RX1 47 "LentSectors$Heads" "rescues" "I"]
def wsX3_keep_r2 : List Cond := [Cond.fieldLink RX1 50 "LentSectors$Heads" "losses" "I", Cond.fieldLink RX1 53 "LentSectors$Heads" "reads" "I", Cond.fieldLink RX1 56 "LentSectors$Heads" "writes" "I", Cond.methodLink RX3 118 yX1_stepsSoFar, Cond.instanceMethod yX1_stepsSoFar, Cond.selects RX1 yX1_stepsSoFar yX1_stepsSoFar, Cond.code yX1_stepsSoFar cX1_stepsSoFar 1 (some .int)]
def wsX3_keep : List Cond := .code yX3_keep cX3_keep 1 (some .int) :: ((wsX3_keep_r1 ++ wsX3_keep_r2) ++ wsX30 ++ wsX10)
def wsX3_restore_r1 : List Cond := [Cond.fieldLink RX3 36 "LentSectors" "hasKept" "Z", Cond.fieldLink RX3 16 "LentSectors" "trial" "LLentSectors$Heads;", Cond.fieldLink RX3 19 "LentSectors" "kept" "LLentSectors$Heads;", Cond.methodLink RX3 115 yX1_takeOver, Cond.instanceMethod yX1_takeOver, Cond.selects RX1 yX1_takeOver yX1_takeOver, Cond.initialized RX1, Cond.code yX1_takeOver cX1_takeOver 2 none, Cond.fieldLink RX1 9 "LentSectors$Heads" "limit" "I", Cond.fieldLink RX1 15 "LentSectors$Heads" "ageing" "[I", Cond.methodLink RX1 63 arraycopyName, Cond.native arraycopyName, Cond.static arraycopyName, Cond.initialized "java/lang/System", Cond.fieldLink RX1 19 "LentSectors$Heads" "spares" "[I", Cond.fieldLink RX1 22 "LentSectors$Heads" "givenUp" "[Z", Cond.fieldLink RX1 26 "LentSectors$Heads" "wear" "[I", Cond.fieldLink RX1 29 "LentSectors$Heads" "value" "[I", Cond.fieldLink RX1 32 "LentSectors$Heads" "rescuesOf" "[I", Cond.fieldLink RX1 35 "LentSectors$Heads" "server" "[I", Cond.fieldLink RX1 38 "LentSectors$Heads" "client" "[I", Cond.fieldLink RX1 41 "LentSectors$Heads" "arm" "I", Cond.fieldLink RX1 44 "LentSectors$Heads" "steps" "I", Cond.fieldLink RX1 47 "LentSectors$Heads" "rescues" "I"]
def wsX3_restore_r2 : List Cond := [Cond.fieldLink RX1 50 "LentSectors$Heads" "losses" "I", Cond.fieldLink RX1 53 "LentSectors$Heads" "reads" "I", Cond.fieldLink RX1 56 "LentSectors$Heads" "writes" "I", Cond.methodLink RX3 118 yX1_stepsSoFar, Cond.instanceMethod yX1_stepsSoFar, Cond.selects RX1 yX1_stepsSoFar yX1_stepsSoFar, Cond.code yX1_stepsSoFar cX1_stepsSoFar 1 (some .int), Cond.methodLink RX3 47 yX3_settle, Cond.instanceMethod yX3_settle, Cond.selects RX3 yX3_settle yX3_settle, Cond.initialized RX3, Cond.code yX3_settle cX3_settle 2 (some .int), Cond.fieldLink RX3 25 "LentSectors" "history" "LLentSectors$History;", Cond.fieldLink RX3 12 "LentSectors" "now" "LLentSectors$Heads;", Cond.methodLink RX3 145 yX2_record, Cond.instanceMethod yX2_record, Cond.selects RX2 yX2_record yX2_record, Cond.initialized RX2, Cond.code yX2_record cX2_record 2 none, Cond.fieldLink RX2 21 "LentSectors$History" "many" "I", Cond.fieldLink RX2 17 "LentSectors$History" "oldest" "I", Cond.fieldLink RX2 11 "LentSectors$History" "rooms" "[LLentSectors$Heads;", Cond.methodLink RX2 25 yX1_takeOver]
def wsX3_restore : List Cond := .code yX3_restore cX3_restore 1 (some .int) :: ((wsX3_restore_r1 ++ wsX3_restore_r2) ++ wsX30 ++ wsX10 ++ wsX20)
def wsX3_address_r1 : List Cond := [Cond.fieldLink RX3 12 "LentSectors" "now" "LLentSectors$Heads;", Cond.methodLink RX3 67 yX1_isAddress, Cond.instanceMethod yX1_isAddress, Cond.selects RX1 yX1_isAddress yX1_isAddress, Cond.initialized RX1, Cond.code yX1_isAddress cX1_isAddress 2 (some .boolean), Cond.fieldLink RX1 19 "LentSectors$Heads" "spares" "[I", Cond.static yX3_isSector, Cond.initialized RX3, Cond.code yX3_isSector cX3_isSector 1 (some .boolean), Cond.static yX3_placeOf, Cond.code yX3_placeOf cX3_placeOf 1 (some .int), Cond.static yX3_headOf, Cond.code yX3_headOf cX3_headOf 1 (some .int), Cond.methodLink RX3 121 yX1_tellAddress, Cond.instanceMethod yX1_tellAddress, Cond.selects RX1 yX1_tellAddress yX1_tellAddress, Cond.code yX1_tellAddress cX1_tellAddress 3 (some .int), Cond.fieldLink RX1 29 "LentSectors$Heads" "value" "[I", Cond.fieldLink RX1 35 "LentSectors$Heads" "server" "[I", Cond.fieldLink RX1 32 "LentSectors$Heads" "rescuesOf" "[I", Cond.methodLink RX1 83 yX1_isLost, Cond.instanceMethod yX1_isLost, Cond.selects RX1 yX1_isLost yX1_isLost]
def wsX3_address_r2 : List Cond := [Cond.code yX1_isLost cX1_isLost 2 (some .boolean), Cond.methodLink RX1 148 yX1_isLongWay, Cond.instanceMethod yX1_isLongWay, Cond.selects RX1 yX1_isLongWay yX1_isLongWay, Cond.code yX1_isLongWay cX1_isLongWay 2 (some .boolean), Cond.methodLink RX1 118 yX1_lendableTo, Cond.instanceMethod yX1_lendableTo, Cond.selects RX1 yX1_lendableTo yX1_lendableTo, Cond.code yX1_lendableTo cX1_lendableTo 7 (some .int), Cond.methodLink RX1 95 yX1_firstFreeOf, Cond.instanceMethod yX1_firstFreeOf, Cond.selects RX1 yX1_firstFreeOf yX1_firstFreeOf, Cond.code yX1_firstFreeOf cX1_firstFreeOf 3 (some .int), Cond.methodLink RX1 92 yX1_isFree, Cond.instanceMethod yX1_isFree, Cond.selects RX1 yX1_isFree yX1_isFree, Cond.code yX1_isFree cX1_isFree 4 (some .boolean), Cond.fieldLink RX1 38 "LentSectors$Heads" "client" "[I", Cond.fieldLink RX1 22 "LentSectors$Heads" "givenUp" "[Z", Cond.methodLink RX1 86 yX1_isGood, Cond.instanceMethod yX1_isGood, Cond.selects RX1 yX1_isGood yX1_isGood, Cond.code yX1_isGood cX1_isGood 2 (some .boolean), Cond.fieldLink RX1 26 "LentSectors$Heads" "wear" "[I"]
def wsX3_address_r3 : List Cond := [Cond.fieldLink RX1 9 "LentSectors$Heads" "limit" "I", Cond.methodLink RX1 98 yX1_freeOf, Cond.instanceMethod yX1_freeOf, Cond.selects RX1 yX1_freeOf yX1_freeOf, Cond.code yX1_freeOf cX1_freeOf 4 (some .int), Cond.methodLink RX1 145 yX1_stepsTo, Cond.instanceMethod yX1_stepsTo, Cond.selects RX1 yX1_stepsTo yX1_stepsTo, Cond.code yX1_stepsTo cX1_stepsTo 3 (some .int), Cond.fieldLink RX1 41 "LentSectors$Heads" "arm" "I", Cond.static yX3_stepsBetween, Cond.code yX3_stepsBetween cX3_stepsBetween 3 (some .int), Cond.methodLink RX3 151 Lib.Math.abs.name, Cond.static Lib.Math.abs.name, Cond.initialized "java/lang/Math", Cond.code Lib.Math.abs.name Lib.Math.abs.code 1 (some .int), Cond.methodLink RX3 148 yX3_placeOf, Cond.methodLink RX3 156 yX3_headOf]
def wsX3_address : List Cond := .code yX3_address cX3_address 3 (some .int) :: ((wsX3_address_r1 ++ (wsX3_address_r2 ++ wsX3_address_r3)) ++ wsX30 ++ wsX10)
def wsX3_sector_r1 : List Cond := [Cond.fieldLink RX3 12 "LentSectors" "now" "LLentSectors$Heads;", Cond.methodLink RX3 124 yX3_isSector, Cond.static yX3_isSector, Cond.initialized RX3, Cond.code yX3_isSector cX3_isSector 1 (some .boolean), Cond.methodLink RX3 127 yX1_tellSector, Cond.instanceMethod yX1_tellSector, Cond.selects RX1 yX1_tellSector yX1_tellSector, Cond.initialized RX1, Cond.code yX1_tellSector cX1_tellSector 3 (some .int), Cond.fieldLink RX1 26 "LentSectors$Heads" "wear" "[I", Cond.fieldLink RX1 38 "LentSectors$Heads" "client" "[I", Cond.methodLink RX1 154 yX1_gradeOf, Cond.instanceMethod yX1_gradeOf, Cond.selects RX1 yX1_gradeOf yX1_gradeOf, Cond.code yX1_gradeOf cX1_gradeOf 2 (some .int), Cond.methodLink RX1 86 yX1_isGood, Cond.instanceMethod yX1_isGood, Cond.selects RX1 yX1_isGood yX1_isGood, Cond.code yX1_isGood cX1_isGood 2 (some .boolean), Cond.fieldLink RX1 9 "LentSectors$Heads" "limit" "I", Cond.methodLink RX1 89 yX1_isBad, Cond.instanceMethod yX1_isBad, Cond.selects RX1 yX1_isBad yX1_isBad]
def wsX3_sector_r2 : List Cond := [Cond.code yX1_isBad cX1_isBad 2 (some .boolean), Cond.methodLink RX1 69 yX1_isAddress, Cond.instanceMethod yX1_isAddress, Cond.selects RX1 yX1_isAddress yX1_isAddress, Cond.code yX1_isAddress cX1_isAddress 2 (some .boolean), Cond.fieldLink RX1 19 "LentSectors$Heads" "spares" "[I", Cond.static yX3_placeOf, Cond.code yX3_placeOf cX3_placeOf 1 (some .int), Cond.static yX3_headOf, Cond.code yX3_headOf cX3_headOf 1 (some .int), Cond.methodLink RX1 92 yX1_isFree, Cond.instanceMethod yX1_isFree, Cond.selects RX1 yX1_isFree yX1_isFree, Cond.code yX1_isFree cX1_isFree 4 (some .boolean), Cond.fieldLink RX1 22 "LentSectors$Heads" "givenUp" "[Z"]
def wsX3_sector : List Cond := .code yX3_sector cX3_sector 3 (some .int) :: ((wsX3_sector_r1 ++ wsX3_sector_r2) ++ wsX30 ++ wsX10)
def wsX3_head_r1 : List Cond := [Cond.fieldLink RX3 12 "LentSectors" "now" "LLentSectors$Heads;", Cond.methodLink RX3 50 yX3_isHead, Cond.static yX3_isHead, Cond.initialized RX3, Cond.code yX3_isHead cX3_isHead 1 (some .boolean), Cond.methodLink RX3 130 yX1_tellHead, Cond.instanceMethod yX1_tellHead, Cond.selects RX1 yX1_tellHead yX1_tellHead, Cond.initialized RX1, Cond.code yX1_tellHead cX1_tellHead 3 (some .int), Cond.fieldLink RX1 15 "LentSectors$Heads" "ageing" "[I", Cond.fieldLink RX1 19 "LentSectors$Heads" "spares" "[I", Cond.fieldLink RX1 22 "LentSectors$Heads" "givenUp" "[Z", Cond.fieldLink RX1 38 "LentSectors$Heads" "client" "[I", Cond.fieldLink RX1 35 "LentSectors$Heads" "server" "[I", Cond.methodLink RX1 98 yX1_freeOf, Cond.instanceMethod yX1_freeOf, Cond.selects RX1 yX1_freeOf yX1_freeOf, Cond.code yX1_freeOf cX1_freeOf 4 (some .int), Cond.methodLink RX1 92 yX1_isFree, Cond.instanceMethod yX1_isFree, Cond.selects RX1 yX1_isFree yX1_isFree, Cond.code yX1_isFree cX1_isFree 4 (some .boolean), Cond.static yX3_headOf]
def wsX3_head_r2 : List Cond := [Cond.code yX3_headOf cX3_headOf 1 (some .int), Cond.static yX3_placeOf, Cond.code yX3_placeOf cX3_placeOf 1 (some .int), Cond.methodLink RX1 86 yX1_isGood, Cond.instanceMethod yX1_isGood, Cond.selects RX1 yX1_isGood yX1_isGood, Cond.code yX1_isGood cX1_isGood 2 (some .boolean), Cond.fieldLink RX1 26 "LentSectors$Heads" "wear" "[I", Cond.fieldLink RX1 9 "LentSectors$Heads" "limit" "I", Cond.methodLink RX1 157 yX1_leadingElsewhere, Cond.instanceMethod yX1_leadingElsewhere, Cond.selects RX1 yX1_leadingElsewhere yX1_leadingElsewhere, Cond.code yX1_leadingElsewhere cX1_leadingElsewhere 6 (some .int), Cond.methodLink RX1 133 yX1_lostOf, Cond.instanceMethod yX1_lostOf, Cond.selects RX1 yX1_lostOf yX1_lostOf, Cond.code yX1_lostOf cX1_lostOf 4 (some .int), Cond.methodLink RX1 83 yX1_isLost, Cond.instanceMethod yX1_isLost, Cond.selects RX1 yX1_isLost yX1_isLost, Cond.code yX1_isLost cX1_isLost 2 (some .boolean), Cond.methodLink RX1 105 yX1_wearOf, Cond.instanceMethod yX1_wearOf, Cond.selects RX1 yX1_wearOf yX1_wearOf]
def wsX3_head_r3 : List Cond := [Cond.code yX1_wearOf cX1_wearOf 4 (some .int), Cond.methodLink RX1 161 yX1_gradedOf, Cond.instanceMethod yX1_gradedOf, Cond.selects RX1 yX1_gradedOf yX1_gradedOf, Cond.code yX1_gradedOf cX1_gradedOf 5 (some .int), Cond.methodLink RX1 154 yX1_gradeOf, Cond.instanceMethod yX1_gradeOf, Cond.selects RX1 yX1_gradeOf yX1_gradeOf, Cond.code yX1_gradeOf cX1_gradeOf 2 (some .int), Cond.methodLink RX1 89 yX1_isBad, Cond.instanceMethod yX1_isBad, Cond.selects RX1 yX1_isBad yX1_isBad, Cond.code yX1_isBad cX1_isBad 2 (some .boolean)]
def wsX3_head : List Cond := .code yX3_head cX3_head 3 (some .int) :: ((wsX3_head_r1 ++ (wsX3_head_r2 ++ wsX3_head_r3)) ++ wsX30 ++ wsX10)
def wsX3_readsLeft_r1 : List Cond := [Cond.fieldLink RX3 12 "LentSectors" "now" "LLentSectors$Heads;", Cond.methodLink RX3 133 yX1_readsUntilChange, Cond.instanceMethod yX1_readsUntilChange, Cond.selects RX1 yX1_readsUntilChange yX1_readsUntilChange, Cond.initialized RX1, Cond.code yX1_readsUntilChange cX1_readsUntilChange 6 (some .int), Cond.fieldLink RX1 35 "LentSectors$Heads" "server" "[I", Cond.fieldLink RX1 9 "LentSectors$Heads" "limit" "I", Cond.fieldLink RX1 26 "LentSectors$Heads" "wear" "[I", Cond.fieldLink RX1 15 "LentSectors$Heads" "ageing" "[I", Cond.methodLink RX1 69 yX1_isAddress, Cond.instanceMethod yX1_isAddress, Cond.selects RX1 yX1_isAddress yX1_isAddress, Cond.code yX1_isAddress cX1_isAddress 2 (some .boolean), Cond.fieldLink RX1 19 "LentSectors$Heads" "spares" "[I", Cond.static yX3_isSector, Cond.initialized RX3, Cond.code yX3_isSector cX3_isSector 1 (some .boolean), Cond.static yX3_placeOf, Cond.code yX3_placeOf cX3_placeOf 1 (some .int), Cond.static yX3_headOf, Cond.code yX3_headOf cX3_headOf 1 (some .int), Cond.methodLink RX1 83 yX1_isLost, Cond.instanceMethod yX1_isLost]
def wsX3_readsLeft_r2 : List Cond := [Cond.selects RX1 yX1_isLost yX1_isLost, Cond.code yX1_isLost cX1_isLost 2 (some .boolean), Cond.methodLink RX1 118 yX1_lendableTo, Cond.instanceMethod yX1_lendableTo, Cond.selects RX1 yX1_lendableTo yX1_lendableTo, Cond.code yX1_lendableTo cX1_lendableTo 7 (some .int), Cond.methodLink RX1 95 yX1_firstFreeOf, Cond.instanceMethod yX1_firstFreeOf, Cond.selects RX1 yX1_firstFreeOf yX1_firstFreeOf, Cond.code yX1_firstFreeOf cX1_firstFreeOf 3 (some .int), Cond.methodLink RX1 92 yX1_isFree, Cond.instanceMethod yX1_isFree, Cond.selects RX1 yX1_isFree yX1_isFree, Cond.code yX1_isFree cX1_isFree 4 (some .boolean), Cond.fieldLink RX1 38 "LentSectors$Heads" "client" "[I", Cond.fieldLink RX1 22 "LentSectors$Heads" "givenUp" "[Z", Cond.methodLink RX1 86 yX1_isGood, Cond.instanceMethod yX1_isGood, Cond.selects RX1 yX1_isGood yX1_isGood, Cond.code yX1_isGood cX1_isGood 2 (some .boolean), Cond.methodLink RX1 98 yX1_freeOf, Cond.instanceMethod yX1_freeOf, Cond.selects RX1 yX1_freeOf yX1_freeOf, Cond.code yX1_freeOf cX1_freeOf 4 (some .int)]
def wsX3_readsLeft : List Cond := .code yX3_readsLeft cX3_readsLeft 2 (some .int) :: ((wsX3_readsLeft_r1 ++ wsX3_readsLeft_r2) ++ wsX30 ++ wsX10)
def wsX3_wouldLose_r1 : List Cond := [Cond.fieldLink RX3 12 "LentSectors" "now" "LLentSectors$Heads;", Cond.fieldLink RX3 16 "LentSectors" "trial" "LLentSectors$Heads;", Cond.methodLink RX3 50 yX3_isHead, Cond.static yX3_isHead, Cond.initialized RX3, Cond.code yX3_isHead cX3_isHead 1 (some .boolean), Cond.methodLink RX3 96 yX1_isGivenUp, Cond.instanceMethod yX1_isGivenUp, Cond.selects RX1 yX1_isGivenUp yX1_isGivenUp, Cond.initialized RX1, Cond.code yX1_isGivenUp cX1_isGivenUp 2 (some .boolean), Cond.fieldLink RX1 22 "LentSectors$Heads" "givenUp" "[Z", Cond.methodLink RX3 40 yX3_startTrial, Cond.instanceMethod yX3_startTrial, Cond.selects RX3 yX3_startTrial yX3_startTrial, Cond.code yX3_startTrial cX3_startTrial 1 none, Cond.methodLink RX3 115 yX1_takeOver, Cond.instanceMethod yX1_takeOver, Cond.selects RX1 yX1_takeOver yX1_takeOver, Cond.code yX1_takeOver cX1_takeOver 2 none, Cond.fieldLink RX1 9 "LentSectors$Heads" "limit" "I", Cond.fieldLink RX1 15 "LentSectors$Heads" "ageing" "[I", Cond.methodLink RX1 63 arraycopyName, Cond.native arraycopyName]
def wsX3_wouldLose_r2 : List Cond := [Cond.static arraycopyName, Cond.initialized "java/lang/System", Cond.fieldLink RX1 19 "LentSectors$Heads" "spares" "[I", Cond.fieldLink RX1 26 "LentSectors$Heads" "wear" "[I", Cond.fieldLink RX1 29 "LentSectors$Heads" "value" "[I", Cond.fieldLink RX1 32 "LentSectors$Heads" "rescuesOf" "[I", Cond.fieldLink RX1 35 "LentSectors$Heads" "server" "[I", Cond.fieldLink RX1 38 "LentSectors$Heads" "client" "[I", Cond.fieldLink RX1 41 "LentSectors$Heads" "arm" "I", Cond.fieldLink RX1 44 "LentSectors$Heads" "steps" "I", Cond.fieldLink RX1 47 "LentSectors$Heads" "rescues" "I", Cond.fieldLink RX1 50 "LentSectors$Heads" "losses" "I", Cond.fieldLink RX1 53 "LentSectors$Heads" "reads" "I", Cond.fieldLink RX1 56 "LentSectors$Heads" "writes" "I", Cond.methodLink RX3 99 yX1_vacate, Cond.instanceMethod yX1_vacate, Cond.selects RX1 yX1_vacate yX1_vacate, Cond.code yX1_vacate cX1_vacate 4 (some .int), Cond.methodLink RX1 69 yX1_isAddress, Cond.instanceMethod yX1_isAddress, Cond.selects RX1 yX1_isAddress yX1_isAddress, Cond.code yX1_isAddress cX1_isAddress 2 (some .boolean), Cond.static yX3_isSector, Cond.code yX3_isSector cX3_isSector 1 (some .boolean)]
def wsX3_wouldLose_r3 : List Cond := [Cond.static yX3_placeOf, Cond.code yX3_placeOf cX3_placeOf 1 (some .int), Cond.static yX3_headOf, Cond.code yX3_headOf cX3_headOf 1 (some .int), Cond.methodLink RX1 83 yX1_isLost, Cond.instanceMethod yX1_isLost, Cond.selects RX1 yX1_isLost yX1_isLost, Cond.code yX1_isLost cX1_isLost 2 (some .boolean), Cond.methodLink RX1 151 yX1_moveAway, Cond.instanceMethod yX1_moveAway, Cond.selects RX1 yX1_moveAway yX1_moveAway, Cond.code yX1_moveAway cX1_moveAway 3 none, Cond.methodLink RX1 118 yX1_lendableTo, Cond.instanceMethod yX1_lendableTo, Cond.selects RX1 yX1_lendableTo yX1_lendableTo, Cond.code yX1_lendableTo cX1_lendableTo 7 (some .int), Cond.methodLink RX1 95 yX1_firstFreeOf, Cond.instanceMethod yX1_firstFreeOf, Cond.selects RX1 yX1_firstFreeOf yX1_firstFreeOf, Cond.code yX1_firstFreeOf cX1_firstFreeOf 3 (some .int), Cond.methodLink RX1 92 yX1_isFree, Cond.instanceMethod yX1_isFree, Cond.selects RX1 yX1_isFree yX1_isFree, Cond.code yX1_isFree cX1_isFree 4 (some .boolean)]
def wsX3_wouldLose_r4 : List Cond := [Cond.methodLink RX1 86 yX1_isGood, Cond.instanceMethod yX1_isGood, Cond.selects RX1 yX1_isGood yX1_isGood, Cond.code yX1_isGood cX1_isGood 2 (some .boolean), Cond.methodLink RX1 98 yX1_freeOf, Cond.instanceMethod yX1_freeOf, Cond.selects RX1 yX1_freeOf yX1_freeOf, Cond.code yX1_freeOf cX1_freeOf 4 (some .int), Cond.methodLink RX1 139 yX1_lose, Cond.instanceMethod yX1_lose, Cond.selects RX1 yX1_lose yX1_lose, Cond.code yX1_lose cX1_lose 2 none, Cond.methodLink RX1 142 yX1_release, Cond.instanceMethod yX1_release, Cond.selects RX1 yX1_release yX1_release, Cond.code yX1_release cX1_release 2 none, Cond.methodLink RX1 121 yX1_lend, Cond.instanceMethod yX1_lend, Cond.selects RX1 yX1_lend yX1_lend, Cond.code yX1_lend cX1_lend 3 none, Cond.methodLink RX1 124 yX1_wearByWriting, Cond.instanceMethod yX1_wearByWriting, Cond.selects RX1 yX1_wearByWriting yX1_wearByWriting, Cond.code yX1_wearByWriting cX1_wearByWriting 2 none]
def wsX3_wouldLose : List Cond := .code yX3_wouldLose cX3_wouldLose 2 (some .int) :: ((wsX3_wouldLose_r1 ++ (wsX3_wouldLose_r2 ++ (wsX3_wouldLose_r3 ++ wsX3_wouldLose_r4))) ++ wsX30 ++ wsX10)
def wsX3_worst_r1 : List Cond := [Cond.fieldLink RX3 12 "LentSectors" "now" "LLentSectors$Heads;", Cond.methodLink RX3 136 yX1_addressOfRank, Cond.instanceMethod yX1_addressOfRank, Cond.selects RX1 yX1_addressOfRank yX1_addressOfRank, Cond.initialized RX1, Cond.code yX1_addressOfRank cX1_addressOfRank 3 (some .int), Cond.methodLink RX1 171 yX1_hasRank, Cond.instanceMethod yX1_hasRank, Cond.selects RX1 yX1_hasRank yX1_hasRank, Cond.code yX1_hasRank cX1_hasRank 2 (some .boolean), Cond.methodLink RX1 69 yX1_isAddress, Cond.instanceMethod yX1_isAddress, Cond.selects RX1 yX1_isAddress yX1_isAddress, Cond.code yX1_isAddress cX1_isAddress 2 (some .boolean), Cond.fieldLink RX1 19 "LentSectors$Heads" "spares" "[I", Cond.static yX3_isSector, Cond.initialized RX3, Cond.code yX3_isSector cX3_isSector 1 (some .boolean), Cond.static yX3_placeOf, Cond.code yX3_placeOf cX3_placeOf 1 (some .int), Cond.static yX3_headOf, Cond.code yX3_headOf cX3_headOf 1 (some .int), Cond.methodLink RX1 83 yX1_isLost, Cond.instanceMethod yX1_isLost]
def wsX3_worst_r2 : List Cond := [Cond.selects RX1 yX1_isLost yX1_isLost, Cond.code yX1_isLost cX1_isLost 2 (some .boolean), Cond.fieldLink RX1 35 "LentSectors$Heads" "server" "[I", Cond.methodLink RX1 174 yX1_rankOf, Cond.instanceMethod yX1_rankOf, Cond.selects RX1 yX1_rankOf yX1_rankOf, Cond.code yX1_rankOf cX1_rankOf 6 (some .int), Cond.fieldLink RX1 26 "LentSectors$Heads" "wear" "[I"]
def wsX3_worst : List Cond := .code yX3_worst cX3_worst 2 (some .int) :: ((wsX3_worst_r1 ++ wsX3_worst_r2) ++ wsX30 ++ wsX10)
def wsX3_count_r1 : List Cond := [Cond.fieldLink RX3 25 "LentSectors" "history" "LLentSectors$History;", Cond.fieldLink RX3 32 "LentSectors" "text" "LLentSectors$CommandText;", Cond.fieldLink RX3 12 "LentSectors" "now" "LLentSectors$Heads;", Cond.methodLink RX3 108 yX2_states, Cond.instanceMethod yX2_states, Cond.selects RX2 yX2_states yX2_states, Cond.initialized RX2, Cond.code yX2_states cX2_states 1 (some .int), Cond.fieldLink RX2 21 "LentSectors$History" "many" "I", Cond.methodLink RX3 139 yX0_length, Cond.instanceMethod yX0_length, Cond.selects RX0 yX0_length yX0_length, Cond.initialized RX0, Cond.code yX0_length cX0_length 1 (some .int), Cond.fieldLink RX0 15 "LentSectors$CommandText" "length" "I", Cond.methodLink RX3 142 yX1_tellWhole, Cond.instanceMethod yX1_tellWhole, Cond.selects RX1 yX1_tellWhole yX1_tellWhole, Cond.initialized RX1, Cond.code yX1_tellWhole cX1_tellWhole 2 (some .int), Cond.fieldLink RX1 9 "LentSectors$Heads" "limit" "I", Cond.fieldLink RX1 41 "LentSectors$Heads" "arm" "I", Cond.fieldLink RX1 44 "LentSectors$Heads" "steps" "I", Cond.fieldLink RX1 47 "LentSectors$Heads" "rescues" "I"]
def wsX3_count_r2 : List Cond := [Cond.fieldLink RX1 50 "LentSectors$Heads" "losses" "I", Cond.fieldLink RX1 53 "LentSectors$Heads" "reads" "I", Cond.fieldLink RX1 56 "LentSectors$Heads" "writes" "I", Cond.methodLink RX1 164 yX1_overHeads, Cond.instanceMethod yX1_overHeads, Cond.selects RX1 yX1_overHeads yX1_overHeads, Cond.code yX1_overHeads cX1_overHeads 4 (some .int), Cond.methodLink RX1 177 yX1_tellHead, Cond.instanceMethod yX1_tellHead, Cond.selects RX1 yX1_tellHead yX1_tellHead, Cond.code yX1_tellHead cX1_tellHead 3 (some .int), Cond.fieldLink RX1 15 "LentSectors$Heads" "ageing" "[I", Cond.fieldLink RX1 19 "LentSectors$Heads" "spares" "[I", Cond.fieldLink RX1 22 "LentSectors$Heads" "givenUp" "[Z", Cond.fieldLink RX1 38 "LentSectors$Heads" "client" "[I", Cond.fieldLink RX1 35 "LentSectors$Heads" "server" "[I", Cond.methodLink RX1 98 yX1_freeOf, Cond.instanceMethod yX1_freeOf, Cond.selects RX1 yX1_freeOf yX1_freeOf, Cond.code yX1_freeOf cX1_freeOf 4 (some .int), Cond.methodLink RX1 92 yX1_isFree, Cond.instanceMethod yX1_isFree, Cond.selects RX1 yX1_isFree yX1_isFree, Cond.code yX1_isFree cX1_isFree 4 (some .boolean)]
def wsX3_count_r3 : List Cond := [Cond.static yX3_headOf, Cond.initialized RX3, Cond.code yX3_headOf cX3_headOf 1 (some .int), Cond.static yX3_placeOf, Cond.code yX3_placeOf cX3_placeOf 1 (some .int), Cond.methodLink RX1 86 yX1_isGood, Cond.instanceMethod yX1_isGood, Cond.selects RX1 yX1_isGood yX1_isGood, Cond.code yX1_isGood cX1_isGood 2 (some .boolean), Cond.fieldLink RX1 26 "LentSectors$Heads" "wear" "[I", Cond.methodLink RX1 157 yX1_leadingElsewhere, Cond.instanceMethod yX1_leadingElsewhere, Cond.selects RX1 yX1_leadingElsewhere yX1_leadingElsewhere, Cond.code yX1_leadingElsewhere cX1_leadingElsewhere 6 (some .int), Cond.methodLink RX1 133 yX1_lostOf, Cond.instanceMethod yX1_lostOf, Cond.selects RX1 yX1_lostOf yX1_lostOf, Cond.code yX1_lostOf cX1_lostOf 4 (some .int), Cond.methodLink RX1 83 yX1_isLost, Cond.instanceMethod yX1_isLost, Cond.selects RX1 yX1_isLost yX1_isLost, Cond.code yX1_isLost cX1_isLost 2 (some .boolean), Cond.methodLink RX1 105 yX1_wearOf, Cond.instanceMethod yX1_wearOf]
def wsX3_count_r4 : List Cond := [Cond.selects RX1 yX1_wearOf yX1_wearOf, Cond.code yX1_wearOf cX1_wearOf 4 (some .int), Cond.methodLink RX1 161 yX1_gradedOf, Cond.instanceMethod yX1_gradedOf, Cond.selects RX1 yX1_gradedOf yX1_gradedOf, Cond.code yX1_gradedOf cX1_gradedOf 5 (some .int), Cond.methodLink RX1 154 yX1_gradeOf, Cond.instanceMethod yX1_gradeOf, Cond.selects RX1 yX1_gradeOf yX1_gradeOf, Cond.code yX1_gradeOf cX1_gradeOf 2 (some .int), Cond.methodLink RX1 89 yX1_isBad, Cond.instanceMethod yX1_isBad, Cond.selects RX1 yX1_isBad yX1_isBad, Cond.code yX1_isBad cX1_isBad 2 (some .boolean), Cond.methodLink RX1 167 yX1_longWayCount, Cond.instanceMethod yX1_longWayCount, Cond.selects RX1 yX1_longWayCount yX1_longWayCount, Cond.code yX1_longWayCount cX1_longWayCount 3 (some .int), Cond.methodLink RX1 69 yX1_isAddress, Cond.instanceMethod yX1_isAddress, Cond.selects RX1 yX1_isAddress yX1_isAddress, Cond.code yX1_isAddress cX1_isAddress 2 (some .boolean), Cond.static yX3_isSector, Cond.code yX3_isSector cX3_isSector 1 (some .boolean)]
def wsX3_count_r5 : List Cond := [Cond.methodLink RX1 148 yX1_isLongWay, Cond.instanceMethod yX1_isLongWay, Cond.selects RX1 yX1_isLongWay yX1_isLongWay, Cond.code yX1_isLongWay cX1_isLongWay 2 (some .boolean)]
def wsX3_count : List Cond := .code yX3_count cX3_count 2 (some .int) :: ((wsX3_count_r1 ++ (wsX3_count_r2 ++ (wsX3_count_r3 ++ (wsX3_count_r4 ++ wsX3_count_r5)))) ++ wsX30 ++ wsX20 ++ wsX00 ++ wsX10)
def wsX4_init : List Cond := .code yX4_init cX4_init 2 none :: ([.methodLink RX4 1 objectInit, .instanceMethod objectInit, .code objectInit ⟨#[0xb1]⟩ 1 none, .arrayClass .int, .fieldLink RX4 7 "LentSectorsModel" "now" "[I", .fieldLink RX4 13 "LentSectorsModel" "spare" "[I", .fieldLink RX4 16 "LentSectorsModel" "pair" "[I", .fieldLink RX4 19 "LentSectorsModel" "slot" "[I", .fieldLink RX4 22 "LentSectorsModel" "history" "[I", .fieldLink RX4 25 "LentSectorsModel" "text" "[I"] ++ wsX40)
def wsX4_in : List Cond := .code yX4_in cX4_in 3 (some .boolean) :: ([])
def wsX4_copies : List Cond := .code yX4_copies cX4_copies 3 none :: ([])
def wsX4_record : List Cond := .code yX4_record cX4_record 3 none :: ([.fieldLink RX4 28 "LentSectorsModel" "kept" "I", .fieldLink RX4 22 "LentSectorsModel" "history" "[I"] ++ wsX40)
def wsX4_isHead : List Cond := .code yX4_isHead cX4_isHead 1 (some .boolean) :: ([.methodLink RX4 32 yX4_in, .static yX4_in, .initialized RX4, .code yX4_in cX4_in 3 (some .boolean)])
def wsX4_isSpare : List Cond := .code yX4_isSpare cX4_isSpare 2 (some .boolean) :: ([.fieldLink RX4 7 "LentSectorsModel" "now" "[I"] ++ wsX40)
def wsX4_isAddress : List Cond := .code yX4_isAddress cX4_isAddress 2 (some .boolean) :: ([.methodLink RX4 32 yX4_in, .static yX4_in, .initialized RX4, .code yX4_in cX4_in 3 (some .boolean), .methodLink RX4 36 yX4_isSpare, .instanceMethod yX4_isSpare, .selects RX4 yX4_isSpare yX4_isSpare, .code yX4_isSpare cX4_isSpare 2 (some .boolean), .fieldLink RX4 7 "LentSectorsModel" "now" "[I"] ++ wsX40)
def wsX4_isLost : List Cond := .code yX4_isLost cX4_isLost 2 (some .boolean) :: ([.fieldLink RX4 7 "LentSectorsModel" "now" "[I"] ++ wsX40)
def wsX4_state : List Cond := .code yX4_state cX4_state 3 (some .int) :: ([.fieldLink RX4 7 "LentSectorsModel" "now" "[I"] ++ wsX40)
def wsX4_serves : List Cond := .code yX4_serves cX4_serves 3 (some .int) :: ([.fieldLink RX4 7 "LentSectorsModel" "now" "[I", .methodLink RX4 40 yX4_isAddress, .instanceMethod yX4_isAddress, .selects RX4 yX4_isAddress yX4_isAddress, .initialized RX4, .code yX4_isAddress cX4_isAddress 2 (some .boolean), .methodLink RX4 32 yX4_in, .static yX4_in, .code yX4_in cX4_in 3 (some .boolean), .methodLink RX4 36 yX4_isSpare, .instanceMethod yX4_isSpare, .selects RX4 yX4_isSpare yX4_isSpare, .code yX4_isSpare cX4_isSpare 2 (some .boolean)] ++ wsX40)
def wsX4_isFree : List Cond := .code yX4_isFree cX4_isFree 2 (some .boolean) :: ([.fieldLink RX4 7 "LentSectorsModel" "now" "[I", .methodLink RX4 36 yX4_isSpare, .instanceMethod yX4_isSpare, .selects RX4 yX4_isSpare yX4_isSpare, .initialized RX4, .code yX4_isSpare cX4_isSpare 2 (some .boolean), .methodLink RX4 43 yX4_state, .instanceMethod yX4_state, .selects RX4 yX4_state yX4_state, .code yX4_state cX4_state 3 (some .int), .methodLink RX4 47 yX4_serves, .instanceMethod yX4_serves, .selects RX4 yX4_serves yX4_serves, .code yX4_serves cX4_serves 3 (some .int), .methodLink RX4 40 yX4_isAddress, .instanceMethod yX4_isAddress, .selects RX4 yX4_isAddress yX4_isAddress, .code yX4_isAddress cX4_isAddress 2 (some .boolean), .methodLink RX4 32 yX4_in, .static yX4_in, .code yX4_in cX4_in 3 (some .boolean)] ++ wsX40)
def wsX4_frees_r1 : List Cond := [Cond.methodLink RX4 50 yX4_isFree, Cond.instanceMethod yX4_isFree, Cond.selects RX4 yX4_isFree yX4_isFree, Cond.initialized RX4, Cond.code yX4_isFree cX4_isFree 2 (some .boolean), Cond.fieldLink RX4 7 "LentSectorsModel" "now" "[I", Cond.methodLink RX4 36 yX4_isSpare, Cond.instanceMethod yX4_isSpare, Cond.selects RX4 yX4_isSpare yX4_isSpare, Cond.code yX4_isSpare cX4_isSpare 2 (some .boolean), Cond.methodLink RX4 43 yX4_state, Cond.instanceMethod yX4_state, Cond.selects RX4 yX4_state yX4_state, Cond.code yX4_state cX4_state 3 (some .int), Cond.methodLink RX4 47 yX4_serves, Cond.instanceMethod yX4_serves, Cond.selects RX4 yX4_serves yX4_serves, Cond.code yX4_serves cX4_serves 3 (some .int), Cond.methodLink RX4 40 yX4_isAddress, Cond.instanceMethod yX4_isAddress, Cond.selects RX4 yX4_isAddress yX4_isAddress, Cond.code yX4_isAddress cX4_isAddress 2 (some .boolean), Cond.methodLink RX4 32 yX4_in, Cond.static yX4_in]
def wsX4_frees_r2 : List Cond := [Cond.code yX4_in cX4_in 3 (some .boolean)]
def wsX4_frees : List Cond := .code yX4_frees cX4_frees 4 (some .int) :: ((wsX4_frees_r1 ++ wsX4_frees_r2) ++ wsX40)
def wsX4_firstFree_r1 : List Cond := [Cond.methodLink RX4 50 yX4_isFree, Cond.instanceMethod yX4_isFree, Cond.selects RX4 yX4_isFree yX4_isFree, Cond.initialized RX4, Cond.code yX4_isFree cX4_isFree 2 (some .boolean), Cond.fieldLink RX4 7 "LentSectorsModel" "now" "[I", Cond.methodLink RX4 36 yX4_isSpare, Cond.instanceMethod yX4_isSpare, Cond.selects RX4 yX4_isSpare yX4_isSpare, Cond.code yX4_isSpare cX4_isSpare 2 (some .boolean), Cond.methodLink RX4 43 yX4_state, Cond.instanceMethod yX4_state, Cond.selects RX4 yX4_state yX4_state, Cond.code yX4_state cX4_state 3 (some .int), Cond.methodLink RX4 47 yX4_serves, Cond.instanceMethod yX4_serves, Cond.selects RX4 yX4_serves yX4_serves, Cond.code yX4_serves cX4_serves 3 (some .int), Cond.methodLink RX4 40 yX4_isAddress, Cond.instanceMethod yX4_isAddress, Cond.selects RX4 yX4_isAddress yX4_isAddress, Cond.code yX4_isAddress cX4_isAddress 2 (some .boolean), Cond.methodLink RX4 32 yX4_in, Cond.static yX4_in]
def wsX4_firstFree_r2 : List Cond := [Cond.code yX4_in cX4_in 3 (some .boolean)]
def wsX4_firstFree : List Cond := .code yX4_firstFree cX4_firstFree 3 (some .int) :: ((wsX4_firstFree_r1 ++ wsX4_firstFree_r2) ++ wsX40)
def wsX4_lends_r1 : List Cond := [Cond.methodLink RX4 53 yX4_firstFree, Cond.instanceMethod yX4_firstFree, Cond.selects RX4 yX4_firstFree yX4_firstFree, Cond.initialized RX4, Cond.code yX4_firstFree cX4_firstFree 3 (some .int), Cond.methodLink RX4 50 yX4_isFree, Cond.instanceMethod yX4_isFree, Cond.selects RX4 yX4_isFree yX4_isFree, Cond.code yX4_isFree cX4_isFree 2 (some .boolean), Cond.fieldLink RX4 7 "LentSectorsModel" "now" "[I", Cond.methodLink RX4 36 yX4_isSpare, Cond.instanceMethod yX4_isSpare, Cond.selects RX4 yX4_isSpare yX4_isSpare, Cond.code yX4_isSpare cX4_isSpare 2 (some .boolean), Cond.methodLink RX4 43 yX4_state, Cond.instanceMethod yX4_state, Cond.selects RX4 yX4_state yX4_state, Cond.code yX4_state cX4_state 3 (some .int), Cond.methodLink RX4 47 yX4_serves, Cond.instanceMethod yX4_serves, Cond.selects RX4 yX4_serves yX4_serves, Cond.code yX4_serves cX4_serves 3 (some .int), Cond.methodLink RX4 40 yX4_isAddress, Cond.instanceMethod yX4_isAddress]
def wsX4_lends_r2 : List Cond := [Cond.selects RX4 yX4_isAddress yX4_isAddress, Cond.code yX4_isAddress cX4_isAddress 2 (some .boolean), Cond.methodLink RX4 32 yX4_in, Cond.static yX4_in, Cond.code yX4_in cX4_in 3 (some .boolean), Cond.methodLink RX4 56 yX4_frees, Cond.instanceMethod yX4_frees, Cond.selects RX4 yX4_frees yX4_frees, Cond.code yX4_frees cX4_frees 4 (some .int)]
def wsX4_lends : List Cond := .code yX4_lends cX4_lends 5 (some .int) :: ((wsX4_lends_r1 ++ wsX4_lends_r2) ++ wsX40)
def wsX4_wears : List Cond := .code yX4_wears cX4_wears 4 none :: ([.fieldLink RX4 7 "LentSectorsModel" "now" "[I", .constant RX4 59 (99999)] ++ wsX40)
def wsX4_apart : List Cond := .code yX4_apart cX4_apart 4 (some .int) :: ([])
def wsX4_goes : List Cond := .code yX4_goes cX4_goes 2 none :: ([.fieldLink RX4 7 "LentSectorsModel" "now" "[I", .methodLink RX4 60 yX4_apart, .static yX4_apart, .initialized RX4, .code yX4_apart cX4_apart 4 (some .int)] ++ wsX40)
def wsX4_goesTo : List Cond := .code yX4_goesTo cX4_goesTo 2 none :: ([.fieldLink RX4 7 "LentSectorsModel" "now" "[I", .methodLink RX4 64 yX4_goes, .instanceMethod yX4_goes, .selects RX4 yX4_goes yX4_goes, .initialized RX4, .code yX4_goes cX4_goes 2 none, .methodLink RX4 60 yX4_apart, .static yX4_apart, .code yX4_apart cX4_apart 4 (some .int)] ++ wsX40)
def wsX4_steps : List Cond := .code yX4_steps cX4_steps 5 (some .int) :: ([.fieldLink RX4 7 "LentSectorsModel" "now" "[I", .methodLink RX4 60 yX4_apart, .static yX4_apart, .initialized RX4, .code yX4_apart cX4_apart 4 (some .int)] ++ wsX40)
def wsX4_looks_r1 : List Cond := [Cond.fieldLink RX4 7 "LentSectorsModel" "now" "[I", Cond.methodLink RX4 43 yX4_state, Cond.instanceMethod yX4_state, Cond.selects RX4 yX4_state yX4_state, Cond.initialized RX4, Cond.code yX4_state cX4_state 3 (some .int), Cond.methodLink RX4 68 yX4_lends, Cond.instanceMethod yX4_lends, Cond.selects RX4 yX4_lends yX4_lends, Cond.code yX4_lends cX4_lends 5 (some .int), Cond.methodLink RX4 53 yX4_firstFree, Cond.instanceMethod yX4_firstFree, Cond.selects RX4 yX4_firstFree yX4_firstFree, Cond.code yX4_firstFree cX4_firstFree 3 (some .int), Cond.methodLink RX4 50 yX4_isFree, Cond.instanceMethod yX4_isFree, Cond.selects RX4 yX4_isFree yX4_isFree, Cond.code yX4_isFree cX4_isFree 2 (some .boolean), Cond.methodLink RX4 36 yX4_isSpare, Cond.instanceMethod yX4_isSpare, Cond.selects RX4 yX4_isSpare yX4_isSpare, Cond.code yX4_isSpare cX4_isSpare 2 (some .boolean), Cond.methodLink RX4 47 yX4_serves, Cond.instanceMethod yX4_serves]
def wsX4_looks_r2 : List Cond := [Cond.selects RX4 yX4_serves yX4_serves, Cond.code yX4_serves cX4_serves 3 (some .int), Cond.methodLink RX4 40 yX4_isAddress, Cond.instanceMethod yX4_isAddress, Cond.selects RX4 yX4_isAddress yX4_isAddress, Cond.code yX4_isAddress cX4_isAddress 2 (some .boolean), Cond.methodLink RX4 32 yX4_in, Cond.static yX4_in, Cond.code yX4_in cX4_in 3 (some .boolean), Cond.methodLink RX4 56 yX4_frees, Cond.instanceMethod yX4_frees, Cond.selects RX4 yX4_frees yX4_frees, Cond.code yX4_frees cX4_frees 4 (some .int), Cond.methodLink RX4 64 yX4_goes, Cond.instanceMethod yX4_goes, Cond.selects RX4 yX4_goes yX4_goes, Cond.code yX4_goes cX4_goes 2 none, Cond.methodLink RX4 60 yX4_apart, Cond.static yX4_apart, Cond.code yX4_apart cX4_apart 4 (some .int), Cond.methodLink RX4 71 yX4_wears, Cond.instanceMethod yX4_wears, Cond.selects RX4 yX4_wears yX4_wears, Cond.code yX4_wears cX4_wears 4 none]
def wsX4_looks_r3 : List Cond := [Cond.constant RX4 59 (99999)]
def wsX4_looks : List Cond := .code yX4_looks cX4_looks 4 none :: ((wsX4_looks_r1 ++ (wsX4_looks_r2 ++ wsX4_looks_r3)) ++ wsX40)
def wsX4_reads_r1 : List Cond := [Cond.fieldLink RX4 7 "LentSectorsModel" "now" "[I", Cond.methodLink RX4 40 yX4_isAddress, Cond.instanceMethod yX4_isAddress, Cond.selects RX4 yX4_isAddress yX4_isAddress, Cond.initialized RX4, Cond.code yX4_isAddress cX4_isAddress 2 (some .boolean), Cond.methodLink RX4 32 yX4_in, Cond.static yX4_in, Cond.code yX4_in cX4_in 3 (some .boolean), Cond.methodLink RX4 36 yX4_isSpare, Cond.instanceMethod yX4_isSpare, Cond.selects RX4 yX4_isSpare yX4_isSpare, Cond.code yX4_isSpare cX4_isSpare 2 (some .boolean), Cond.methodLink RX4 75 yX4_isLost, Cond.instanceMethod yX4_isLost, Cond.selects RX4 yX4_isLost yX4_isLost, Cond.code yX4_isLost cX4_isLost 2 (some .boolean), Cond.methodLink RX4 78 yX4_goesTo, Cond.instanceMethod yX4_goesTo, Cond.selects RX4 yX4_goesTo yX4_goesTo, Cond.code yX4_goesTo cX4_goesTo 2 none, Cond.methodLink RX4 64 yX4_goes, Cond.instanceMethod yX4_goes, Cond.selects RX4 yX4_goes yX4_goes]
def wsX4_reads_r2 : List Cond := [Cond.code yX4_goes cX4_goes 2 none, Cond.methodLink RX4 60 yX4_apart, Cond.static yX4_apart, Cond.code yX4_apart cX4_apart 4 (some .int), Cond.methodLink RX4 71 yX4_wears, Cond.instanceMethod yX4_wears, Cond.selects RX4 yX4_wears yX4_wears, Cond.code yX4_wears cX4_wears 4 none, Cond.constant RX4 59 (99999), Cond.methodLink RX4 81 yX4_looks, Cond.instanceMethod yX4_looks, Cond.selects RX4 yX4_looks yX4_looks, Cond.code yX4_looks cX4_looks 4 none, Cond.methodLink RX4 43 yX4_state, Cond.instanceMethod yX4_state, Cond.selects RX4 yX4_state yX4_state, Cond.code yX4_state cX4_state 3 (some .int), Cond.methodLink RX4 68 yX4_lends, Cond.instanceMethod yX4_lends, Cond.selects RX4 yX4_lends yX4_lends, Cond.code yX4_lends cX4_lends 5 (some .int), Cond.methodLink RX4 53 yX4_firstFree, Cond.instanceMethod yX4_firstFree, Cond.selects RX4 yX4_firstFree yX4_firstFree]
def wsX4_reads_r3 : List Cond := [Cond.code yX4_firstFree cX4_firstFree 3 (some .int), Cond.methodLink RX4 50 yX4_isFree, Cond.instanceMethod yX4_isFree, Cond.selects RX4 yX4_isFree yX4_isFree, Cond.code yX4_isFree cX4_isFree 2 (some .boolean), Cond.methodLink RX4 47 yX4_serves, Cond.instanceMethod yX4_serves, Cond.selects RX4 yX4_serves yX4_serves, Cond.code yX4_serves cX4_serves 3 (some .int), Cond.methodLink RX4 56 yX4_frees, Cond.instanceMethod yX4_frees, Cond.selects RX4 yX4_frees yX4_frees, Cond.code yX4_frees cX4_frees 4 (some .int)]
def wsX4_reads : List Cond := .code yX4_reads cX4_reads 3 (some .int) :: ((wsX4_reads_r1 ++ (wsX4_reads_r2 ++ wsX4_reads_r3)) ++ wsX40)
def wsX4_writes_r1 : List Cond := [Cond.fieldLink RX4 7 "LentSectorsModel" "now" "[I", Cond.methodLink RX4 40 yX4_isAddress, Cond.instanceMethod yX4_isAddress, Cond.selects RX4 yX4_isAddress yX4_isAddress, Cond.initialized RX4, Cond.code yX4_isAddress cX4_isAddress 2 (some .boolean), Cond.methodLink RX4 32 yX4_in, Cond.static yX4_in, Cond.code yX4_in cX4_in 3 (some .boolean), Cond.methodLink RX4 36 yX4_isSpare, Cond.instanceMethod yX4_isSpare, Cond.selects RX4 yX4_isSpare yX4_isSpare, Cond.code yX4_isSpare cX4_isSpare 2 (some .boolean), Cond.methodLink RX4 75 yX4_isLost, Cond.instanceMethod yX4_isLost, Cond.selects RX4 yX4_isLost yX4_isLost, Cond.code yX4_isLost cX4_isLost 2 (some .boolean), Cond.methodLink RX4 68 yX4_lends, Cond.instanceMethod yX4_lends, Cond.selects RX4 yX4_lends yX4_lends, Cond.code yX4_lends cX4_lends 5 (some .int), Cond.methodLink RX4 53 yX4_firstFree, Cond.instanceMethod yX4_firstFree, Cond.selects RX4 yX4_firstFree yX4_firstFree]
def wsX4_writes_r2 : List Cond := [Cond.code yX4_firstFree cX4_firstFree 3 (some .int), Cond.methodLink RX4 50 yX4_isFree, Cond.instanceMethod yX4_isFree, Cond.selects RX4 yX4_isFree yX4_isFree, Cond.code yX4_isFree cX4_isFree 2 (some .boolean), Cond.methodLink RX4 43 yX4_state, Cond.instanceMethod yX4_state, Cond.selects RX4 yX4_state yX4_state, Cond.code yX4_state cX4_state 3 (some .int), Cond.methodLink RX4 47 yX4_serves, Cond.instanceMethod yX4_serves, Cond.selects RX4 yX4_serves yX4_serves, Cond.code yX4_serves cX4_serves 3 (some .int), Cond.methodLink RX4 56 yX4_frees, Cond.instanceMethod yX4_frees, Cond.selects RX4 yX4_frees yX4_frees, Cond.code yX4_frees cX4_frees 4 (some .int), Cond.methodLink RX4 78 yX4_goesTo, Cond.instanceMethod yX4_goesTo, Cond.selects RX4 yX4_goesTo yX4_goesTo, Cond.code yX4_goesTo cX4_goesTo 2 none, Cond.methodLink RX4 64 yX4_goes, Cond.instanceMethod yX4_goes, Cond.selects RX4 yX4_goes yX4_goes]
def wsX4_writes_r3 : List Cond := [Cond.code yX4_goes cX4_goes 2 none, Cond.methodLink RX4 60 yX4_apart, Cond.static yX4_apart, Cond.code yX4_apart cX4_apart 4 (some .int), Cond.methodLink RX4 71 yX4_wears, Cond.instanceMethod yX4_wears, Cond.selects RX4 yX4_wears yX4_wears, Cond.code yX4_wears cX4_wears 4 none, Cond.constant RX4 59 (99999), Cond.methodLink RX4 81 yX4_looks, Cond.instanceMethod yX4_looks, Cond.selects RX4 yX4_looks yX4_looks, Cond.code yX4_looks cX4_looks 4 none]
def wsX4_writes : List Cond := .code yX4_writes cX4_writes 4 (some .int) :: ((wsX4_writes_r1 ++ (wsX4_writes_r2 ++ wsX4_writes_r3)) ++ wsX40)
def wsX4_setLimit : List Cond := .code yX4_setLimit cX4_setLimit 3 (some .int) :: ([.fieldLink RX4 7 "LentSectorsModel" "now" "[I", .methodLink RX4 32 yX4_in, .static yX4_in, .initialized RX4, .code yX4_in cX4_in 3 (some .boolean), .methodLink RX4 84 yX4_record, .instanceMethod yX4_record, .selects RX4 yX4_record yX4_record, .code yX4_record cX4_record 3 none, .fieldLink RX4 28 "LentSectorsModel" "kept" "I", .fieldLink RX4 22 "LentSectorsModel" "history" "[I"] ++ wsX40)
def wsX4_wear : List Cond := .code yX4_wear cX4_wear 4 (some .int) :: ([.fieldLink RX4 7 "LentSectorsModel" "now" "[I"] ++ wsX40)
def wsX4_setHead : List Cond := .code yX4_setHead cX4_setHead 6 (some .int) :: ([.fieldLink RX4 7 "LentSectorsModel" "now" "[I", .methodLink RX4 88 yX4_isHead, .static yX4_isHead, .initialized RX4, .code yX4_isHead cX4_isHead 1 (some .boolean), .methodLink RX4 32 yX4_in, .static yX4_in, .code yX4_in cX4_in 3 (some .boolean), .methodLink RX4 91 yX4_wear, .instanceMethod yX4_wear, .selects RX4 yX4_wear yX4_wear, .code yX4_wear cX4_wear 4 (some .int), .methodLink RX4 84 yX4_record, .instanceMethod yX4_record, .selects RX4 yX4_record yX4_record, .code yX4_record cX4_record 3 none, .fieldLink RX4 28 "LentSectorsModel" "kept" "I", .fieldLink RX4 22 "LentSectorsModel" "history" "[I"] ++ wsX40)
def wsX4_read_r1 : List Cond := [Cond.fieldLink RX4 7 "LentSectorsModel" "now" "[I", Cond.fieldLink RX4 13 "LentSectorsModel" "spare" "[I", Cond.methodLink RX4 94 yX4_copies, Cond.static yX4_copies, Cond.initialized RX4, Cond.code yX4_copies cX4_copies 3 none, Cond.methodLink RX4 98 yX4_reads, Cond.instanceMethod yX4_reads, Cond.selects RX4 yX4_reads yX4_reads, Cond.code yX4_reads cX4_reads 3 (some .int), Cond.methodLink RX4 40 yX4_isAddress, Cond.instanceMethod yX4_isAddress, Cond.selects RX4 yX4_isAddress yX4_isAddress, Cond.code yX4_isAddress cX4_isAddress 2 (some .boolean), Cond.methodLink RX4 32 yX4_in, Cond.static yX4_in, Cond.code yX4_in cX4_in 3 (some .boolean), Cond.methodLink RX4 36 yX4_isSpare, Cond.instanceMethod yX4_isSpare, Cond.selects RX4 yX4_isSpare yX4_isSpare, Cond.code yX4_isSpare cX4_isSpare 2 (some .boolean), Cond.methodLink RX4 75 yX4_isLost, Cond.instanceMethod yX4_isLost, Cond.selects RX4 yX4_isLost yX4_isLost]
def wsX4_read_r2 : List Cond := [Cond.code yX4_isLost cX4_isLost 2 (some .boolean), Cond.methodLink RX4 78 yX4_goesTo, Cond.instanceMethod yX4_goesTo, Cond.selects RX4 yX4_goesTo yX4_goesTo, Cond.code yX4_goesTo cX4_goesTo 2 none, Cond.methodLink RX4 64 yX4_goes, Cond.instanceMethod yX4_goes, Cond.selects RX4 yX4_goes yX4_goes, Cond.code yX4_goes cX4_goes 2 none, Cond.methodLink RX4 60 yX4_apart, Cond.static yX4_apart, Cond.code yX4_apart cX4_apart 4 (some .int), Cond.methodLink RX4 71 yX4_wears, Cond.instanceMethod yX4_wears, Cond.selects RX4 yX4_wears yX4_wears, Cond.code yX4_wears cX4_wears 4 none, Cond.constant RX4 59 (99999), Cond.methodLink RX4 81 yX4_looks, Cond.instanceMethod yX4_looks, Cond.selects RX4 yX4_looks yX4_looks, Cond.code yX4_looks cX4_looks 4 none, Cond.methodLink RX4 43 yX4_state, Cond.instanceMethod yX4_state, Cond.selects RX4 yX4_state yX4_state]
def wsX4_read_r3 : List Cond := [Cond.code yX4_state cX4_state 3 (some .int), Cond.methodLink RX4 68 yX4_lends, Cond.instanceMethod yX4_lends, Cond.selects RX4 yX4_lends yX4_lends, Cond.code yX4_lends cX4_lends 5 (some .int), Cond.methodLink RX4 53 yX4_firstFree, Cond.instanceMethod yX4_firstFree, Cond.selects RX4 yX4_firstFree yX4_firstFree, Cond.code yX4_firstFree cX4_firstFree 3 (some .int), Cond.methodLink RX4 50 yX4_isFree, Cond.instanceMethod yX4_isFree, Cond.selects RX4 yX4_isFree yX4_isFree, Cond.code yX4_isFree cX4_isFree 2 (some .boolean), Cond.methodLink RX4 47 yX4_serves, Cond.instanceMethod yX4_serves, Cond.selects RX4 yX4_serves yX4_serves, Cond.code yX4_serves cX4_serves 3 (some .int), Cond.methodLink RX4 56 yX4_frees, Cond.instanceMethod yX4_frees, Cond.selects RX4 yX4_frees yX4_frees, Cond.code yX4_frees cX4_frees 4 (some .int), Cond.methodLink RX4 84 yX4_record, Cond.instanceMethod yX4_record, Cond.selects RX4 yX4_record yX4_record]
def wsX4_read_r4 : List Cond := [Cond.code yX4_record cX4_record 3 none, Cond.fieldLink RX4 28 "LentSectorsModel" "kept" "I", Cond.fieldLink RX4 22 "LentSectorsModel" "history" "[I"]
def wsX4_read : List Cond := .code yX4_read cX4_read 3 (some .int) :: ((wsX4_read_r1 ++ (wsX4_read_r2 ++ (wsX4_read_r3 ++ wsX4_read_r4))) ++ wsX40)
def wsX4_write_r1 : List Cond := [Cond.fieldLink RX4 7 "LentSectorsModel" "now" "[I", Cond.fieldLink RX4 13 "LentSectorsModel" "spare" "[I", Cond.methodLink RX4 94 yX4_copies, Cond.static yX4_copies, Cond.initialized RX4, Cond.code yX4_copies cX4_copies 3 none, Cond.methodLink RX4 101 yX4_writes, Cond.instanceMethod yX4_writes, Cond.selects RX4 yX4_writes yX4_writes, Cond.code yX4_writes cX4_writes 4 (some .int), Cond.methodLink RX4 40 yX4_isAddress, Cond.instanceMethod yX4_isAddress, Cond.selects RX4 yX4_isAddress yX4_isAddress, Cond.code yX4_isAddress cX4_isAddress 2 (some .boolean), Cond.methodLink RX4 32 yX4_in, Cond.static yX4_in, Cond.code yX4_in cX4_in 3 (some .boolean), Cond.methodLink RX4 36 yX4_isSpare, Cond.instanceMethod yX4_isSpare, Cond.selects RX4 yX4_isSpare yX4_isSpare, Cond.code yX4_isSpare cX4_isSpare 2 (some .boolean), Cond.methodLink RX4 75 yX4_isLost, Cond.instanceMethod yX4_isLost, Cond.selects RX4 yX4_isLost yX4_isLost]
def wsX4_write_r2 : List Cond := [Cond.code yX4_isLost cX4_isLost 2 (some .boolean), Cond.methodLink RX4 68 yX4_lends, Cond.instanceMethod yX4_lends, Cond.selects RX4 yX4_lends yX4_lends, Cond.code yX4_lends cX4_lends 5 (some .int), Cond.methodLink RX4 53 yX4_firstFree, Cond.instanceMethod yX4_firstFree, Cond.selects RX4 yX4_firstFree yX4_firstFree, Cond.code yX4_firstFree cX4_firstFree 3 (some .int), Cond.methodLink RX4 50 yX4_isFree, Cond.instanceMethod yX4_isFree, Cond.selects RX4 yX4_isFree yX4_isFree, Cond.code yX4_isFree cX4_isFree 2 (some .boolean), Cond.methodLink RX4 43 yX4_state, Cond.instanceMethod yX4_state, Cond.selects RX4 yX4_state yX4_state, Cond.code yX4_state cX4_state 3 (some .int), Cond.methodLink RX4 47 yX4_serves, Cond.instanceMethod yX4_serves, Cond.selects RX4 yX4_serves yX4_serves, Cond.code yX4_serves cX4_serves 3 (some .int), Cond.methodLink RX4 56 yX4_frees, Cond.instanceMethod yX4_frees, Cond.selects RX4 yX4_frees yX4_frees]
def wsX4_write_r3 : List Cond := [Cond.code yX4_frees cX4_frees 4 (some .int), Cond.methodLink RX4 78 yX4_goesTo, Cond.instanceMethod yX4_goesTo, Cond.selects RX4 yX4_goesTo yX4_goesTo, Cond.code yX4_goesTo cX4_goesTo 2 none, Cond.methodLink RX4 64 yX4_goes, Cond.instanceMethod yX4_goes, Cond.selects RX4 yX4_goes yX4_goes, Cond.code yX4_goes cX4_goes 2 none, Cond.methodLink RX4 60 yX4_apart, Cond.static yX4_apart, Cond.code yX4_apart cX4_apart 4 (some .int), Cond.methodLink RX4 71 yX4_wears, Cond.instanceMethod yX4_wears, Cond.selects RX4 yX4_wears yX4_wears, Cond.code yX4_wears cX4_wears 4 none, Cond.constant RX4 59 (99999), Cond.methodLink RX4 81 yX4_looks, Cond.instanceMethod yX4_looks, Cond.selects RX4 yX4_looks yX4_looks, Cond.code yX4_looks cX4_looks 4 none, Cond.methodLink RX4 84 yX4_record, Cond.instanceMethod yX4_record, Cond.selects RX4 yX4_record yX4_record]
def wsX4_write_r4 : List Cond := [Cond.code yX4_record cX4_record 3 none, Cond.fieldLink RX4 28 "LentSectorsModel" "kept" "I", Cond.fieldLink RX4 22 "LentSectorsModel" "history" "[I"]
def wsX4_write : List Cond := .code yX4_write cX4_write 4 (some .int) :: ((wsX4_write_r1 ++ (wsX4_write_r2 ++ (wsX4_write_r3 ++ wsX4_write_r4))) ++ wsX40)
def wsX4_copiesOne_r1 : List Cond := [Cond.fieldLink RX4 7 "LentSectorsModel" "now" "[I", Cond.fieldLink RX4 16 "LentSectorsModel" "pair" "[I", Cond.methodLink RX4 94 yX4_copies, Cond.static yX4_copies, Cond.initialized RX4, Cond.code yX4_copies cX4_copies 3 none, Cond.methodLink RX4 98 yX4_reads, Cond.instanceMethod yX4_reads, Cond.selects RX4 yX4_reads yX4_reads, Cond.code yX4_reads cX4_reads 3 (some .int), Cond.methodLink RX4 40 yX4_isAddress, Cond.instanceMethod yX4_isAddress, Cond.selects RX4 yX4_isAddress yX4_isAddress, Cond.code yX4_isAddress cX4_isAddress 2 (some .boolean), Cond.methodLink RX4 32 yX4_in, Cond.static yX4_in, Cond.code yX4_in cX4_in 3 (some .boolean), Cond.methodLink RX4 36 yX4_isSpare, Cond.instanceMethod yX4_isSpare, Cond.selects RX4 yX4_isSpare yX4_isSpare, Cond.code yX4_isSpare cX4_isSpare 2 (some .boolean), Cond.methodLink RX4 75 yX4_isLost, Cond.instanceMethod yX4_isLost, Cond.selects RX4 yX4_isLost yX4_isLost]
def wsX4_copiesOne_r2 : List Cond := [Cond.code yX4_isLost cX4_isLost 2 (some .boolean), Cond.methodLink RX4 78 yX4_goesTo, Cond.instanceMethod yX4_goesTo, Cond.selects RX4 yX4_goesTo yX4_goesTo, Cond.code yX4_goesTo cX4_goesTo 2 none, Cond.methodLink RX4 64 yX4_goes, Cond.instanceMethod yX4_goes, Cond.selects RX4 yX4_goes yX4_goes, Cond.code yX4_goes cX4_goes 2 none, Cond.methodLink RX4 60 yX4_apart, Cond.static yX4_apart, Cond.code yX4_apart cX4_apart 4 (some .int), Cond.methodLink RX4 71 yX4_wears, Cond.instanceMethod yX4_wears, Cond.selects RX4 yX4_wears yX4_wears, Cond.code yX4_wears cX4_wears 4 none, Cond.constant RX4 59 (99999), Cond.methodLink RX4 81 yX4_looks, Cond.instanceMethod yX4_looks, Cond.selects RX4 yX4_looks yX4_looks, Cond.code yX4_looks cX4_looks 4 none, Cond.methodLink RX4 43 yX4_state, Cond.instanceMethod yX4_state, Cond.selects RX4 yX4_state yX4_state]
def wsX4_copiesOne_r3 : List Cond := [Cond.code yX4_state cX4_state 3 (some .int), Cond.methodLink RX4 68 yX4_lends, Cond.instanceMethod yX4_lends, Cond.selects RX4 yX4_lends yX4_lends, Cond.code yX4_lends cX4_lends 5 (some .int), Cond.methodLink RX4 53 yX4_firstFree, Cond.instanceMethod yX4_firstFree, Cond.selects RX4 yX4_firstFree yX4_firstFree, Cond.code yX4_firstFree cX4_firstFree 3 (some .int), Cond.methodLink RX4 50 yX4_isFree, Cond.instanceMethod yX4_isFree, Cond.selects RX4 yX4_isFree yX4_isFree, Cond.code yX4_isFree cX4_isFree 2 (some .boolean), Cond.methodLink RX4 47 yX4_serves, Cond.instanceMethod yX4_serves, Cond.selects RX4 yX4_serves yX4_serves, Cond.code yX4_serves cX4_serves 3 (some .int), Cond.methodLink RX4 56 yX4_frees, Cond.instanceMethod yX4_frees, Cond.selects RX4 yX4_frees yX4_frees, Cond.code yX4_frees cX4_frees 4 (some .int), Cond.methodLink RX4 101 yX4_writes, Cond.instanceMethod yX4_writes, Cond.selects RX4 yX4_writes yX4_writes]
def wsX4_copiesOne_r4 : List Cond := [Cond.code yX4_writes cX4_writes 4 (some .int)]
def wsX4_copiesOne : List Cond := .code yX4_copiesOne cX4_copiesOne 4 (some .boolean) :: ((wsX4_copiesOne_r1 ++ (wsX4_copiesOne_r2 ++ (wsX4_copiesOne_r3 ++ wsX4_copiesOne_r4))) ++ wsX40)
def wsX4_copy_r1 : List Cond := [Cond.fieldLink RX4 7 "LentSectorsModel" "now" "[I", Cond.fieldLink RX4 13 "LentSectorsModel" "spare" "[I", Cond.methodLink RX4 40 yX4_isAddress, Cond.instanceMethod yX4_isAddress, Cond.selects RX4 yX4_isAddress yX4_isAddress, Cond.initialized RX4, Cond.code yX4_isAddress cX4_isAddress 2 (some .boolean), Cond.methodLink RX4 32 yX4_in, Cond.static yX4_in, Cond.code yX4_in cX4_in 3 (some .boolean), Cond.methodLink RX4 36 yX4_isSpare, Cond.instanceMethod yX4_isSpare, Cond.selects RX4 yX4_isSpare yX4_isSpare, Cond.code yX4_isSpare cX4_isSpare 2 (some .boolean), Cond.methodLink RX4 94 yX4_copies, Cond.static yX4_copies, Cond.code yX4_copies cX4_copies 3 none, Cond.methodLink RX4 105 yX4_copiesOne, Cond.instanceMethod yX4_copiesOne, Cond.selects RX4 yX4_copiesOne yX4_copiesOne, Cond.code yX4_copiesOne cX4_copiesOne 4 (some .boolean), Cond.fieldLink RX4 16 "LentSectorsModel" "pair" "[I", Cond.methodLink RX4 98 yX4_reads, Cond.instanceMethod yX4_reads]
def wsX4_copy_r2 : List Cond := [Cond.selects RX4 yX4_reads yX4_reads, Cond.code yX4_reads cX4_reads 3 (some .int), Cond.methodLink RX4 75 yX4_isLost, Cond.instanceMethod yX4_isLost, Cond.selects RX4 yX4_isLost yX4_isLost, Cond.code yX4_isLost cX4_isLost 2 (some .boolean), Cond.methodLink RX4 78 yX4_goesTo, Cond.instanceMethod yX4_goesTo, Cond.selects RX4 yX4_goesTo yX4_goesTo, Cond.code yX4_goesTo cX4_goesTo 2 none, Cond.methodLink RX4 64 yX4_goes, Cond.instanceMethod yX4_goes, Cond.selects RX4 yX4_goes yX4_goes, Cond.code yX4_goes cX4_goes 2 none, Cond.methodLink RX4 60 yX4_apart, Cond.static yX4_apart, Cond.code yX4_apart cX4_apart 4 (some .int), Cond.methodLink RX4 71 yX4_wears, Cond.instanceMethod yX4_wears, Cond.selects RX4 yX4_wears yX4_wears, Cond.code yX4_wears cX4_wears 4 none, Cond.constant RX4 59 (99999), Cond.methodLink RX4 81 yX4_looks, Cond.instanceMethod yX4_looks]
def wsX4_copy_r3 : List Cond := [Cond.selects RX4 yX4_looks yX4_looks, Cond.code yX4_looks cX4_looks 4 none, Cond.methodLink RX4 43 yX4_state, Cond.instanceMethod yX4_state, Cond.selects RX4 yX4_state yX4_state, Cond.code yX4_state cX4_state 3 (some .int), Cond.methodLink RX4 68 yX4_lends, Cond.instanceMethod yX4_lends, Cond.selects RX4 yX4_lends yX4_lends, Cond.code yX4_lends cX4_lends 5 (some .int), Cond.methodLink RX4 53 yX4_firstFree, Cond.instanceMethod yX4_firstFree, Cond.selects RX4 yX4_firstFree yX4_firstFree, Cond.code yX4_firstFree cX4_firstFree 3 (some .int), Cond.methodLink RX4 50 yX4_isFree, Cond.instanceMethod yX4_isFree, Cond.selects RX4 yX4_isFree yX4_isFree, Cond.code yX4_isFree cX4_isFree 2 (some .boolean), Cond.methodLink RX4 47 yX4_serves, Cond.instanceMethod yX4_serves, Cond.selects RX4 yX4_serves yX4_serves, Cond.code yX4_serves cX4_serves 3 (some .int), Cond.methodLink RX4 56 yX4_frees, Cond.instanceMethod yX4_frees]
def wsX4_copy_r4 : List Cond := [Cond.selects RX4 yX4_frees yX4_frees, Cond.code yX4_frees cX4_frees 4 (some .int), Cond.methodLink RX4 101 yX4_writes, Cond.instanceMethod yX4_writes, Cond.selects RX4 yX4_writes yX4_writes, Cond.code yX4_writes cX4_writes 4 (some .int), Cond.methodLink RX4 84 yX4_record, Cond.instanceMethod yX4_record, Cond.selects RX4 yX4_record yX4_record, Cond.code yX4_record cX4_record 3 none, Cond.fieldLink RX4 28 "LentSectorsModel" "kept" "I", Cond.fieldLink RX4 22 "LentSectorsModel" "history" "[I"]
def wsX4_copy : List Cond := .code yX4_copy cX4_copy 5 (some .int) :: ((wsX4_copy_r1 ++ (wsX4_copy_r2 ++ (wsX4_copy_r3 ++ wsX4_copy_r4))) ++ wsX40)
def wsX4_lost : List Cond := .code yX4_lost cX4_lost 5 (some .int) :: ([.methodLink RX4 40 yX4_isAddress, .instanceMethod yX4_isAddress, .selects RX4 yX4_isAddress yX4_isAddress, .initialized RX4, .code yX4_isAddress cX4_isAddress 2 (some .boolean), .methodLink RX4 32 yX4_in, .static yX4_in, .code yX4_in cX4_in 3 (some .boolean), .methodLink RX4 36 yX4_isSpare, .instanceMethod yX4_isSpare, .selects RX4 yX4_isSpare yX4_isSpare, .code yX4_isSpare cX4_isSpare 2 (some .boolean), .fieldLink RX4 7 "LentSectorsModel" "now" "[I", .methodLink RX4 75 yX4_isLost, .instanceMethod yX4_isLost, .selects RX4 yX4_isLost yX4_isLost, .code yX4_isLost cX4_isLost 2 (some .boolean)] ++ wsX40)
def wsX4_test_r1 : List Cond := [Cond.fieldLink RX4 7 "LentSectorsModel" "now" "[I", Cond.methodLink RX4 88 yX4_isHead, Cond.static yX4_isHead, Cond.initialized RX4, Cond.code yX4_isHead cX4_isHead 1 (some .boolean), Cond.methodLink RX4 32 yX4_in, Cond.static yX4_in, Cond.code yX4_in cX4_in 3 (some .boolean), Cond.methodLink RX4 109 yX4_lost, Cond.instanceMethod yX4_lost, Cond.selects RX4 yX4_lost yX4_lost, Cond.code yX4_lost cX4_lost 5 (some .int), Cond.methodLink RX4 40 yX4_isAddress, Cond.instanceMethod yX4_isAddress, Cond.selects RX4 yX4_isAddress yX4_isAddress, Cond.code yX4_isAddress cX4_isAddress 2 (some .boolean), Cond.methodLink RX4 36 yX4_isSpare, Cond.instanceMethod yX4_isSpare, Cond.selects RX4 yX4_isSpare yX4_isSpare, Cond.code yX4_isSpare cX4_isSpare 2 (some .boolean), Cond.methodLink RX4 75 yX4_isLost, Cond.instanceMethod yX4_isLost, Cond.selects RX4 yX4_isLost yX4_isLost, Cond.code yX4_isLost cX4_isLost 2 (some .boolean)]
def wsX4_test_r2 : List Cond := [Cond.methodLink RX4 84 yX4_record, Cond.instanceMethod yX4_record, Cond.selects RX4 yX4_record yX4_record, Cond.code yX4_record cX4_record 3 none, Cond.fieldLink RX4 28 "LentSectorsModel" "kept" "I", Cond.fieldLink RX4 22 "LentSectorsModel" "history" "[I", Cond.methodLink RX4 98 yX4_reads, Cond.instanceMethod yX4_reads, Cond.selects RX4 yX4_reads yX4_reads, Cond.code yX4_reads cX4_reads 3 (some .int), Cond.methodLink RX4 78 yX4_goesTo, Cond.instanceMethod yX4_goesTo, Cond.selects RX4 yX4_goesTo yX4_goesTo, Cond.code yX4_goesTo cX4_goesTo 2 none, Cond.methodLink RX4 64 yX4_goes, Cond.instanceMethod yX4_goes, Cond.selects RX4 yX4_goes yX4_goes, Cond.code yX4_goes cX4_goes 2 none, Cond.methodLink RX4 60 yX4_apart, Cond.static yX4_apart, Cond.code yX4_apart cX4_apart 4 (some .int), Cond.methodLink RX4 71 yX4_wears, Cond.instanceMethod yX4_wears, Cond.selects RX4 yX4_wears yX4_wears]
def wsX4_test_r3 : List Cond := [Cond.code yX4_wears cX4_wears 4 none, Cond.constant RX4 59 (99999), Cond.methodLink RX4 81 yX4_looks, Cond.instanceMethod yX4_looks, Cond.selects RX4 yX4_looks yX4_looks, Cond.code yX4_looks cX4_looks 4 none, Cond.methodLink RX4 43 yX4_state, Cond.instanceMethod yX4_state, Cond.selects RX4 yX4_state yX4_state, Cond.code yX4_state cX4_state 3 (some .int), Cond.methodLink RX4 68 yX4_lends, Cond.instanceMethod yX4_lends, Cond.selects RX4 yX4_lends yX4_lends, Cond.code yX4_lends cX4_lends 5 (some .int), Cond.methodLink RX4 53 yX4_firstFree, Cond.instanceMethod yX4_firstFree, Cond.selects RX4 yX4_firstFree yX4_firstFree, Cond.code yX4_firstFree cX4_firstFree 3 (some .int), Cond.methodLink RX4 50 yX4_isFree, Cond.instanceMethod yX4_isFree, Cond.selects RX4 yX4_isFree yX4_isFree, Cond.code yX4_isFree cX4_isFree 2 (some .boolean), Cond.methodLink RX4 47 yX4_serves, Cond.instanceMethod yX4_serves]
def wsX4_test_r4 : List Cond := [Cond.selects RX4 yX4_serves yX4_serves, Cond.code yX4_serves cX4_serves 3 (some .int), Cond.methodLink RX4 56 yX4_frees, Cond.instanceMethod yX4_frees, Cond.selects RX4 yX4_frees yX4_frees, Cond.code yX4_frees cX4_frees 4 (some .int)]
def wsX4_test : List Cond := .code yX4_test cX4_test 5 (some .int) :: ((wsX4_test_r1 ++ (wsX4_test_r2 ++ (wsX4_test_r3 ++ wsX4_test_r4))) ++ wsX40)
def wsX4_giveBack_r1 : List Cond := [Cond.fieldLink RX4 7 "LentSectorsModel" "now" "[I", Cond.methodLink RX4 40 yX4_isAddress, Cond.instanceMethod yX4_isAddress, Cond.selects RX4 yX4_isAddress yX4_isAddress, Cond.initialized RX4, Cond.code yX4_isAddress cX4_isAddress 2 (some .boolean), Cond.methodLink RX4 32 yX4_in, Cond.static yX4_in, Cond.code yX4_in cX4_in 3 (some .boolean), Cond.methodLink RX4 36 yX4_isSpare, Cond.instanceMethod yX4_isSpare, Cond.selects RX4 yX4_isSpare yX4_isSpare, Cond.code yX4_isSpare cX4_isSpare 2 (some .boolean), Cond.methodLink RX4 43 yX4_state, Cond.instanceMethod yX4_state, Cond.selects RX4 yX4_state yX4_state, Cond.code yX4_state cX4_state 3 (some .int), Cond.methodLink RX4 84 yX4_record, Cond.instanceMethod yX4_record, Cond.selects RX4 yX4_record yX4_record, Cond.code yX4_record cX4_record 3 none, Cond.fieldLink RX4 28 "LentSectorsModel" "kept" "I", Cond.fieldLink RX4 22 "LentSectorsModel" "history" "[I", Cond.methodLink RX4 78 yX4_goesTo]
def wsX4_giveBack_r2 : List Cond := [Cond.instanceMethod yX4_goesTo, Cond.selects RX4 yX4_goesTo yX4_goesTo, Cond.code yX4_goesTo cX4_goesTo 2 none, Cond.methodLink RX4 64 yX4_goes, Cond.instanceMethod yX4_goes, Cond.selects RX4 yX4_goes yX4_goes, Cond.code yX4_goes cX4_goes 2 none, Cond.methodLink RX4 60 yX4_apart, Cond.static yX4_apart, Cond.code yX4_apart cX4_apart 4 (some .int), Cond.methodLink RX4 71 yX4_wears, Cond.instanceMethod yX4_wears, Cond.selects RX4 yX4_wears yX4_wears, Cond.code yX4_wears cX4_wears 4 none, Cond.constant RX4 59 (99999)]
def wsX4_giveBack : List Cond := .code yX4_giveBack cX4_giveBack 3 (some .int) :: ((wsX4_giveBack_r1 ++ wsX4_giveBack_r2) ++ wsX40)
def wsX4_givesUp_r1 : List Cond := [Cond.fieldLink RX4 7 "LentSectorsModel" "now" "[I", Cond.methodLink RX4 40 yX4_isAddress, Cond.instanceMethod yX4_isAddress, Cond.selects RX4 yX4_isAddress yX4_isAddress, Cond.initialized RX4, Cond.code yX4_isAddress cX4_isAddress 2 (some .boolean), Cond.methodLink RX4 32 yX4_in, Cond.static yX4_in, Cond.code yX4_in cX4_in 3 (some .boolean), Cond.methodLink RX4 36 yX4_isSpare, Cond.instanceMethod yX4_isSpare, Cond.selects RX4 yX4_isSpare yX4_isSpare, Cond.code yX4_isSpare cX4_isSpare 2 (some .boolean), Cond.methodLink RX4 75 yX4_isLost, Cond.instanceMethod yX4_isLost, Cond.selects RX4 yX4_isLost yX4_isLost, Cond.code yX4_isLost cX4_isLost 2 (some .boolean), Cond.methodLink RX4 68 yX4_lends, Cond.instanceMethod yX4_lends, Cond.selects RX4 yX4_lends yX4_lends, Cond.code yX4_lends cX4_lends 5 (some .int), Cond.methodLink RX4 53 yX4_firstFree, Cond.instanceMethod yX4_firstFree, Cond.selects RX4 yX4_firstFree yX4_firstFree]
def wsX4_givesUp_r2 : List Cond := [Cond.code yX4_firstFree cX4_firstFree 3 (some .int), Cond.methodLink RX4 50 yX4_isFree, Cond.instanceMethod yX4_isFree, Cond.selects RX4 yX4_isFree yX4_isFree, Cond.code yX4_isFree cX4_isFree 2 (some .boolean), Cond.methodLink RX4 43 yX4_state, Cond.instanceMethod yX4_state, Cond.selects RX4 yX4_state yX4_state, Cond.code yX4_state cX4_state 3 (some .int), Cond.methodLink RX4 47 yX4_serves, Cond.instanceMethod yX4_serves, Cond.selects RX4 yX4_serves yX4_serves, Cond.code yX4_serves cX4_serves 3 (some .int), Cond.methodLink RX4 56 yX4_frees, Cond.instanceMethod yX4_frees, Cond.selects RX4 yX4_frees yX4_frees, Cond.code yX4_frees cX4_frees 4 (some .int), Cond.methodLink RX4 71 yX4_wears, Cond.instanceMethod yX4_wears, Cond.selects RX4 yX4_wears yX4_wears, Cond.code yX4_wears cX4_wears 4 none, Cond.constant RX4 59 (99999)]
def wsX4_givesUp : List Cond := .code yX4_givesUp cX4_givesUp 5 (some .int) :: ((wsX4_givesUp_r1 ++ wsX4_givesUp_r2) ++ wsX40)
def wsX4_giveUp_r1 : List Cond := [Cond.fieldLink RX4 7 "LentSectorsModel" "now" "[I", Cond.methodLink RX4 88 yX4_isHead, Cond.static yX4_isHead, Cond.initialized RX4, Cond.code yX4_isHead cX4_isHead 1 (some .boolean), Cond.methodLink RX4 32 yX4_in, Cond.static yX4_in, Cond.code yX4_in cX4_in 3 (some .boolean), Cond.methodLink RX4 84 yX4_record, Cond.instanceMethod yX4_record, Cond.selects RX4 yX4_record yX4_record, Cond.code yX4_record cX4_record 3 none, Cond.fieldLink RX4 28 "LentSectorsModel" "kept" "I", Cond.fieldLink RX4 22 "LentSectorsModel" "history" "[I", Cond.methodLink RX4 112 yX4_givesUp, Cond.instanceMethod yX4_givesUp, Cond.selects RX4 yX4_givesUp yX4_givesUp, Cond.code yX4_givesUp cX4_givesUp 5 (some .int), Cond.methodLink RX4 40 yX4_isAddress, Cond.instanceMethod yX4_isAddress, Cond.selects RX4 yX4_isAddress yX4_isAddress, Cond.code yX4_isAddress cX4_isAddress 2 (some .boolean), Cond.methodLink RX4 36 yX4_isSpare, Cond.instanceMethod yX4_isSpare]
def wsX4_giveUp_r2 : List Cond := [Cond.selects RX4 yX4_isSpare yX4_isSpare, Cond.code yX4_isSpare cX4_isSpare 2 (some .boolean), Cond.methodLink RX4 75 yX4_isLost, Cond.instanceMethod yX4_isLost, Cond.selects RX4 yX4_isLost yX4_isLost, Cond.code yX4_isLost cX4_isLost 2 (some .boolean), Cond.methodLink RX4 68 yX4_lends, Cond.instanceMethod yX4_lends, Cond.selects RX4 yX4_lends yX4_lends, Cond.code yX4_lends cX4_lends 5 (some .int), Cond.methodLink RX4 53 yX4_firstFree, Cond.instanceMethod yX4_firstFree, Cond.selects RX4 yX4_firstFree yX4_firstFree, Cond.code yX4_firstFree cX4_firstFree 3 (some .int), Cond.methodLink RX4 50 yX4_isFree, Cond.instanceMethod yX4_isFree, Cond.selects RX4 yX4_isFree yX4_isFree, Cond.code yX4_isFree cX4_isFree 2 (some .boolean), Cond.methodLink RX4 43 yX4_state, Cond.instanceMethod yX4_state, Cond.selects RX4 yX4_state yX4_state, Cond.code yX4_state cX4_state 3 (some .int), Cond.methodLink RX4 47 yX4_serves, Cond.instanceMethod yX4_serves]
def wsX4_giveUp_r3 : List Cond := [Cond.selects RX4 yX4_serves yX4_serves, Cond.code yX4_serves cX4_serves 3 (some .int), Cond.methodLink RX4 56 yX4_frees, Cond.instanceMethod yX4_frees, Cond.selects RX4 yX4_frees yX4_frees, Cond.code yX4_frees cX4_frees 4 (some .int), Cond.methodLink RX4 71 yX4_wears, Cond.instanceMethod yX4_wears, Cond.selects RX4 yX4_wears yX4_wears, Cond.code yX4_wears cX4_wears 4 none, Cond.constant RX4 59 (99999)]
def wsX4_giveUp : List Cond := .code yX4_giveUp cX4_giveUp 3 (some .int) :: ((wsX4_giveUp_r1 ++ (wsX4_giveUp_r2 ++ wsX4_giveUp_r3)) ++ wsX40)
def wsX4_stands : List Cond := .code yX4_stands cX4_stands 3 (some .boolean) :: ([.fieldLink RX4 115 "LentSectorsModel" "at" "I", .fieldLink RX4 118 "LentSectorsModel" "length" "I", .fieldLink RX4 25 "LentSectorsModel" "text" "[I"] ++ wsX40)
def wsX4_number : List Cond := .code yX4_number cX4_number 3 (some .int) :: ([.fieldLink RX4 115 "LentSectorsModel" "at" "I", .fieldLink RX4 118 "LentSectorsModel" "length" "I", .fieldLink RX4 25 "LentSectorsModel" "text" "[I", .methodLink RX4 32 yX4_in, .static yX4_in, .initialized RX4, .code yX4_in cX4_in 3 (some .boolean)] ++ wsX40)
def wsX4_command_r1 : List Cond := [Cond.methodLink RX4 121 yX4_stands, Cond.instanceMethod yX4_stands, Cond.selects RX4 yX4_stands yX4_stands, Cond.initialized RX4, Cond.code yX4_stands cX4_stands 3 (some .boolean), Cond.fieldLink RX4 115 "LentSectorsModel" "at" "I", Cond.fieldLink RX4 118 "LentSectorsModel" "length" "I", Cond.fieldLink RX4 25 "LentSectorsModel" "text" "[I", Cond.methodLink RX4 124 yX4_number, Cond.instanceMethod yX4_number, Cond.selects RX4 yX4_number yX4_number, Cond.code yX4_number cX4_number 3 (some .int), Cond.methodLink RX4 32 yX4_in, Cond.static yX4_in, Cond.code yX4_in cX4_in 3 (some .boolean), Cond.methodLink RX4 98 yX4_reads, Cond.instanceMethod yX4_reads, Cond.selects RX4 yX4_reads yX4_reads, Cond.code yX4_reads cX4_reads 3 (some .int), Cond.fieldLink RX4 7 "LentSectorsModel" "now" "[I", Cond.methodLink RX4 40 yX4_isAddress, Cond.instanceMethod yX4_isAddress, Cond.selects RX4 yX4_isAddress yX4_isAddress, Cond.code yX4_isAddress cX4_isAddress 2 (some .boolean)]
def wsX4_command_r2 : List Cond := [Cond.methodLink RX4 36 yX4_isSpare, Cond.instanceMethod yX4_isSpare, Cond.selects RX4 yX4_isSpare yX4_isSpare, Cond.code yX4_isSpare cX4_isSpare 2 (some .boolean), Cond.methodLink RX4 75 yX4_isLost, Cond.instanceMethod yX4_isLost, Cond.selects RX4 yX4_isLost yX4_isLost, Cond.code yX4_isLost cX4_isLost 2 (some .boolean), Cond.methodLink RX4 78 yX4_goesTo, Cond.instanceMethod yX4_goesTo, Cond.selects RX4 yX4_goesTo yX4_goesTo, Cond.code yX4_goesTo cX4_goesTo 2 none, Cond.methodLink RX4 64 yX4_goes, Cond.instanceMethod yX4_goes, Cond.selects RX4 yX4_goes yX4_goes, Cond.code yX4_goes cX4_goes 2 none, Cond.methodLink RX4 60 yX4_apart, Cond.static yX4_apart, Cond.code yX4_apart cX4_apart 4 (some .int), Cond.methodLink RX4 71 yX4_wears, Cond.instanceMethod yX4_wears, Cond.selects RX4 yX4_wears yX4_wears, Cond.code yX4_wears cX4_wears 4 none, Cond.constant RX4 59 (99999)]
def wsX4_command_r3 : List Cond := [Cond.methodLink RX4 81 yX4_looks, Cond.instanceMethod yX4_looks, Cond.selects RX4 yX4_looks yX4_looks, Cond.code yX4_looks cX4_looks 4 none, Cond.methodLink RX4 43 yX4_state, Cond.instanceMethod yX4_state, Cond.selects RX4 yX4_state yX4_state, Cond.code yX4_state cX4_state 3 (some .int), Cond.methodLink RX4 68 yX4_lends, Cond.instanceMethod yX4_lends, Cond.selects RX4 yX4_lends yX4_lends, Cond.code yX4_lends cX4_lends 5 (some .int), Cond.methodLink RX4 53 yX4_firstFree, Cond.instanceMethod yX4_firstFree, Cond.selects RX4 yX4_firstFree yX4_firstFree, Cond.code yX4_firstFree cX4_firstFree 3 (some .int), Cond.methodLink RX4 50 yX4_isFree, Cond.instanceMethod yX4_isFree, Cond.selects RX4 yX4_isFree yX4_isFree, Cond.code yX4_isFree cX4_isFree 2 (some .boolean), Cond.methodLink RX4 47 yX4_serves, Cond.instanceMethod yX4_serves, Cond.selects RX4 yX4_serves yX4_serves, Cond.code yX4_serves cX4_serves 3 (some .int)]
def wsX4_command_r4 : List Cond := [Cond.methodLink RX4 56 yX4_frees, Cond.instanceMethod yX4_frees, Cond.selects RX4 yX4_frees yX4_frees, Cond.code yX4_frees cX4_frees 4 (some .int), Cond.methodLink RX4 101 yX4_writes, Cond.instanceMethod yX4_writes, Cond.selects RX4 yX4_writes yX4_writes, Cond.code yX4_writes cX4_writes 4 (some .int)]
def wsX4_command : List Cond := .code yX4_command cX4_command 5 (some .int) :: ((wsX4_command_r1 ++ (wsX4_command_r2 ++ (wsX4_command_r3 ++ wsX4_command_r4))) ++ wsX40)
def wsX4_commands_r1 : List Cond := [Cond.fieldLink RX4 115 "LentSectorsModel" "at" "I", Cond.fieldLink RX4 118 "LentSectorsModel" "length" "I", Cond.methodLink RX4 127 yX4_command, Cond.instanceMethod yX4_command, Cond.selects RX4 yX4_command yX4_command, Cond.initialized RX4, Cond.code yX4_command cX4_command 5 (some .int), Cond.methodLink RX4 121 yX4_stands, Cond.instanceMethod yX4_stands, Cond.selects RX4 yX4_stands yX4_stands, Cond.code yX4_stands cX4_stands 3 (some .boolean), Cond.fieldLink RX4 25 "LentSectorsModel" "text" "[I", Cond.methodLink RX4 124 yX4_number, Cond.instanceMethod yX4_number, Cond.selects RX4 yX4_number yX4_number, Cond.code yX4_number cX4_number 3 (some .int), Cond.methodLink RX4 32 yX4_in, Cond.static yX4_in, Cond.code yX4_in cX4_in 3 (some .boolean), Cond.methodLink RX4 98 yX4_reads, Cond.instanceMethod yX4_reads, Cond.selects RX4 yX4_reads yX4_reads, Cond.code yX4_reads cX4_reads 3 (some .int), Cond.fieldLink RX4 7 "LentSectorsModel" "now" "[I"]
def wsX4_commands_r2 : List Cond := [Cond.methodLink RX4 40 yX4_isAddress, Cond.instanceMethod yX4_isAddress, Cond.selects RX4 yX4_isAddress yX4_isAddress, Cond.code yX4_isAddress cX4_isAddress 2 (some .boolean), Cond.methodLink RX4 36 yX4_isSpare, Cond.instanceMethod yX4_isSpare, Cond.selects RX4 yX4_isSpare yX4_isSpare, Cond.code yX4_isSpare cX4_isSpare 2 (some .boolean), Cond.methodLink RX4 75 yX4_isLost, Cond.instanceMethod yX4_isLost, Cond.selects RX4 yX4_isLost yX4_isLost, Cond.code yX4_isLost cX4_isLost 2 (some .boolean), Cond.methodLink RX4 78 yX4_goesTo, Cond.instanceMethod yX4_goesTo, Cond.selects RX4 yX4_goesTo yX4_goesTo, Cond.code yX4_goesTo cX4_goesTo 2 none, Cond.methodLink RX4 64 yX4_goes, Cond.instanceMethod yX4_goes, Cond.selects RX4 yX4_goes yX4_goes, Cond.code yX4_goes cX4_goes 2 none, Cond.methodLink RX4 60 yX4_apart, Cond.static yX4_apart, Cond.code yX4_apart cX4_apart 4 (some .int), Cond.methodLink RX4 71 yX4_wears]
def wsX4_commands_r3 : List Cond := [Cond.instanceMethod yX4_wears, Cond.selects RX4 yX4_wears yX4_wears, Cond.code yX4_wears cX4_wears 4 none, Cond.constant RX4 59 (99999), Cond.methodLink RX4 81 yX4_looks, Cond.instanceMethod yX4_looks, Cond.selects RX4 yX4_looks yX4_looks, Cond.code yX4_looks cX4_looks 4 none, Cond.methodLink RX4 43 yX4_state, Cond.instanceMethod yX4_state, Cond.selects RX4 yX4_state yX4_state, Cond.code yX4_state cX4_state 3 (some .int), Cond.methodLink RX4 68 yX4_lends, Cond.instanceMethod yX4_lends, Cond.selects RX4 yX4_lends yX4_lends, Cond.code yX4_lends cX4_lends 5 (some .int), Cond.methodLink RX4 53 yX4_firstFree, Cond.instanceMethod yX4_firstFree, Cond.selects RX4 yX4_firstFree yX4_firstFree, Cond.code yX4_firstFree cX4_firstFree 3 (some .int), Cond.methodLink RX4 50 yX4_isFree, Cond.instanceMethod yX4_isFree, Cond.selects RX4 yX4_isFree yX4_isFree, Cond.code yX4_isFree cX4_isFree 2 (some .boolean)]
def wsX4_commands_r4 : List Cond := [Cond.methodLink RX4 47 yX4_serves, Cond.instanceMethod yX4_serves, Cond.selects RX4 yX4_serves yX4_serves, Cond.code yX4_serves cX4_serves 3 (some .int), Cond.methodLink RX4 56 yX4_frees, Cond.instanceMethod yX4_frees, Cond.selects RX4 yX4_frees yX4_frees, Cond.code yX4_frees cX4_frees 4 (some .int), Cond.methodLink RX4 101 yX4_writes, Cond.instanceMethod yX4_writes, Cond.selects RX4 yX4_writes yX4_writes, Cond.code yX4_writes cX4_writes 4 (some .int)]
def wsX4_commands : List Cond := .code yX4_commands cX4_commands 2 (some .int) :: ((wsX4_commands_r1 ++ (wsX4_commands_r2 ++ (wsX4_commands_r3 ++ wsX4_commands_r4))) ++ wsX40)
def wsX4_perform_r1 : List Cond := [Cond.fieldLink RX4 115 "LentSectorsModel" "at" "I", Cond.fieldLink RX4 7 "LentSectorsModel" "now" "[I", Cond.fieldLink RX4 13 "LentSectorsModel" "spare" "[I", Cond.methodLink RX4 131 yX4_commands, Cond.instanceMethod yX4_commands, Cond.selects RX4 yX4_commands yX4_commands, Cond.initialized RX4, Cond.code yX4_commands cX4_commands 2 (some .int), Cond.fieldLink RX4 118 "LentSectorsModel" "length" "I", Cond.methodLink RX4 127 yX4_command, Cond.instanceMethod yX4_command, Cond.selects RX4 yX4_command yX4_command, Cond.code yX4_command cX4_command 5 (some .int), Cond.methodLink RX4 121 yX4_stands, Cond.instanceMethod yX4_stands, Cond.selects RX4 yX4_stands yX4_stands, Cond.code yX4_stands cX4_stands 3 (some .boolean), Cond.fieldLink RX4 25 "LentSectorsModel" "text" "[I", Cond.methodLink RX4 124 yX4_number, Cond.instanceMethod yX4_number, Cond.selects RX4 yX4_number yX4_number, Cond.code yX4_number cX4_number 3 (some .int), Cond.methodLink RX4 32 yX4_in, Cond.static yX4_in]
def wsX4_perform_r2 : List Cond := [Cond.code yX4_in cX4_in 3 (some .boolean), Cond.methodLink RX4 98 yX4_reads, Cond.instanceMethod yX4_reads, Cond.selects RX4 yX4_reads yX4_reads, Cond.code yX4_reads cX4_reads 3 (some .int), Cond.methodLink RX4 40 yX4_isAddress, Cond.instanceMethod yX4_isAddress, Cond.selects RX4 yX4_isAddress yX4_isAddress, Cond.code yX4_isAddress cX4_isAddress 2 (some .boolean), Cond.methodLink RX4 36 yX4_isSpare, Cond.instanceMethod yX4_isSpare, Cond.selects RX4 yX4_isSpare yX4_isSpare, Cond.code yX4_isSpare cX4_isSpare 2 (some .boolean), Cond.methodLink RX4 75 yX4_isLost, Cond.instanceMethod yX4_isLost, Cond.selects RX4 yX4_isLost yX4_isLost, Cond.code yX4_isLost cX4_isLost 2 (some .boolean), Cond.methodLink RX4 78 yX4_goesTo, Cond.instanceMethod yX4_goesTo, Cond.selects RX4 yX4_goesTo yX4_goesTo, Cond.code yX4_goesTo cX4_goesTo 2 none, Cond.methodLink RX4 64 yX4_goes, Cond.instanceMethod yX4_goes, Cond.selects RX4 yX4_goes yX4_goes]
def wsX4_perform_r3 : List Cond := [Cond.code yX4_goes cX4_goes 2 none, Cond.methodLink RX4 60 yX4_apart, Cond.static yX4_apart, Cond.code yX4_apart cX4_apart 4 (some .int), Cond.methodLink RX4 71 yX4_wears, Cond.instanceMethod yX4_wears, Cond.selects RX4 yX4_wears yX4_wears, Cond.code yX4_wears cX4_wears 4 none, Cond.constant RX4 59 (99999), Cond.methodLink RX4 81 yX4_looks, Cond.instanceMethod yX4_looks, Cond.selects RX4 yX4_looks yX4_looks, Cond.code yX4_looks cX4_looks 4 none, Cond.methodLink RX4 43 yX4_state, Cond.instanceMethod yX4_state, Cond.selects RX4 yX4_state yX4_state, Cond.code yX4_state cX4_state 3 (some .int), Cond.methodLink RX4 68 yX4_lends, Cond.instanceMethod yX4_lends, Cond.selects RX4 yX4_lends yX4_lends, Cond.code yX4_lends cX4_lends 5 (some .int), Cond.methodLink RX4 53 yX4_firstFree, Cond.instanceMethod yX4_firstFree, Cond.selects RX4 yX4_firstFree yX4_firstFree]
def wsX4_perform_r4 : List Cond := [Cond.code yX4_firstFree cX4_firstFree 3 (some .int), Cond.methodLink RX4 50 yX4_isFree, Cond.instanceMethod yX4_isFree, Cond.selects RX4 yX4_isFree yX4_isFree, Cond.code yX4_isFree cX4_isFree 2 (some .boolean), Cond.methodLink RX4 47 yX4_serves, Cond.instanceMethod yX4_serves, Cond.selects RX4 yX4_serves yX4_serves, Cond.code yX4_serves cX4_serves 3 (some .int), Cond.methodLink RX4 56 yX4_frees, Cond.instanceMethod yX4_frees, Cond.selects RX4 yX4_frees yX4_frees, Cond.code yX4_frees cX4_frees 4 (some .int), Cond.methodLink RX4 101 yX4_writes, Cond.instanceMethod yX4_writes, Cond.selects RX4 yX4_writes yX4_writes, Cond.code yX4_writes cX4_writes 4 (some .int), Cond.methodLink RX4 94 yX4_copies, Cond.static yX4_copies, Cond.code yX4_copies cX4_copies 3 none, Cond.methodLink RX4 84 yX4_record, Cond.instanceMethod yX4_record, Cond.selects RX4 yX4_record yX4_record, Cond.code yX4_record cX4_record 3 none]
def wsX4_perform_r5 : List Cond := [Cond.fieldLink RX4 28 "LentSectorsModel" "kept" "I", Cond.fieldLink RX4 22 "LentSectorsModel" "history" "[I"]
def wsX4_perform : List Cond := .code yX4_perform cX4_perform 4 (some .int) :: ((wsX4_perform_r1 ++ (wsX4_perform_r2 ++ (wsX4_perform_r3 ++ (wsX4_perform_r4 ++ wsX4_perform_r5)))) ++ wsX40)
def wsX4_type : List Cond := .code yX4_type cX4_type 2 (some .int) :: ([.fieldLink RX4 118 "LentSectorsModel" "length" "I", .fieldLink RX4 25 "LentSectorsModel" "text" "[I"] ++ wsX40)
def wsX4_clearText : List Cond := .code yX4_clearText cX4_clearText 2 (some .int) :: ([.fieldLink RX4 118 "LentSectorsModel" "length" "I"] ++ wsX40)
def wsX4_undo : List Cond := .code yX4_undo cX4_undo 2 (some .int) :: ([.fieldLink RX4 28 "LentSectorsModel" "kept" "I", .fieldLink RX4 7 "LentSectorsModel" "now" "[I", .fieldLink RX4 22 "LentSectorsModel" "history" "[I"] ++ wsX40)
def wsX4_keep : List Cond := .code yX4_keep cX4_keep 1 (some .int) :: ([.fieldLink RX4 7 "LentSectorsModel" "now" "[I", .fieldLink RX4 19 "LentSectorsModel" "slot" "[I", .fieldLink RX4 135 "LentSectorsModel" "isFilled" "Z", .methodLink RX4 94 yX4_copies, .static yX4_copies, .initialized RX4, .code yX4_copies cX4_copies 3 none] ++ wsX40)
def wsX4_restore : List Cond := .code yX4_restore cX4_restore 1 (some .int) :: ([.fieldLink RX4 135 "LentSectorsModel" "isFilled" "Z", .fieldLink RX4 7 "LentSectorsModel" "now" "[I", .fieldLink RX4 19 "LentSectorsModel" "slot" "[I", .methodLink RX4 84 yX4_record, .instanceMethod yX4_record, .selects RX4 yX4_record yX4_record, .initialized RX4, .code yX4_record cX4_record 3 none, .fieldLink RX4 28 "LentSectorsModel" "kept" "I", .fieldLink RX4 22 "LentSectorsModel" "history" "[I", .methodLink RX4 94 yX4_copies, .static yX4_copies, .code yX4_copies cX4_copies 3 none] ++ wsX40)
def wsX4_address_r1 : List Cond := [Cond.fieldLink RX4 7 "LentSectorsModel" "now" "[I", Cond.methodLink RX4 40 yX4_isAddress, Cond.instanceMethod yX4_isAddress, Cond.selects RX4 yX4_isAddress yX4_isAddress, Cond.initialized RX4, Cond.code yX4_isAddress cX4_isAddress 2 (some .boolean), Cond.methodLink RX4 32 yX4_in, Cond.static yX4_in, Cond.code yX4_in cX4_in 3 (some .boolean), Cond.methodLink RX4 36 yX4_isSpare, Cond.instanceMethod yX4_isSpare, Cond.selects RX4 yX4_isSpare yX4_isSpare, Cond.code yX4_isSpare cX4_isSpare 2 (some .boolean), Cond.methodLink RX4 75 yX4_isLost, Cond.instanceMethod yX4_isLost, Cond.selects RX4 yX4_isLost yX4_isLost, Cond.code yX4_isLost cX4_isLost 2 (some .boolean), Cond.methodLink RX4 68 yX4_lends, Cond.instanceMethod yX4_lends, Cond.selects RX4 yX4_lends yX4_lends, Cond.code yX4_lends cX4_lends 5 (some .int), Cond.methodLink RX4 53 yX4_firstFree, Cond.instanceMethod yX4_firstFree, Cond.selects RX4 yX4_firstFree yX4_firstFree]
def wsX4_address_r2 : List Cond := [Cond.code yX4_firstFree cX4_firstFree 3 (some .int), Cond.methodLink RX4 50 yX4_isFree, Cond.instanceMethod yX4_isFree, Cond.selects RX4 yX4_isFree yX4_isFree, Cond.code yX4_isFree cX4_isFree 2 (some .boolean), Cond.methodLink RX4 43 yX4_state, Cond.instanceMethod yX4_state, Cond.selects RX4 yX4_state yX4_state, Cond.code yX4_state cX4_state 3 (some .int), Cond.methodLink RX4 47 yX4_serves, Cond.instanceMethod yX4_serves, Cond.selects RX4 yX4_serves yX4_serves, Cond.code yX4_serves cX4_serves 3 (some .int), Cond.methodLink RX4 56 yX4_frees, Cond.instanceMethod yX4_frees, Cond.selects RX4 yX4_frees yX4_frees, Cond.code yX4_frees cX4_frees 4 (some .int), Cond.methodLink RX4 139 yX4_steps, Cond.instanceMethod yX4_steps, Cond.selects RX4 yX4_steps yX4_steps, Cond.code yX4_steps cX4_steps 5 (some .int), Cond.methodLink RX4 60 yX4_apart, Cond.static yX4_apart, Cond.code yX4_apart cX4_apart 4 (some .int)]
def wsX4_address : List Cond := .code yX4_address cX4_address 4 (some .int) :: ((wsX4_address_r1 ++ wsX4_address_r2) ++ wsX40)
def wsX4_sector_r1 : List Cond := [Cond.fieldLink RX4 7 "LentSectorsModel" "now" "[I", Cond.methodLink RX4 32 yX4_in, Cond.static yX4_in, Cond.initialized RX4, Cond.code yX4_in cX4_in 3 (some .boolean), Cond.methodLink RX4 43 yX4_state, Cond.instanceMethod yX4_state, Cond.selects RX4 yX4_state yX4_state, Cond.code yX4_state cX4_state 3 (some .int), Cond.methodLink RX4 36 yX4_isSpare, Cond.instanceMethod yX4_isSpare, Cond.selects RX4 yX4_isSpare yX4_isSpare, Cond.code yX4_isSpare cX4_isSpare 2 (some .boolean), Cond.methodLink RX4 47 yX4_serves, Cond.instanceMethod yX4_serves, Cond.selects RX4 yX4_serves yX4_serves, Cond.code yX4_serves cX4_serves 3 (some .int), Cond.methodLink RX4 40 yX4_isAddress, Cond.instanceMethod yX4_isAddress, Cond.selects RX4 yX4_isAddress yX4_isAddress, Cond.code yX4_isAddress cX4_isAddress 2 (some .boolean), Cond.methodLink RX4 50 yX4_isFree, Cond.instanceMethod yX4_isFree, Cond.selects RX4 yX4_isFree yX4_isFree]
def wsX4_sector_r2 : List Cond := [Cond.code yX4_isFree cX4_isFree 2 (some .boolean)]
def wsX4_sector : List Cond := .code yX4_sector cX4_sector 3 (some .int) :: ((wsX4_sector_r1 ++ wsX4_sector_r2) ++ wsX40)
def wsX4_across : List Cond := .code yX4_across cX4_across 6 (some .int) :: ([.fieldLink RX4 7 "LentSectorsModel" "now" "[I", .methodLink RX4 40 yX4_isAddress, .instanceMethod yX4_isAddress, .selects RX4 yX4_isAddress yX4_isAddress, .initialized RX4, .code yX4_isAddress cX4_isAddress 2 (some .boolean), .methodLink RX4 32 yX4_in, .static yX4_in, .code yX4_in cX4_in 3 (some .boolean), .methodLink RX4 36 yX4_isSpare, .instanceMethod yX4_isSpare, .selects RX4 yX4_isSpare yX4_isSpare, .code yX4_isSpare cX4_isSpare 2 (some .boolean), .methodLink RX4 75 yX4_isLost, .instanceMethod yX4_isLost, .selects RX4 yX4_isLost yX4_isLost, .code yX4_isLost cX4_isLost 2 (some .boolean)] ++ wsX40)
def wsX4_inState : List Cond := .code yX4_inState cX4_inState 5 (some .int) :: ([.methodLink RX4 43 yX4_state, .instanceMethod yX4_state, .selects RX4 yX4_state yX4_state, .initialized RX4, .code yX4_state cX4_state 3 (some .int), .fieldLink RX4 7 "LentSectorsModel" "now" "[I"] ++ wsX40)
def wsX4_head_r1 : List Cond := [Cond.fieldLink RX4 7 "LentSectorsModel" "now" "[I", Cond.methodLink RX4 88 yX4_isHead, Cond.static yX4_isHead, Cond.initialized RX4, Cond.code yX4_isHead cX4_isHead 1 (some .boolean), Cond.methodLink RX4 32 yX4_in, Cond.static yX4_in, Cond.code yX4_in cX4_in 3 (some .boolean), Cond.methodLink RX4 56 yX4_frees, Cond.instanceMethod yX4_frees, Cond.selects RX4 yX4_frees yX4_frees, Cond.code yX4_frees cX4_frees 4 (some .int), Cond.methodLink RX4 50 yX4_isFree, Cond.instanceMethod yX4_isFree, Cond.selects RX4 yX4_isFree yX4_isFree, Cond.code yX4_isFree cX4_isFree 2 (some .boolean), Cond.methodLink RX4 36 yX4_isSpare, Cond.instanceMethod yX4_isSpare, Cond.selects RX4 yX4_isSpare yX4_isSpare, Cond.code yX4_isSpare cX4_isSpare 2 (some .boolean), Cond.methodLink RX4 43 yX4_state, Cond.instanceMethod yX4_state, Cond.selects RX4 yX4_state yX4_state, Cond.code yX4_state cX4_state 3 (some .int)]
def wsX4_head_r2 : List Cond := [Cond.methodLink RX4 47 yX4_serves, Cond.instanceMethod yX4_serves, Cond.selects RX4 yX4_serves yX4_serves, Cond.code yX4_serves cX4_serves 3 (some .int), Cond.methodLink RX4 40 yX4_isAddress, Cond.instanceMethod yX4_isAddress, Cond.selects RX4 yX4_isAddress yX4_isAddress, Cond.code yX4_isAddress cX4_isAddress 2 (some .boolean), Cond.methodLink RX4 142 yX4_across, Cond.instanceMethod yX4_across, Cond.selects RX4 yX4_across yX4_across, Cond.code yX4_across cX4_across 6 (some .int), Cond.methodLink RX4 75 yX4_isLost, Cond.instanceMethod yX4_isLost, Cond.selects RX4 yX4_isLost yX4_isLost, Cond.code yX4_isLost cX4_isLost 2 (some .boolean), Cond.methodLink RX4 109 yX4_lost, Cond.instanceMethod yX4_lost, Cond.selects RX4 yX4_lost yX4_lost, Cond.code yX4_lost cX4_lost 5 (some .int), Cond.methodLink RX4 91 yX4_wear, Cond.instanceMethod yX4_wear, Cond.selects RX4 yX4_wear yX4_wear, Cond.code yX4_wear cX4_wear 4 (some .int)]
def wsX4_head_r3 : List Cond := [Cond.methodLink RX4 145 yX4_inState, Cond.instanceMethod yX4_inState, Cond.selects RX4 yX4_inState yX4_inState, Cond.code yX4_inState cX4_inState 5 (some .int)]
def wsX4_head : List Cond := .code yX4_head cX4_head 3 (some .int) :: ((wsX4_head_r1 ++ (wsX4_head_r2 ++ wsX4_head_r3)) ++ wsX40)
def wsX4_readsLeft_r1 : List Cond := [Cond.fieldLink RX4 7 "LentSectorsModel" "now" "[I", Cond.fieldLink RX4 13 "LentSectorsModel" "spare" "[I", Cond.methodLink RX4 40 yX4_isAddress, Cond.instanceMethod yX4_isAddress, Cond.selects RX4 yX4_isAddress yX4_isAddress, Cond.initialized RX4, Cond.code yX4_isAddress cX4_isAddress 2 (some .boolean), Cond.methodLink RX4 32 yX4_in, Cond.static yX4_in, Cond.code yX4_in cX4_in 3 (some .boolean), Cond.methodLink RX4 36 yX4_isSpare, Cond.instanceMethod yX4_isSpare, Cond.selects RX4 yX4_isSpare yX4_isSpare, Cond.code yX4_isSpare cX4_isSpare 2 (some .boolean), Cond.methodLink RX4 94 yX4_copies, Cond.static yX4_copies, Cond.code yX4_copies cX4_copies 3 none, Cond.methodLink RX4 98 yX4_reads, Cond.instanceMethod yX4_reads, Cond.selects RX4 yX4_reads yX4_reads, Cond.code yX4_reads cX4_reads 3 (some .int), Cond.methodLink RX4 75 yX4_isLost, Cond.instanceMethod yX4_isLost, Cond.selects RX4 yX4_isLost yX4_isLost]
def wsX4_readsLeft_r2 : List Cond := [Cond.code yX4_isLost cX4_isLost 2 (some .boolean), Cond.methodLink RX4 78 yX4_goesTo, Cond.instanceMethod yX4_goesTo, Cond.selects RX4 yX4_goesTo yX4_goesTo, Cond.code yX4_goesTo cX4_goesTo 2 none, Cond.methodLink RX4 64 yX4_goes, Cond.instanceMethod yX4_goes, Cond.selects RX4 yX4_goes yX4_goes, Cond.code yX4_goes cX4_goes 2 none, Cond.methodLink RX4 60 yX4_apart, Cond.static yX4_apart, Cond.code yX4_apart cX4_apart 4 (some .int), Cond.methodLink RX4 71 yX4_wears, Cond.instanceMethod yX4_wears, Cond.selects RX4 yX4_wears yX4_wears, Cond.code yX4_wears cX4_wears 4 none, Cond.constant RX4 59 (99999), Cond.methodLink RX4 81 yX4_looks, Cond.instanceMethod yX4_looks, Cond.selects RX4 yX4_looks yX4_looks, Cond.code yX4_looks cX4_looks 4 none, Cond.methodLink RX4 43 yX4_state, Cond.instanceMethod yX4_state, Cond.selects RX4 yX4_state yX4_state]
def wsX4_readsLeft_r3 : List Cond := [Cond.code yX4_state cX4_state 3 (some .int), Cond.methodLink RX4 68 yX4_lends, Cond.instanceMethod yX4_lends, Cond.selects RX4 yX4_lends yX4_lends, Cond.code yX4_lends cX4_lends 5 (some .int), Cond.methodLink RX4 53 yX4_firstFree, Cond.instanceMethod yX4_firstFree, Cond.selects RX4 yX4_firstFree yX4_firstFree, Cond.code yX4_firstFree cX4_firstFree 3 (some .int), Cond.methodLink RX4 50 yX4_isFree, Cond.instanceMethod yX4_isFree, Cond.selects RX4 yX4_isFree yX4_isFree, Cond.code yX4_isFree cX4_isFree 2 (some .boolean), Cond.methodLink RX4 47 yX4_serves, Cond.instanceMethod yX4_serves, Cond.selects RX4 yX4_serves yX4_serves, Cond.code yX4_serves cX4_serves 3 (some .int), Cond.methodLink RX4 56 yX4_frees, Cond.instanceMethod yX4_frees, Cond.selects RX4 yX4_frees yX4_frees, Cond.code yX4_frees cX4_frees 4 (some .int)]
def wsX4_readsLeft : List Cond := .code yX4_readsLeft cX4_readsLeft 5 (some .int) :: ((wsX4_readsLeft_r1 ++ (wsX4_readsLeft_r2 ++ wsX4_readsLeft_r3)) ++ wsX40)
def wsX4_wouldLose_r1 : List Cond := [Cond.fieldLink RX4 7 "LentSectorsModel" "now" "[I", Cond.fieldLink RX4 13 "LentSectorsModel" "spare" "[I", Cond.methodLink RX4 88 yX4_isHead, Cond.static yX4_isHead, Cond.initialized RX4, Cond.code yX4_isHead cX4_isHead 1 (some .boolean), Cond.methodLink RX4 32 yX4_in, Cond.static yX4_in, Cond.code yX4_in cX4_in 3 (some .boolean), Cond.methodLink RX4 94 yX4_copies, Cond.static yX4_copies, Cond.code yX4_copies cX4_copies 3 none, Cond.methodLink RX4 112 yX4_givesUp, Cond.instanceMethod yX4_givesUp, Cond.selects RX4 yX4_givesUp yX4_givesUp, Cond.code yX4_givesUp cX4_givesUp 5 (some .int), Cond.methodLink RX4 40 yX4_isAddress, Cond.instanceMethod yX4_isAddress, Cond.selects RX4 yX4_isAddress yX4_isAddress, Cond.code yX4_isAddress cX4_isAddress 2 (some .boolean), Cond.methodLink RX4 36 yX4_isSpare, Cond.instanceMethod yX4_isSpare, Cond.selects RX4 yX4_isSpare yX4_isSpare, Cond.code yX4_isSpare cX4_isSpare 2 (some .boolean)]
def wsX4_wouldLose_r2 : List Cond := [Cond.methodLink RX4 75 yX4_isLost, Cond.instanceMethod yX4_isLost, Cond.selects RX4 yX4_isLost yX4_isLost, Cond.code yX4_isLost cX4_isLost 2 (some .boolean), Cond.methodLink RX4 68 yX4_lends, Cond.instanceMethod yX4_lends, Cond.selects RX4 yX4_lends yX4_lends, Cond.code yX4_lends cX4_lends 5 (some .int), Cond.methodLink RX4 53 yX4_firstFree, Cond.instanceMethod yX4_firstFree, Cond.selects RX4 yX4_firstFree yX4_firstFree, Cond.code yX4_firstFree cX4_firstFree 3 (some .int), Cond.methodLink RX4 50 yX4_isFree, Cond.instanceMethod yX4_isFree, Cond.selects RX4 yX4_isFree yX4_isFree, Cond.code yX4_isFree cX4_isFree 2 (some .boolean), Cond.methodLink RX4 43 yX4_state, Cond.instanceMethod yX4_state, Cond.selects RX4 yX4_state yX4_state, Cond.code yX4_state cX4_state 3 (some .int), Cond.methodLink RX4 47 yX4_serves, Cond.instanceMethod yX4_serves, Cond.selects RX4 yX4_serves yX4_serves, Cond.code yX4_serves cX4_serves 3 (some .int)]
def wsX4_wouldLose_r3 : List Cond := [Cond.methodLink RX4 56 yX4_frees, Cond.instanceMethod yX4_frees, Cond.selects RX4 yX4_frees yX4_frees, Cond.code yX4_frees cX4_frees 4 (some .int), Cond.methodLink RX4 71 yX4_wears, Cond.instanceMethod yX4_wears, Cond.selects RX4 yX4_wears yX4_wears, Cond.code yX4_wears cX4_wears 4 none, Cond.constant RX4 59 (99999)]
def wsX4_wouldLose : List Cond := .code yX4_wouldLose cX4_wouldLose 3 (some .int) :: ((wsX4_wouldLose_r1 ++ (wsX4_wouldLose_r2 ++ wsX4_wouldLose_r3)) ++ wsX40)
def wsX4_ahead : List Cond := .code yX4_ahead cX4_ahead 6 (some .int) :: ([.fieldLink RX4 7 "LentSectorsModel" "now" "[I", .methodLink RX4 40 yX4_isAddress, .instanceMethod yX4_isAddress, .selects RX4 yX4_isAddress yX4_isAddress, .initialized RX4, .code yX4_isAddress cX4_isAddress 2 (some .boolean), .methodLink RX4 32 yX4_in, .static yX4_in, .code yX4_in cX4_in 3 (some .boolean), .methodLink RX4 36 yX4_isSpare, .instanceMethod yX4_isSpare, .selects RX4 yX4_isSpare yX4_isSpare, .code yX4_isSpare cX4_isSpare 2 (some .boolean), .methodLink RX4 75 yX4_isLost, .instanceMethod yX4_isLost, .selects RX4 yX4_isLost yX4_isLost, .code yX4_isLost cX4_isLost 2 (some .boolean)] ++ wsX40)
def wsX4_worst : List Cond := .code yX4_worst cX4_worst 3 (some .int) :: ([.methodLink RX4 40 yX4_isAddress, .instanceMethod yX4_isAddress, .selects RX4 yX4_isAddress yX4_isAddress, .initialized RX4, .code yX4_isAddress cX4_isAddress 2 (some .boolean), .methodLink RX4 32 yX4_in, .static yX4_in, .code yX4_in cX4_in 3 (some .boolean), .methodLink RX4 36 yX4_isSpare, .instanceMethod yX4_isSpare, .selects RX4 yX4_isSpare yX4_isSpare, .code yX4_isSpare cX4_isSpare 2 (some .boolean), .fieldLink RX4 7 "LentSectorsModel" "now" "[I", .methodLink RX4 75 yX4_isLost, .instanceMethod yX4_isLost, .selects RX4 yX4_isLost yX4_isLost, .code yX4_isLost cX4_isLost 2 (some .boolean), .methodLink RX4 148 yX4_ahead, .instanceMethod yX4_ahead, .selects RX4 yX4_ahead yX4_ahead, .code yX4_ahead cX4_ahead 6 (some .int)] ++ wsX40)
def wsX4_count_r1 : List Cond := [Cond.fieldLink RX4 7 "LentSectorsModel" "now" "[I", Cond.fieldLink RX4 28 "LentSectorsModel" "kept" "I", Cond.fieldLink RX4 118 "LentSectorsModel" "length" "I", Cond.methodLink RX4 32 yX4_in, Cond.static yX4_in, Cond.initialized RX4, Cond.code yX4_in cX4_in 3 (some .boolean), Cond.methodLink RX4 40 yX4_isAddress, Cond.instanceMethod yX4_isAddress, Cond.selects RX4 yX4_isAddress yX4_isAddress, Cond.code yX4_isAddress cX4_isAddress 2 (some .boolean), Cond.methodLink RX4 36 yX4_isSpare, Cond.instanceMethod yX4_isSpare, Cond.selects RX4 yX4_isSpare yX4_isSpare, Cond.code yX4_isSpare cX4_isSpare 2 (some .boolean), Cond.methodLink RX4 75 yX4_isLost, Cond.instanceMethod yX4_isLost, Cond.selects RX4 yX4_isLost yX4_isLost, Cond.code yX4_isLost cX4_isLost 2 (some .boolean), Cond.methodLink RX4 50 yX4_isFree, Cond.instanceMethod yX4_isFree, Cond.selects RX4 yX4_isFree yX4_isFree, Cond.code yX4_isFree cX4_isFree 2 (some .boolean), Cond.methodLink RX4 43 yX4_state]
def wsX4_count_r2 : List Cond := [Cond.instanceMethod yX4_state, Cond.selects RX4 yX4_state yX4_state, Cond.code yX4_state cX4_state 3 (some .int), Cond.methodLink RX4 47 yX4_serves, Cond.instanceMethod yX4_serves, Cond.selects RX4 yX4_serves yX4_serves, Cond.code yX4_serves cX4_serves 3 (some .int)]
def wsX4_count : List Cond := .code yX4_count cX4_count 5 (some .int) :: ((wsX4_count_r1 ++ wsX4_count_r2) ++ wsX40)
def wsJ9_abs_0f7a4 : List Cond := .code yJ9_abs_0f7a4 cJ9_abs_0f7a4 1 (some .int) :: ([])
def wsL_law_r1 : List Cond := [Cond.classLink RL 7 RX3, Cond.instantiable RX3 6, Cond.initialized RX3, Cond.classLink RL 10 RX4, Cond.instantiable RX4 10, Cond.initialized RX4, Cond.methodLink RL 9 yX3_init, Cond.instanceMethod yX3_init, Cond.code yX3_init cX3_init 1 none, Cond.methodLink RX3 3 objectInit, Cond.instanceMethod objectInit, Cond.code objectInit ⟨#[0xb1]⟩ 1 none, Cond.classLink RX3 9 RX1, Cond.instantiable RX1 15, Cond.initialized RX1, Cond.fieldLink RX3 12 "LentSectors" "now" "LLentSectors$Heads;", Cond.fieldLink RX3 16 "LentSectors" "trial" "LLentSectors$Heads;", Cond.fieldLink RX3 19 "LentSectors" "kept" "LLentSectors$Heads;", Cond.classLink RX3 22 RX2, Cond.instantiable RX2 3, Cond.initialized RX2, Cond.fieldLink RX3 25 "LentSectors" "history" "LLentSectors$History;", Cond.classLink RX3 29 RX0, Cond.instantiable RX0 6]
def wsL_law_r2 : List Cond := [Cond.initialized RX0, Cond.fieldLink RX3 32 "LentSectors" "text" "LLentSectors$CommandText;", Cond.fieldLink RX3 36 "LentSectors" "hasKept" "Z", Cond.methodLink RX3 11 yX1_init, Cond.instanceMethod yX1_init, Cond.code yX1_init cX1_init 2 none, Cond.methodLink RX1 3 objectInit, Cond.fieldLink RX1 9 "LentSectors$Heads" "limit" "I", Cond.arrayClass .int, Cond.fieldLink RX1 15 "LentSectors$Heads" "ageing" "[I", Cond.fieldLink RX1 19 "LentSectors$Heads" "spares" "[I", Cond.arrayClass .boolean, Cond.fieldLink RX1 22 "LentSectors$Heads" "givenUp" "[Z", Cond.fieldLink RX1 26 "LentSectors$Heads" "wear" "[I", Cond.fieldLink RX1 29 "LentSectors$Heads" "value" "[I", Cond.fieldLink RX1 32 "LentSectors$Heads" "rescuesOf" "[I", Cond.fieldLink RX1 35 "LentSectors$Heads" "server" "[I", Cond.fieldLink RX1 38 "LentSectors$Heads" "client" "[I", Cond.fieldLink RX1 41 "LentSectors$Heads" "arm" "I", Cond.fieldLink RX1 44 "LentSectors$Heads" "steps" "I", Cond.fieldLink RX1 47 "LentSectors$Heads" "rescues" "I", Cond.fieldLink RX1 50 "LentSectors$Heads" "losses" "I", Cond.fieldLink RX1 53 "LentSectors$Heads" "reads" "I", Cond.fieldLink RX1 56 "LentSectors$Heads" "writes" "I"]
def wsL_law_r3 : List Cond := [Cond.methodLink RX1 59 yX1_divide, Cond.instanceMethod yX1_divide, Cond.selects RX1 yX1_divide yX1_divide, Cond.code yX1_divide cX1_divide 6 none, Cond.methodLink RX1 69 yX1_isAddress, Cond.instanceMethod yX1_isAddress, Cond.selects RX1 yX1_isAddress yX1_isAddress, Cond.code yX1_isAddress cX1_isAddress 2 (some .boolean), Cond.static yX3_isSector, Cond.code yX3_isSector cX3_isSector 1 (some .boolean), Cond.static yX3_placeOf, Cond.code yX3_placeOf cX3_placeOf 1 (some .int), Cond.static yX3_headOf, Cond.code yX3_headOf cX3_headOf 1 (some .int), Cond.methodLink RX3 24 yX2_init, Cond.instanceMethod yX2_init, Cond.code yX2_init cX2_init 2 none, Cond.methodLink RX2 3 objectInit, Cond.classLink RX2 9 RX1, Cond.fieldLink RX2 11 "LentSectors$History" "rooms" "[LLentSectors$Heads;", Cond.fieldLink RX2 17 "LentSectors$History" "oldest" "I", Cond.fieldLink RX2 21 "LentSectors$History" "many" "I", Cond.methodLink RX2 24 yX1_init, Cond.instanceMethod yX0_init]
def wsL_law_r4 : List Cond := [Cond.code yX0_init cX0_init 1 none, Cond.methodLink RX0 3 objectInit, Cond.fieldLink RX0 9 "LentSectors$CommandText" "codes" "[I", Cond.fieldLink RX0 15 "LentSectors$CommandText" "length" "I", Cond.fieldLink RX0 19 "LentSectors$CommandText" "sectors" "[I", Cond.fieldLink RX0 22 "LentSectors$CommandText" "values" "[I", Cond.fieldLink RX0 25 "LentSectors$CommandText" "commands" "I", Cond.fieldLink RX0 28 "LentSectors$CommandText" "at" "I", Cond.methodLink RL 12 yX4_init, Cond.instanceMethod yX4_init, Cond.code yX4_init cX4_init 2 none, Cond.methodLink RX4 1 objectInit, Cond.fieldLink RX4 7 "LentSectorsModel" "now" "[I", Cond.fieldLink RX4 13 "LentSectorsModel" "spare" "[I", Cond.fieldLink RX4 16 "LentSectorsModel" "pair" "[I", Cond.fieldLink RX4 19 "LentSectorsModel" "slot" "[I", Cond.fieldLink RX4 22 "LentSectorsModel" "history" "[I", Cond.fieldLink RX4 25 "LentSectorsModel" "text" "[I", Cond.methodLink RL 13 yX3_setLimit, Cond.instanceMethod yX3_setLimit, Cond.selects RX3 yX3_setLimit yX3_setLimit, Cond.code yX3_setLimit cX3_setLimit 2 (some .int), Cond.methodLink RX3 40 yX3_startTrial, Cond.instanceMethod yX3_startTrial]
def wsL_law_r5 : List Cond := [Cond.selects RX3 yX3_startTrial yX3_startTrial, Cond.code yX3_startTrial cX3_startTrial 1 none, Cond.methodLink RX3 115 yX1_takeOver, Cond.instanceMethod yX1_takeOver, Cond.selects RX1 yX1_takeOver yX1_takeOver, Cond.code yX1_takeOver cX1_takeOver 2 none, Cond.methodLink RX1 63 arraycopyName, Cond.native arraycopyName, Cond.static arraycopyName, Cond.initialized "java/lang/System", Cond.methodLink RX3 43 yX1_changeLimit, Cond.instanceMethod yX1_changeLimit, Cond.selects RX1 yX1_changeLimit yX1_changeLimit, Cond.code yX1_changeLimit cX1_changeLimit 3 (some .int), Cond.methodLink RX3 47 yX3_settle, Cond.instanceMethod yX3_settle, Cond.selects RX3 yX3_settle yX3_settle, Cond.code yX3_settle cX3_settle 2 (some .int), Cond.methodLink RX3 145 yX2_record, Cond.instanceMethod yX2_record, Cond.selects RX2 yX2_record yX2_record, Cond.code yX2_record cX2_record 2 none, Cond.methodLink RX2 25 yX1_takeOver, Cond.methodLink RL 17 yX4_setLimit]
def wsL_law_r6 : List Cond := [Cond.instanceMethod yX4_setLimit, Cond.selects RX4 yX4_setLimit yX4_setLimit, Cond.code yX4_setLimit cX4_setLimit 3 (some .int), Cond.methodLink RX4 32 yX4_in, Cond.static yX4_in, Cond.code yX4_in cX4_in 3 (some .boolean), Cond.methodLink RX4 84 yX4_record, Cond.instanceMethod yX4_record, Cond.selects RX4 yX4_record yX4_record, Cond.code yX4_record cX4_record 3 none, Cond.fieldLink RX4 28 "LentSectorsModel" "kept" "I", Cond.methodLink RL 18 yX3_setHead, Cond.instanceMethod yX3_setHead, Cond.selects RX3 yX3_setHead yX3_setHead, Cond.code yX3_setHead cX3_setHead 4 (some .int), Cond.methodLink RX3 50 yX3_isHead, Cond.static yX3_isHead, Cond.code yX3_isHead cX3_isHead 1 (some .boolean), Cond.methodLink RX3 54 yX1_changeAgeing, Cond.instanceMethod yX1_changeAgeing, Cond.selects RX1 yX1_changeAgeing yX1_changeAgeing, Cond.code yX1_changeAgeing cX1_changeAgeing 4 (some .int), Cond.methodLink RX3 58 yX1_changeSpares, Cond.instanceMethod yX1_changeSpares]
def wsL_law_r7 : List Cond := [Cond.selects RX1 yX1_changeSpares yX1_changeSpares, Cond.code yX1_changeSpares cX1_changeSpares 4 (some .int), Cond.methodLink RX1 105 yX1_wearOf, Cond.instanceMethod yX1_wearOf, Cond.selects RX1 yX1_wearOf yX1_wearOf, Cond.code yX1_wearOf cX1_wearOf 4 (some .int), Cond.methodLink RL 22 yX4_setHead, Cond.instanceMethod yX4_setHead, Cond.selects RX4 yX4_setHead yX4_setHead, Cond.code yX4_setHead cX4_setHead 6 (some .int), Cond.methodLink RX4 88 yX4_isHead, Cond.static yX4_isHead, Cond.code yX4_isHead cX4_isHead 1 (some .boolean), Cond.methodLink RX4 91 yX4_wear, Cond.instanceMethod yX4_wear, Cond.selects RX4 yX4_wear yX4_wear, Cond.code yX4_wear cX4_wear 4 (some .int), Cond.methodLink RL 23 yX3_read, Cond.instanceMethod yX3_read, Cond.selects RX3 yX3_read yX3_read, Cond.code yX3_read cX3_read 2 (some .int), Cond.methodLink RX3 61 yX1_readAt, Cond.instanceMethod yX1_readAt, Cond.selects RX1 yX1_readAt yX1_readAt]
def wsL_law_r8 : List Cond := [Cond.code yX1_readAt cX1_readAt 2 (some .int), Cond.methodLink RX1 83 yX1_isLost, Cond.instanceMethod yX1_isLost, Cond.selects RX1 yX1_isLost yX1_isLost, Cond.code yX1_isLost cX1_isLost 2 (some .boolean), Cond.methodLink RX1 108 yX1_goTo, Cond.instanceMethod yX1_goTo, Cond.selects RX1 yX1_goTo yX1_goTo, Cond.code yX1_goTo cX1_goTo 2 none, Cond.methodLink RX1 145 yX1_stepsTo, Cond.instanceMethod yX1_stepsTo, Cond.selects RX1 yX1_stepsTo yX1_stepsTo, Cond.code yX1_stepsTo cX1_stepsTo 3 (some .int), Cond.static yX3_stepsBetween, Cond.code yX3_stepsBetween cX3_stepsBetween 3 (some .int), Cond.methodLink RX3 151 Lib.Math.abs.name, Cond.static Lib.Math.abs.name, Cond.initialized "java/lang/Math", Cond.code Lib.Math.abs.name Lib.Math.abs.code 1 (some .int), Cond.methodLink RX3 148 yX3_placeOf, Cond.methodLink RX3 156 yX3_headOf, Cond.methodLink RX1 112 yX1_wearByReading, Cond.instanceMethod yX1_wearByReading, Cond.selects RX1 yX1_wearByReading yX1_wearByReading]
def wsL_law_r9 : List Cond := [Cond.code yX1_wearByReading cX1_wearByReading 2 none, Cond.methodLink RX1 115 yX1_lookAt, Cond.instanceMethod yX1_lookAt, Cond.selects RX1 yX1_lookAt yX1_lookAt, Cond.code yX1_lookAt cX1_lookAt 4 none, Cond.methodLink RX1 86 yX1_isGood, Cond.instanceMethod yX1_isGood, Cond.selects RX1 yX1_isGood yX1_isGood, Cond.code yX1_isGood cX1_isGood 2 (some .boolean), Cond.methodLink RX1 118 yX1_lendableTo, Cond.instanceMethod yX1_lendableTo, Cond.selects RX1 yX1_lendableTo yX1_lendableTo, Cond.code yX1_lendableTo cX1_lendableTo 7 (some .int), Cond.methodLink RX1 95 yX1_firstFreeOf, Cond.instanceMethod yX1_firstFreeOf, Cond.selects RX1 yX1_firstFreeOf yX1_firstFreeOf, Cond.code yX1_firstFreeOf cX1_firstFreeOf 3 (some .int), Cond.methodLink RX1 92 yX1_isFree, Cond.instanceMethod yX1_isFree, Cond.selects RX1 yX1_isFree yX1_isFree, Cond.code yX1_isFree cX1_isFree 4 (some .boolean), Cond.methodLink RX1 98 yX1_freeOf, Cond.instanceMethod yX1_freeOf, Cond.selects RX1 yX1_freeOf yX1_freeOf]
def wsL_law_r10 : List Cond := [Cond.code yX1_freeOf cX1_freeOf 4 (some .int), Cond.methodLink RX1 121 yX1_lend, Cond.instanceMethod yX1_lend, Cond.selects RX1 yX1_lend yX1_lend, Cond.code yX1_lend cX1_lend 3 none, Cond.methodLink RX1 142 yX1_release, Cond.instanceMethod yX1_release, Cond.selects RX1 yX1_release yX1_release, Cond.code yX1_release cX1_release 2 none, Cond.methodLink RX1 136 yX1_moveTo, Cond.instanceMethod yX1_moveTo, Cond.selects RX1 yX1_moveTo yX1_moveTo, Cond.code yX1_moveTo cX1_moveTo 2 none, Cond.methodLink RX1 124 yX1_wearByWriting, Cond.instanceMethod yX1_wearByWriting, Cond.selects RX1 yX1_wearByWriting yX1_wearByWriting, Cond.code yX1_wearByWriting cX1_wearByWriting 2 none, Cond.methodLink RX1 89 yX1_isBad, Cond.instanceMethod yX1_isBad, Cond.selects RX1 yX1_isBad yX1_isBad, Cond.code yX1_isBad cX1_isBad 2 (some .boolean), Cond.methodLink RX1 139 yX1_lose, Cond.instanceMethod yX1_lose, Cond.selects RX1 yX1_lose yX1_lose]
def wsL_law_r11 : List Cond := [Cond.code yX1_lose cX1_lose 2 none, Cond.methodLink RL 26 yX4_read, Cond.instanceMethod yX4_read, Cond.selects RX4 yX4_read yX4_read, Cond.code yX4_read cX4_read 3 (some .int), Cond.methodLink RX4 94 yX4_copies, Cond.static yX4_copies, Cond.code yX4_copies cX4_copies 3 none, Cond.methodLink RX4 98 yX4_reads, Cond.instanceMethod yX4_reads, Cond.selects RX4 yX4_reads yX4_reads, Cond.code yX4_reads cX4_reads 3 (some .int), Cond.methodLink RX4 40 yX4_isAddress, Cond.instanceMethod yX4_isAddress, Cond.selects RX4 yX4_isAddress yX4_isAddress, Cond.code yX4_isAddress cX4_isAddress 2 (some .boolean), Cond.methodLink RX4 36 yX4_isSpare, Cond.instanceMethod yX4_isSpare, Cond.selects RX4 yX4_isSpare yX4_isSpare, Cond.code yX4_isSpare cX4_isSpare 2 (some .boolean), Cond.methodLink RX4 75 yX4_isLost, Cond.instanceMethod yX4_isLost, Cond.selects RX4 yX4_isLost yX4_isLost, Cond.code yX4_isLost cX4_isLost 2 (some .boolean)]
def wsL_law_r12 : List Cond := [Cond.methodLink RX4 78 yX4_goesTo, Cond.instanceMethod yX4_goesTo, Cond.selects RX4 yX4_goesTo yX4_goesTo, Cond.code yX4_goesTo cX4_goesTo 2 none, Cond.methodLink RX4 64 yX4_goes, Cond.instanceMethod yX4_goes, Cond.selects RX4 yX4_goes yX4_goes, Cond.code yX4_goes cX4_goes 2 none, Cond.methodLink RX4 60 yX4_apart, Cond.static yX4_apart, Cond.code yX4_apart cX4_apart 4 (some .int), Cond.methodLink RX4 71 yX4_wears, Cond.instanceMethod yX4_wears, Cond.selects RX4 yX4_wears yX4_wears, Cond.code yX4_wears cX4_wears 4 none, Cond.constant RX4 59 (99999), Cond.methodLink RX4 81 yX4_looks, Cond.instanceMethod yX4_looks, Cond.selects RX4 yX4_looks yX4_looks, Cond.code yX4_looks cX4_looks 4 none, Cond.methodLink RX4 43 yX4_state, Cond.instanceMethod yX4_state, Cond.selects RX4 yX4_state yX4_state, Cond.code yX4_state cX4_state 3 (some .int)]
def wsL_law_r13 : List Cond := [Cond.methodLink RX4 68 yX4_lends, Cond.instanceMethod yX4_lends, Cond.selects RX4 yX4_lends yX4_lends, Cond.code yX4_lends cX4_lends 5 (some .int), Cond.methodLink RX4 53 yX4_firstFree, Cond.instanceMethod yX4_firstFree, Cond.selects RX4 yX4_firstFree yX4_firstFree, Cond.code yX4_firstFree cX4_firstFree 3 (some .int), Cond.methodLink RX4 50 yX4_isFree, Cond.instanceMethod yX4_isFree, Cond.selects RX4 yX4_isFree yX4_isFree, Cond.code yX4_isFree cX4_isFree 2 (some .boolean), Cond.methodLink RX4 47 yX4_serves, Cond.instanceMethod yX4_serves, Cond.selects RX4 yX4_serves yX4_serves, Cond.code yX4_serves cX4_serves 3 (some .int), Cond.methodLink RX4 56 yX4_frees, Cond.instanceMethod yX4_frees, Cond.selects RX4 yX4_frees yX4_frees, Cond.code yX4_frees cX4_frees 4 (some .int), Cond.methodLink RL 27 yX3_write, Cond.instanceMethod yX3_write, Cond.selects RX3 yX3_write yX3_write, Cond.code yX3_write cX3_write 3 (some .int)]
def wsL_law_r14 : List Cond := [Cond.methodLink RX3 64 yX1_writeAt, Cond.instanceMethod yX1_writeAt, Cond.selects RX1 yX1_writeAt yX1_writeAt, Cond.code yX1_writeAt cX1_writeAt 4 (some .int), Cond.methodLink RL 31 yX4_write, Cond.instanceMethod yX4_write, Cond.selects RX4 yX4_write yX4_write, Cond.code yX4_write cX4_write 4 (some .int), Cond.methodLink RX4 101 yX4_writes, Cond.instanceMethod yX4_writes, Cond.selects RX4 yX4_writes yX4_writes, Cond.code yX4_writes cX4_writes 4 (some .int), Cond.methodLink RL 32 yX3_copy, Cond.instanceMethod yX3_copy, Cond.selects RX3 yX3_copy yX3_copy, Cond.code yX3_copy cX3_copy 5 (some .int), Cond.methodLink RX3 67 yX1_isAddress, Cond.methodLink RX3 70 yX1_copyRow, Cond.instanceMethod yX1_copyRow, Cond.selects RX1 yX1_copyRow yX1_copyRow, Cond.code yX1_copyRow cX1_copyRow 6 (some .int), Cond.methodLink RX1 127 yX1_readAt, Cond.methodLink RX1 130 yX1_writeAt, Cond.methodLink RL 36 yX4_copy]
def wsL_law_r15 : List Cond := [Cond.instanceMethod yX4_copy, Cond.selects RX4 yX4_copy yX4_copy, Cond.code yX4_copy cX4_copy 5 (some .int), Cond.methodLink RX4 105 yX4_copiesOne, Cond.instanceMethod yX4_copiesOne, Cond.selects RX4 yX4_copiesOne yX4_copiesOne, Cond.code yX4_copiesOne cX4_copiesOne 4 (some .boolean), Cond.methodLink RL 37 yX3_test, Cond.instanceMethod yX3_test, Cond.selects RX3 yX3_test yX3_test, Cond.code yX3_test cX3_test 2 (some .int), Cond.methodLink RX3 74 yX1_testHead, Cond.instanceMethod yX1_testHead, Cond.selects RX1 yX1_testHead yX1_testHead, Cond.code yX1_testHead cX1_testHead 4 (some .int), Cond.methodLink RX1 133 yX1_lostOf, Cond.instanceMethod yX1_lostOf, Cond.selects RX1 yX1_lostOf yX1_lostOf, Cond.code yX1_lostOf cX1_lostOf 4 (some .int), Cond.methodLink RL 40 yX4_test, Cond.instanceMethod yX4_test, Cond.selects RX4 yX4_test yX4_test, Cond.code yX4_test cX4_test 5 (some .int), Cond.methodLink RX4 109 yX4_lost]
def wsL_law_r16 : List Cond := [Cond.instanceMethod yX4_lost, Cond.selects RX4 yX4_lost yX4_lost, Cond.code yX4_lost cX4_lost 5 (some .int), Cond.methodLink RL 41 yX3_perform, Cond.instanceMethod yX3_perform, Cond.selects RX3 yX3_perform yX3_perform, Cond.code yX3_perform cX3_perform 6 (some .int), Cond.methodLink RX3 77 yX0_parse, Cond.instanceMethod yX0_parse, Cond.selects RX0 yX0_parse yX0_parse, Cond.code yX0_parse cX0_parse 2 (some .int), Cond.methodLink RX0 31 yX0_takeCommand, Cond.instanceMethod yX0_takeCommand, Cond.selects RX0 yX0_takeCommand yX0_takeCommand, Cond.code yX0_takeCommand cX0_takeCommand 4 (some .boolean), Cond.methodLink RX0 39 yX0_take, Cond.instanceMethod yX0_take, Cond.selects RX0 yX0_take yX0_take, Cond.code yX0_take cX0_take 2 (some .boolean), Cond.methodLink RX0 35 yX0_peek, Cond.instanceMethod yX0_peek, Cond.selects RX0 yX0_peek yX0_peek, Cond.code yX0_peek cX0_peek 1 (some .int), Cond.methodLink RX0 43 yX0_takeNumber]
def wsL_law_r17 : List Cond := [Cond.instanceMethod yX0_takeNumber, Cond.selects RX0 yX0_takeNumber yX0_takeNumber, Cond.code yX0_takeNumber cX0_takeNumber 4 (some .int), Cond.methodLink RX0 51 yX0_digitAt, Cond.instanceMethod yX0_digitAt, Cond.selects RX0 yX0_digitAt yX0_digitAt, Cond.code yX0_digitAt cX0_digitAt 2 (some .int), Cond.methodLink RX0 47 yX0_addCommand, Cond.instanceMethod yX0_addCommand, Cond.selects RX0 yX0_addCommand yX0_addCommand, Cond.code yX0_addCommand cX0_addCommand 3 none, Cond.methodLink RX3 81 yX0_commandCount, Cond.instanceMethod yX0_commandCount, Cond.selects RX0 yX0_commandCount yX0_commandCount, Cond.code yX0_commandCount cX0_commandCount 1 (some .int), Cond.methodLink RX3 84 yX0_commandSector, Cond.instanceMethod yX0_commandSector, Cond.selects RX0 yX0_commandSector yX0_commandSector, Cond.code yX0_commandSector cX0_commandSector 2 (some .int), Cond.methodLink RX3 87 yX0_commandValue, Cond.instanceMethod yX0_commandValue, Cond.selects RX0 yX0_commandValue yX0_commandValue, Cond.code yX0_commandValue cX0_commandValue 2 (some .int), Cond.methodLink RL 45 yX4_perform]
def wsL_law_r18 : List Cond := [Cond.instanceMethod yX4_perform, Cond.selects RX4 yX4_perform yX4_perform, Cond.code yX4_perform cX4_perform 4 (some .int), Cond.fieldLink RX4 115 "LentSectorsModel" "at" "I", Cond.methodLink RX4 131 yX4_commands, Cond.instanceMethod yX4_commands, Cond.selects RX4 yX4_commands yX4_commands, Cond.code yX4_commands cX4_commands 2 (some .int), Cond.fieldLink RX4 118 "LentSectorsModel" "length" "I", Cond.methodLink RX4 127 yX4_command, Cond.instanceMethod yX4_command, Cond.selects RX4 yX4_command yX4_command, Cond.code yX4_command cX4_command 5 (some .int), Cond.methodLink RX4 121 yX4_stands, Cond.instanceMethod yX4_stands, Cond.selects RX4 yX4_stands yX4_stands, Cond.code yX4_stands cX4_stands 3 (some .boolean), Cond.methodLink RX4 124 yX4_number, Cond.instanceMethod yX4_number, Cond.selects RX4 yX4_number yX4_number, Cond.code yX4_number cX4_number 3 (some .int), Cond.methodLink RL 46 yX3_giveBack, Cond.instanceMethod yX3_giveBack, Cond.selects RX3 yX3_giveBack yX3_giveBack]
def wsL_law_r19 : List Cond := [Cond.code yX3_giveBack cX3_giveBack 2 (some .int), Cond.methodLink RX3 90 yX1_giveBackAt, Cond.instanceMethod yX1_giveBackAt, Cond.selects RX1 yX1_giveBackAt yX1_giveBackAt, Cond.code yX1_giveBackAt cX1_giveBackAt 3 (some .int), Cond.methodLink RX1 148 yX1_isLongWay, Cond.instanceMethod yX1_isLongWay, Cond.selects RX1 yX1_isLongWay yX1_isLongWay, Cond.code yX1_isLongWay cX1_isLongWay 2 (some .boolean), Cond.methodLink RL 49 yX4_giveBack, Cond.instanceMethod yX4_giveBack, Cond.selects RX4 yX4_giveBack yX4_giveBack, Cond.code yX4_giveBack cX4_giveBack 3 (some .int), Cond.methodLink RL 50 yX3_giveUp, Cond.instanceMethod yX3_giveUp, Cond.selects RX3 yX3_giveUp yX3_giveUp, Cond.code yX3_giveUp cX3_giveUp 2 (some .int), Cond.methodLink RX3 93 yX1_othersAreGivenUp, Cond.instanceMethod yX1_othersAreGivenUp, Cond.selects RX1 yX1_othersAreGivenUp yX1_othersAreGivenUp, Cond.code yX1_othersAreGivenUp cX1_othersAreGivenUp 3 (some .boolean), Cond.methodLink RX3 96 yX1_isGivenUp, Cond.instanceMethod yX1_isGivenUp, Cond.selects RX1 yX1_isGivenUp yX1_isGivenUp]
def wsL_law_r20 : List Cond := [Cond.code yX1_isGivenUp cX1_isGivenUp 2 (some .boolean), Cond.methodLink RX3 99 yX1_vacate, Cond.instanceMethod yX1_vacate, Cond.selects RX1 yX1_vacate yX1_vacate, Cond.code yX1_vacate cX1_vacate 4 (some .int), Cond.methodLink RX1 151 yX1_moveAway, Cond.instanceMethod yX1_moveAway, Cond.selects RX1 yX1_moveAway yX1_moveAway, Cond.code yX1_moveAway cX1_moveAway 3 none, Cond.methodLink RL 53 yX4_giveUp, Cond.instanceMethod yX4_giveUp, Cond.selects RX4 yX4_giveUp yX4_giveUp, Cond.code yX4_giveUp cX4_giveUp 3 (some .int), Cond.methodLink RX4 112 yX4_givesUp, Cond.instanceMethod yX4_givesUp, Cond.selects RX4 yX4_givesUp yX4_givesUp, Cond.code yX4_givesUp cX4_givesUp 5 (some .int), Cond.methodLink RL 54 yX3_type, Cond.instanceMethod yX3_type, Cond.selects RX3 yX3_type yX3_type, Cond.code yX3_type cX3_type 2 (some .int), Cond.methodLink RX3 102 yX0_append, Cond.instanceMethod yX0_append, Cond.selects RX0 yX0_append yX0_append]
def wsL_law_r21 : List Cond := [Cond.code yX0_append cX0_append 2 (some .int), Cond.methodLink RL 58 yX4_type, Cond.instanceMethod yX4_type, Cond.selects RX4 yX4_type yX4_type, Cond.code yX4_type cX4_type 2 (some .int), Cond.methodLink RL 59 yX3_clearText, Cond.instanceMethod yX3_clearText, Cond.selects RX3 yX3_clearText yX3_clearText, Cond.code yX3_clearText cX3_clearText 1 (some .int), Cond.methodLink RX3 105 yX0_empty, Cond.instanceMethod yX0_empty, Cond.selects RX0 yX0_empty yX0_empty, Cond.code yX0_empty cX0_empty 2 (some .int), Cond.methodLink RL 62 yX4_clearText, Cond.instanceMethod yX4_clearText, Cond.selects RX4 yX4_clearText yX4_clearText, Cond.code yX4_clearText cX4_clearText 2 (some .int), Cond.methodLink RL 63 yX3_undo, Cond.instanceMethod yX3_undo, Cond.selects RX3 yX3_undo yX3_undo, Cond.code yX3_undo cX3_undo 1 (some .int), Cond.methodLink RX3 108 yX2_states, Cond.instanceMethod yX2_states, Cond.selects RX2 yX2_states yX2_states]
def wsL_law_r22 : List Cond := [Cond.code yX2_states cX2_states 1 (some .int), Cond.methodLink RX3 111 yX2_takeBack, Cond.instanceMethod yX2_takeBack, Cond.selects RX2 yX2_takeBack yX2_takeBack, Cond.code yX2_takeBack cX2_takeBack 2 none, Cond.methodLink RL 66 yX4_undo, Cond.instanceMethod yX4_undo, Cond.selects RX4 yX4_undo yX4_undo, Cond.code yX4_undo cX4_undo 2 (some .int), Cond.methodLink RL 67 yX3_keep, Cond.instanceMethod yX3_keep, Cond.selects RX3 yX3_keep yX3_keep, Cond.code yX3_keep cX3_keep 1 (some .int), Cond.methodLink RX3 118 yX1_stepsSoFar, Cond.instanceMethod yX1_stepsSoFar, Cond.selects RX1 yX1_stepsSoFar yX1_stepsSoFar, Cond.code yX1_stepsSoFar cX1_stepsSoFar 1 (some .int), Cond.methodLink RL 70 yX4_keep, Cond.instanceMethod yX4_keep, Cond.selects RX4 yX4_keep yX4_keep, Cond.code yX4_keep cX4_keep 1 (some .int), Cond.fieldLink RX4 135 "LentSectorsModel" "isFilled" "Z", Cond.methodLink RL 71 yX3_restore, Cond.instanceMethod yX3_restore]
def wsL_law_r23 : List Cond := [Cond.selects RX3 yX3_restore yX3_restore, Cond.code yX3_restore cX3_restore 1 (some .int), Cond.methodLink RL 74 yX4_restore, Cond.instanceMethod yX4_restore, Cond.selects RX4 yX4_restore yX4_restore, Cond.code yX4_restore cX4_restore 1 (some .int), Cond.methodLink RL 75 yX3_address, Cond.instanceMethod yX3_address, Cond.selects RX3 yX3_address yX3_address, Cond.code yX3_address cX3_address 3 (some .int), Cond.methodLink RX3 121 yX1_tellAddress, Cond.instanceMethod yX1_tellAddress, Cond.selects RX1 yX1_tellAddress yX1_tellAddress, Cond.code yX1_tellAddress cX1_tellAddress 3 (some .int), Cond.methodLink RL 78 yX4_address, Cond.instanceMethod yX4_address, Cond.selects RX4 yX4_address yX4_address, Cond.code yX4_address cX4_address 4 (some .int), Cond.methodLink RX4 139 yX4_steps, Cond.instanceMethod yX4_steps, Cond.selects RX4 yX4_steps yX4_steps, Cond.code yX4_steps cX4_steps 5 (some .int), Cond.methodLink RL 79 yX3_sector, Cond.instanceMethod yX3_sector]
def wsL_law_r24 : List Cond := [Cond.selects RX3 yX3_sector yX3_sector, Cond.code yX3_sector cX3_sector 3 (some .int), Cond.methodLink RX3 124 yX3_isSector, Cond.methodLink RX3 127 yX1_tellSector, Cond.instanceMethod yX1_tellSector, Cond.selects RX1 yX1_tellSector yX1_tellSector, Cond.code yX1_tellSector cX1_tellSector 3 (some .int), Cond.methodLink RX1 154 yX1_gradeOf, Cond.instanceMethod yX1_gradeOf, Cond.selects RX1 yX1_gradeOf yX1_gradeOf, Cond.code yX1_gradeOf cX1_gradeOf 2 (some .int), Cond.methodLink RL 82 yX4_sector, Cond.instanceMethod yX4_sector, Cond.selects RX4 yX4_sector yX4_sector, Cond.code yX4_sector cX4_sector 3 (some .int), Cond.methodLink RL 83 yX3_head, Cond.instanceMethod yX3_head, Cond.selects RX3 yX3_head yX3_head, Cond.code yX3_head cX3_head 3 (some .int), Cond.methodLink RX3 130 yX1_tellHead, Cond.instanceMethod yX1_tellHead, Cond.selects RX1 yX1_tellHead yX1_tellHead, Cond.code yX1_tellHead cX1_tellHead 3 (some .int), Cond.methodLink RX1 157 yX1_leadingElsewhere]
def wsL_law_r25 : List Cond := [Cond.instanceMethod yX1_leadingElsewhere, Cond.selects RX1 yX1_leadingElsewhere yX1_leadingElsewhere, Cond.code yX1_leadingElsewhere cX1_leadingElsewhere 6 (some .int), Cond.methodLink RX1 161 yX1_gradedOf, Cond.instanceMethod yX1_gradedOf, Cond.selects RX1 yX1_gradedOf yX1_gradedOf, Cond.code yX1_gradedOf cX1_gradedOf 5 (some .int), Cond.methodLink RL 86 yX4_head, Cond.instanceMethod yX4_head, Cond.selects RX4 yX4_head yX4_head, Cond.code yX4_head cX4_head 3 (some .int), Cond.methodLink RX4 142 yX4_across, Cond.instanceMethod yX4_across, Cond.selects RX4 yX4_across yX4_across, Cond.code yX4_across cX4_across 6 (some .int), Cond.methodLink RX4 145 yX4_inState, Cond.instanceMethod yX4_inState, Cond.selects RX4 yX4_inState yX4_inState, Cond.code yX4_inState cX4_inState 5 (some .int), Cond.methodLink RL 87 yX3_readsLeft, Cond.instanceMethod yX3_readsLeft, Cond.selects RX3 yX3_readsLeft yX3_readsLeft, Cond.code yX3_readsLeft cX3_readsLeft 2 (some .int), Cond.methodLink RX3 133 yX1_readsUntilChange]
def wsL_law_r26 : List Cond := [Cond.instanceMethod yX1_readsUntilChange, Cond.selects RX1 yX1_readsUntilChange yX1_readsUntilChange, Cond.code yX1_readsUntilChange cX1_readsUntilChange 6 (some .int), Cond.methodLink RL 90 yX4_readsLeft, Cond.instanceMethod yX4_readsLeft, Cond.selects RX4 yX4_readsLeft yX4_readsLeft, Cond.code yX4_readsLeft cX4_readsLeft 5 (some .int), Cond.methodLink RL 91 yX3_wouldLose, Cond.instanceMethod yX3_wouldLose, Cond.selects RX3 yX3_wouldLose yX3_wouldLose, Cond.code yX3_wouldLose cX3_wouldLose 2 (some .int), Cond.methodLink RL 94 yX4_wouldLose, Cond.instanceMethod yX4_wouldLose, Cond.selects RX4 yX4_wouldLose yX4_wouldLose, Cond.code yX4_wouldLose cX4_wouldLose 3 (some .int), Cond.methodLink RL 95 yX3_worst, Cond.instanceMethod yX3_worst, Cond.selects RX3 yX3_worst yX3_worst, Cond.code yX3_worst cX3_worst 2 (some .int), Cond.methodLink RX3 136 yX1_addressOfRank, Cond.instanceMethod yX1_addressOfRank, Cond.selects RX1 yX1_addressOfRank yX1_addressOfRank, Cond.code yX1_addressOfRank cX1_addressOfRank 3 (some .int), Cond.methodLink RX1 171 yX1_hasRank]
def wsL_law_r27 : List Cond := [Cond.instanceMethod yX1_hasRank, Cond.selects RX1 yX1_hasRank yX1_hasRank, Cond.code yX1_hasRank cX1_hasRank 2 (some .boolean), Cond.methodLink RX1 174 yX1_rankOf, Cond.instanceMethod yX1_rankOf, Cond.selects RX1 yX1_rankOf yX1_rankOf, Cond.code yX1_rankOf cX1_rankOf 6 (some .int), Cond.methodLink RL 98 yX4_worst, Cond.instanceMethod yX4_worst, Cond.selects RX4 yX4_worst yX4_worst, Cond.code yX4_worst cX4_worst 3 (some .int), Cond.methodLink RX4 148 yX4_ahead, Cond.instanceMethod yX4_ahead, Cond.selects RX4 yX4_ahead yX4_ahead, Cond.code yX4_ahead cX4_ahead 6 (some .int), Cond.methodLink RL 99 yX3_count, Cond.instanceMethod yX3_count, Cond.selects RX3 yX3_count yX3_count, Cond.code yX3_count cX3_count 2 (some .int), Cond.methodLink RX3 139 yX0_length, Cond.instanceMethod yX0_length, Cond.selects RX0 yX0_length yX0_length, Cond.code yX0_length cX0_length 1 (some .int), Cond.methodLink RX3 142 yX1_tellWhole]
def wsL_law_r28 : List Cond := [Cond.instanceMethod yX1_tellWhole, Cond.selects RX1 yX1_tellWhole yX1_tellWhole, Cond.code yX1_tellWhole cX1_tellWhole 2 (some .int), Cond.methodLink RX1 164 yX1_overHeads, Cond.instanceMethod yX1_overHeads, Cond.selects RX1 yX1_overHeads yX1_overHeads, Cond.code yX1_overHeads cX1_overHeads 4 (some .int), Cond.methodLink RX1 177 yX1_tellHead, Cond.methodLink RX1 167 yX1_longWayCount, Cond.instanceMethod yX1_longWayCount, Cond.selects RX1 yX1_longWayCount yX1_longWayCount, Cond.code yX1_longWayCount cX1_longWayCount 3 (some .int), Cond.methodLink RL 102 yX4_count, Cond.instanceMethod yX4_count, Cond.selects RX4 yX4_count yX4_count, Cond.code yX4_count cX4_count 5 (some .int)]
def wsL_law : List Cond := (wsL_law_r1 ++ (wsL_law_r2 ++ (wsL_law_r3 ++ (wsL_law_r4 ++ (wsL_law_r5 ++ (wsL_law_r6 ++ (wsL_law_r7 ++ (wsL_law_r8 ++ (wsL_law_r9 ++ (wsL_law_r10 ++ (wsL_law_r11 ++ (wsL_law_r12 ++ (wsL_law_r13 ++ (wsL_law_r14 ++ (wsL_law_r15 ++ (wsL_law_r16 ++ (wsL_law_r17 ++ (wsL_law_r18 ++ (wsL_law_r19 ++ (wsL_law_r20 ++ (wsL_law_r21 ++ (wsL_law_r22 ++ (wsL_law_r23 ++ (wsL_law_r24 ++ (wsL_law_r25 ++ (wsL_law_r26 ++ (wsL_law_r27 ++ wsL_law_r28))))))))))))))))))))))))))) ++ wsX30 ++ wsX40 ++ wsX10 ++ wsX20 ++ wsX00 ++ ([] : List Cond)
set_option maxRecDepth 20000 in
theorem inlr_1 : ∀ w ∈ wsL_law_r1, w ∈ lw_tbl := fun w h => (goodIn_p wsL_law_r1 [76, 79] rfl (by decide +kernel) w h).1
set_option maxRecDepth 20000 in
theorem inlr_2 : ∀ w ∈ wsL_law_r2, w ∈ lw_tbl := fun w h => (goodIn_p wsL_law_r2 [84] rfl (by decide +kernel) w h).1
set_option maxRecDepth 20000 in
theorem inlr_3 : ∀ w ∈ wsL_law_r3, w ∈ lw_tbl := fun w h => (goodIn_p wsL_law_r3 [89, 93, 96, 99, 102, 155] rfl (by decide +kernel) w h).1
set_option maxRecDepth 20000 in
theorem inlr_4 : ∀ w ∈ wsL_law_r4, w ∈ lw_tbl := fun w h => (goodIn_p wsL_law_r4 [174, 578, 217] rfl (by decide +kernel) w h).1
set_option maxRecDepth 20000 in
theorem inlr_5 : ∀ w ∈ wsL_law_r5, w ∈ lw_tbl := fun w h => (goodIn_p wsL_law_r5 [221, 225, 232, 236, 240] rfl (by decide +kernel) w h).1
set_option maxRecDepth 20000 in
theorem inlr_6 : ∀ w ∈ wsL_law_r6, w ∈ lw_tbl := fun w h => (goodIn_p wsL_law_r6 [614, 617, 621, 245, 248, 252] rfl (by decide +kernel) w h).1
set_option maxRecDepth 20000 in
theorem inlr_7 : ∀ w ∈ wsL_law_r7, w ∈ lw_tbl := fun w h => (goodIn_p wsL_law_r7 [256, 260, 625, 628, 632, 264] rfl (by decide +kernel) w h).1
set_option maxRecDepth 20000 in
theorem inlr_8 : ∀ w ∈ wsL_law_r8, w ∈ lw_tbl := fun w h => (goodIn_p wsL_law_r8 [268, 272, 276, 280, 283, 287] rfl (by decide +kernel) w h).1
set_option maxRecDepth 20000 in
theorem inlr_9 : ∀ w ∈ wsL_law_r9, w ∈ lw_tbl := fun w h => (goodIn_p wsL_law_r9 [292, 296, 300, 304, 308, 312] rfl (by decide +kernel) w h).1
set_option maxRecDepth 20000 in
theorem inlr_10 : ∀ w ∈ wsL_law_r10, w ∈ lw_tbl := fun w h => (goodIn_p wsL_law_r10 [316, 320, 324, 328, 332, 336] rfl (by decide +kernel) w h).1
set_option maxRecDepth 20000 in
theorem inlr_11 : ∀ w ∈ wsL_law_r11, w ∈ lw_tbl := fun w h => (goodIn_p wsL_law_r11 [340, 636, 639, 643, 647, 651, 655] rfl (by decide +kernel) w h).1
set_option maxRecDepth 20000 in
theorem inlr_12 : ∀ w ∈ wsL_law_r12, w ∈ lw_tbl := fun w h => (goodIn_p wsL_law_r12 [659, 663, 666, 670, 675, 679] rfl (by decide +kernel) w h).1
set_option maxRecDepth 20000 in
theorem inlr_13 : ∀ w ∈ wsL_law_r13, w ∈ lw_tbl := fun w h => (goodIn_p wsL_law_r13 [683, 687, 691, 695, 699, 344] rfl (by decide +kernel) w h).1
set_option maxRecDepth 20000 in
theorem inlr_14 : ∀ w ∈ wsL_law_r14, w ∈ lw_tbl := fun w h => (goodIn_p wsL_law_r14 [348, 703, 707, 352, 357] rfl (by decide +kernel) w h).1
set_option maxRecDepth 20000 in
theorem inlr_15 : ∀ w ∈ wsL_law_r15, w ∈ lw_tbl := fun w h => (goodIn_p wsL_law_r15 [711, 715, 363, 367, 371, 719] rfl (by decide +kernel) w h).1
set_option maxRecDepth 20000 in
theorem inlr_16 : ∀ w ∈ wsL_law_r16, w ∈ lw_tbl := fun w h => (goodIn_p wsL_law_r16 [723, 375, 379, 383, 387, 391] rfl (by decide +kernel) w h).1
set_option maxRecDepth 20000 in
theorem inlr_17 : ∀ w ∈ wsL_law_r17, w ∈ lw_tbl := fun w h => (goodIn_p wsL_law_r17 [395, 399, 403, 407, 411, 415] rfl (by decide +kernel) w h).1
set_option maxRecDepth 20000 in
theorem inlr_18 : ∀ w ∈ wsL_law_r18, w ∈ lw_tbl := fun w h => (goodIn_p wsL_law_r18 [739, 743, 747, 751, 755] rfl (by decide +kernel) w h).1
set_option maxRecDepth 20000 in
theorem inlr_19 : ∀ w ∈ wsL_law_r19, w ∈ lw_tbl := fun w h => (goodIn_p wsL_law_r19 [419, 423, 427, 727, 431, 435] rfl (by decide +kernel) w h).1
set_option maxRecDepth 20000 in
theorem inlr_20 : ∀ w ∈ wsL_law_r20, w ∈ lw_tbl := fun w h => (goodIn_p wsL_law_r20 [439, 443, 447, 731, 735, 451] rfl (by decide +kernel) w h).1
set_option maxRecDepth 20000 in
theorem inlr_21 : ∀ w ∈ wsL_law_r21, w ∈ lw_tbl := fun w h => (goodIn_p wsL_law_r21 [455, 759, 459, 463, 763, 467] rfl (by decide +kernel) w h).1
set_option maxRecDepth 20000 in
theorem inlr_22 : ∀ w ∈ wsL_law_r22, w ∈ lw_tbl := fun w h => (goodIn_p wsL_law_r22 [471, 475, 767, 479, 483, 771] rfl (by decide +kernel) w h).1
set_option maxRecDepth 20000 in
theorem inlr_23 : ∀ w ∈ wsL_law_r23, w ∈ lw_tbl := fun w h => (goodIn_p wsL_law_r23 [487, 775, 491, 495, 779, 783] rfl (by decide +kernel) w h).1
set_option maxRecDepth 20000 in
theorem inlr_24 : ∀ w ∈ wsL_law_r24, w ∈ lw_tbl := fun w h => (goodIn_p wsL_law_r24 [499, 504, 508, 787, 512, 516] rfl (by decide +kernel) w h).1
set_option maxRecDepth 20000 in
theorem inlr_25 : ∀ w ∈ wsL_law_r25, w ∈ lw_tbl := fun w h => (goodIn_p wsL_law_r25 [520, 524, 791, 795, 799, 528] rfl (by decide +kernel) w h).1
set_option maxRecDepth 20000 in
theorem inlr_26 : ∀ w ∈ wsL_law_r26, w ∈ lw_tbl := fun w h => (goodIn_p wsL_law_r26 [532, 803, 536, 807, 540, 544] rfl (by decide +kernel) w h).1
set_option maxRecDepth 20000 in
theorem inlr_27 : ∀ w ∈ wsL_law_r27, w ∈ lw_tbl := fun w h => (goodIn_p wsL_law_r27 [548, 552, 811, 815, 556, 560] rfl (by decide +kernel) w h).1
set_option maxRecDepth 20000 in
theorem inlr_28 : ∀ w ∈ wsL_law_r28, w ∈ lw_tbl := fun w h => (goodIn_p wsL_law_r28 [564, 568, 573, 819] rfl (by decide +kernel) w h).1
set_option maxRecDepth 20000 in
theorem inlt_wsX30 : ∀ w ∈ wsX30, w ∈ lw_tbl := fun w h => (goodIn_p wsX30 [] rfl (by decide +kernel) w h).1
set_option maxRecDepth 20000 in
theorem inlt_wsX40 : ∀ w ∈ wsX40, w ∈ lw_tbl := fun w h => (goodIn_p wsX40 [] rfl (by decide +kernel) w h).1
set_option maxRecDepth 20000 in
theorem inlt_wsX10 : ∀ w ∈ wsX10, w ∈ lw_tbl := fun w h => (goodIn_p wsX10 [] rfl (by decide +kernel) w h).1
set_option maxRecDepth 20000 in
theorem inlt_wsX20 : ∀ w ∈ wsX20, w ∈ lw_tbl := fun w h => (goodIn_p wsX20 [] rfl (by decide +kernel) w h).1
set_option maxRecDepth 20000 in
theorem inlt_wsX00 : ∀ w ∈ wsX00, w ∈ lw_tbl := fun w h => (goodIn_p wsX00 [] rfl (by decide +kernel) w h).1
theorem wsL_law_in : ∀ w ∈ wsL_law, w ∈ lw_tbl := List.forall_mem_append.mpr ⟨(List.forall_mem_append.mpr ⟨(List.forall_mem_append.mpr ⟨(List.forall_mem_append.mpr ⟨(List.forall_mem_append.mpr ⟨(List.forall_mem_append.mpr ⟨(List.forall_mem_append.mpr ⟨inlr_1, (List.forall_mem_append.mpr ⟨inlr_2, (List.forall_mem_append.mpr ⟨inlr_3, (List.forall_mem_append.mpr ⟨inlr_4, (List.forall_mem_append.mpr ⟨inlr_5, (List.forall_mem_append.mpr ⟨inlr_6, (List.forall_mem_append.mpr ⟨inlr_7, (List.forall_mem_append.mpr ⟨inlr_8, (List.forall_mem_append.mpr ⟨inlr_9, (List.forall_mem_append.mpr ⟨inlr_10, (List.forall_mem_append.mpr ⟨inlr_11, (List.forall_mem_append.mpr ⟨inlr_12, (List.forall_mem_append.mpr ⟨inlr_13, (List.forall_mem_append.mpr ⟨inlr_14, (List.forall_mem_append.mpr ⟨inlr_15, (List.forall_mem_append.mpr ⟨inlr_16, (List.forall_mem_append.mpr ⟨inlr_17, (List.forall_mem_append.mpr ⟨inlr_18, (List.forall_mem_append.mpr ⟨inlr_19, (List.forall_mem_append.mpr ⟨inlr_20, (List.forall_mem_append.mpr ⟨inlr_21, (List.forall_mem_append.mpr ⟨inlr_22, (List.forall_mem_append.mpr ⟨inlr_23, (List.forall_mem_append.mpr ⟨inlr_24, (List.forall_mem_append.mpr ⟨inlr_25, (List.forall_mem_append.mpr ⟨inlr_26, (List.forall_mem_append.mpr ⟨inlr_27, inlr_28⟩)⟩)⟩)⟩)⟩)⟩)⟩)⟩)⟩)⟩)⟩)⟩)⟩)⟩)⟩)⟩)⟩)⟩)⟩)⟩)⟩)⟩)⟩)⟩)⟩)⟩)⟩), inlt_wsX30⟩), inlt_wsX40⟩), inlt_wsX10⟩), inlt_wsX20⟩), inlt_wsX00⟩), fun _ h => absurd h List.not_mem_nil⟩
theorem inlX0 : ∀ w ∈ wsX00, w ∈ wsL_law := fun _ h => List.mem_append_left _ (List.mem_append_right _ h)
theorem inX0 : ∀ w ∈ wsX00, w ∈ lw_tbl := fun w h => wsL_law_in w (inlX0 w h)
theorem inlX1 : ∀ w ∈ wsX10, w ∈ wsL_law := fun _ h => List.mem_append_left _ (List.mem_append_left _ (List.mem_append_left _ (List.mem_append_right _ h)))
theorem inX1 : ∀ w ∈ wsX10, w ∈ lw_tbl := fun w h => wsL_law_in w (inlX1 w h)
theorem inlX2 : ∀ w ∈ wsX20, w ∈ wsL_law := fun _ h => List.mem_append_left _ (List.mem_append_left _ (List.mem_append_right _ h))
theorem inX2 : ∀ w ∈ wsX20, w ∈ lw_tbl := fun w h => wsL_law_in w (inlX2 w h)
theorem inlX3 : ∀ w ∈ wsX30, w ∈ wsL_law := fun _ h => List.mem_append_left _ (List.mem_append_left _ (List.mem_append_left _ (List.mem_append_left _ (List.mem_append_left _ (List.mem_append_right _ h)))))
theorem inX3 : ∀ w ∈ wsX30, w ∈ lw_tbl := fun w h => wsL_law_in w (inlX3 w h)
theorem inlX4 : ∀ w ∈ wsX40, w ∈ wsL_law := fun _ h => List.mem_append_left _ (List.mem_append_left _ (List.mem_append_left _ (List.mem_append_left _ (List.mem_append_right _ h))))
theorem inX4 : ∀ w ∈ wsX40, w ∈ lw_tbl := fun w h => wsL_law_in w (inlX4 w h)
theorem inJ9 : ∀ w ∈ wsJ90, w ∈ lw_tbl := by decide +kernel
theorem inJ10 : ∀ w ∈ wsJ100, w ∈ lw_tbl := by decide +kernel
abbrev vwCl : List vw_C := [(RX0, TX0, 6), (RX1, TX1, 15), (RX2, TX2, 3), (RX3, TX3, 6), (RX4, TX4, 10)]
end
section
theorem dX0_init_0 : decode cX0_init 0 = .ok (.aload_n 0, 1) := by decide +kernel
theorem dX0_init_1 : decode cX0_init 1 = .ok (.invokespecial 3, 3) := by decide +kernel
theorem dX0_init_4 : decode cX0_init 4 = .ok (.aload_n 0, 1) := by decide +kernel
theorem dX0_init_5 : decode cX0_init 5 = .ok (.bipush 60, 2) := by decide +kernel
theorem dX0_init_7 : decode cX0_init 7 = .ok (.newarray .int, 2) := by decide +kernel
theorem dX0_init_9 : decode cX0_init 9 = .ok (.putfield 9, 3) := by decide +kernel
theorem dX0_init_12 : decode cX0_init 12 = .ok (.aload_n 0, 1) := by decide +kernel
theorem dX0_init_13 : decode cX0_init 13 = .ok (.iconst 0, 1) := by decide +kernel
theorem dX0_init_14 : decode cX0_init 14 = .ok (.putfield 15, 3) := by decide +kernel
theorem dX0_init_17 : decode cX0_init 17 = .ok (.aload_n 0, 1) := by decide +kernel
theorem dX0_init_18 : decode cX0_init 18 = .ok (.bipush 20, 2) := by decide +kernel
theorem dX0_init_20 : decode cX0_init 20 = .ok (.newarray .int, 2) := by decide +kernel
theorem dX0_init_22 : decode cX0_init 22 = .ok (.putfield 19, 3) := by decide +kernel
theorem dX0_init_25 : decode cX0_init 25 = .ok (.aload_n 0, 1) := by decide +kernel
theorem dX0_init_26 : decode cX0_init 26 = .ok (.bipush 20, 2) := by decide +kernel
theorem dX0_init_28 : decode cX0_init 28 = .ok (.newarray .int, 2) := by decide +kernel
theorem dX0_init_30 : decode cX0_init 30 = .ok (.putfield 22, 3) := by decide +kernel
theorem dX0_init_33 : decode cX0_init 33 = .ok (.aload_n 0, 1) := by decide +kernel
theorem dX0_init_34 : decode cX0_init 34 = .ok (.iconst 0, 1) := by decide +kernel
theorem dX0_init_35 : decode cX0_init 35 = .ok (.putfield 25, 3) := by decide +kernel
theorem dX0_init_38 : decode cX0_init 38 = .ok (.aload_n 0, 1) := by decide +kernel
theorem dX0_init_39 : decode cX0_init 39 = .ok (.iconst 0, 1) := by decide +kernel
theorem dX0_init_40 : decode cX0_init 40 = .ok (.putfield 28, 3) := by decide +kernel
theorem dX0_init_43 : decode cX0_init 43 = .ok (.return_, 1) := by decide +kernel
theorem dX0_length_0 : decode cX0_length 0 = .ok (.aload_n 0, 1) := by decide +kernel
theorem dX0_length_1 : decode cX0_length 1 = .ok (.getfield 15, 3) := by decide +kernel
theorem dX0_length_4 : decode cX0_length 4 = .ok (.ireturn, 1) := by decide +kernel
theorem dX0_append_0 : decode cX0_append 0 = .ok (.aload_n 0, 1) := by decide +kernel
theorem dX0_append_1 : decode cX0_append 1 = .ok (.getfield 15, 3) := by decide +kernel
theorem dX0_append_4 : decode cX0_append 4 = .ok (.bipush 60, 2) := by decide +kernel
theorem dX0_append_6 : decode cX0_append 6 = .ok (.if_icmp .lt 6, 3) := by decide +kernel
theorem dX0_append_9 : decode cX0_append 9 = .ok (.bipush (-3), 2) := by decide +kernel
theorem dX0_append_11 : decode cX0_append 11 = .ok (.ireturn, 1) := by decide +kernel
theorem dX0_append_12 : decode cX0_append 12 = .ok (.aload_n 0, 1) := by decide +kernel
theorem dX0_append_13 : decode cX0_append 13 = .ok (.getfield 9, 3) := by decide +kernel
theorem dX0_append_16 : decode cX0_append 16 = .ok (.aload_n 0, 1) := by decide +kernel
theorem dX0_append_17 : decode cX0_append 17 = .ok (.getfield 15, 3) := by decide +kernel
theorem dX0_append_20 : decode cX0_append 20 = .ok (.iload_n 1, 1) := by decide +kernel
theorem dX0_append_21 : decode cX0_append 21 = .ok (.iastore, 1) := by decide +kernel
theorem dX0_append_22 : decode cX0_append 22 = .ok (.aload_n 0, 1) := by decide +kernel
theorem dX0_append_23 : decode cX0_append 23 = .ok (.dup, 1) := by decide +kernel
theorem dX0_append_24 : decode cX0_append 24 = .ok (.getfield 15, 3) := by decide +kernel
theorem dX0_append_27 : decode cX0_append 27 = .ok (.iconst 1, 1) := by decide +kernel
theorem dX0_append_28 : decode cX0_append 28 = .ok (.iadd, 1) := by decide +kernel
theorem dX0_append_29 : decode cX0_append 29 = .ok (.putfield 15, 3) := by decide +kernel
theorem dX0_append_32 : decode cX0_append 32 = .ok (.aload_n 0, 1) := by decide +kernel
theorem dX0_append_33 : decode cX0_append 33 = .ok (.getfield 15, 3) := by decide +kernel
theorem dX0_append_36 : decode cX0_append 36 = .ok (.ireturn, 1) := by decide +kernel
theorem dX0_empty_0 : decode cX0_empty 0 = .ok (.aload_n 0, 1) := by decide +kernel
theorem dX0_empty_1 : decode cX0_empty 1 = .ok (.getfield 15, 3) := by decide +kernel
theorem dX0_empty_4 : decode cX0_empty 4 = .ok (.istore_n 1, 1) := by decide +kernel
theorem dX0_empty_5 : decode cX0_empty 5 = .ok (.aload_n 0, 1) := by decide +kernel
theorem dX0_empty_6 : decode cX0_empty 6 = .ok (.iconst 0, 1) := by decide +kernel
theorem dX0_empty_7 : decode cX0_empty 7 = .ok (.putfield 15, 3) := by decide +kernel
theorem dX0_empty_10 : decode cX0_empty 10 = .ok (.iload_n 1, 1) := by decide +kernel
theorem dX0_empty_11 : decode cX0_empty 11 = .ok (.ireturn, 1) := by decide +kernel
theorem dX0_commandCount_0 : decode cX0_commandCount 0 = .ok (.aload_n 0, 1) := by decide +kernel
theorem dX0_commandCount_1 : decode cX0_commandCount 1 = .ok (.getfield 25, 3) := by decide +kernel
theorem dX0_commandCount_4 : decode cX0_commandCount 4 = .ok (.ireturn, 1) := by decide +kernel
theorem dX0_commandSector_0 : decode cX0_commandSector 0 = .ok (.aload_n 0, 1) := by decide +kernel
theorem dX0_commandSector_1 : decode cX0_commandSector 1 = .ok (.getfield 19, 3) := by decide +kernel
theorem dX0_commandSector_4 : decode cX0_commandSector 4 = .ok (.iload_n 1, 1) := by decide +kernel
theorem dX0_commandSector_5 : decode cX0_commandSector 5 = .ok (.iaload, 1) := by decide +kernel
theorem dX0_commandSector_6 : decode cX0_commandSector 6 = .ok (.ireturn, 1) := by decide +kernel
theorem dX0_commandValue_0 : decode cX0_commandValue 0 = .ok (.aload_n 0, 1) := by decide +kernel
theorem dX0_commandValue_1 : decode cX0_commandValue 1 = .ok (.getfield 22, 3) := by decide +kernel
theorem dX0_commandValue_4 : decode cX0_commandValue 4 = .ok (.iload_n 1, 1) := by decide +kernel
theorem dX0_commandValue_5 : decode cX0_commandValue 5 = .ok (.iaload, 1) := by decide +kernel
theorem dX0_commandValue_6 : decode cX0_commandValue 6 = .ok (.ireturn, 1) := by decide +kernel
set_option maxRecDepth 20000 in
theorem ggX0_parse_X0_takeCommand : GoodIn wsX0_parse wsX0_takeCommand := goodIn_r _ [7, 8, 9, 10, 6, 11, 1, 12, 13, 14, 15, 16, 17, 18, 19, 20, 21, 22, 23, 24, 25, 26, 27, 28, 29, 2, 30, 31, 32, 33, 34, 35, 36, 37] (by decide +kernel) (by decide +kernel)
set_option maxRecDepth 20000 in
theorem gX0_parse_X0_takeCommand : GoodIn wsX0_parse (wsV RX0 31 RX0 yX0_takeCommand wsX0_takeCommand) := goodIn_app (goodIn_of _ (by decide +kernel)) ggX0_parse_X0_takeCommand
set_option maxRecDepth 20000 in
theorem ggX0_parse_X0_peek : GoodIn wsX0_parse wsX0_peek := goodIn_r _ [15, 1, 16, 17, 32, 33, 34, 35, 36, 37] (by decide +kernel) (by decide +kernel)
set_option maxRecDepth 20000 in
theorem gX0_parse_X0_peek : GoodIn wsX0_parse (wsV RX0 35 RX0 yX0_peek wsX0_peek) := goodIn_app (goodIn_of _ (by decide +kernel)) ggX0_parse_X0_peek
set_option maxRecDepth 20000 in
theorem ggX0_parse_X0_take : GoodIn wsX0_parse wsX0_take := goodIn_r _ [11, 1, 12, 13, 14, 6, 15, 16, 17, 32, 33, 34, 35, 36, 37] (by decide +kernel) (by decide +kernel)
set_option maxRecDepth 20000 in
theorem gX0_parse_X0_take : GoodIn wsX0_parse (wsV RX0 39 RX0 yX0_take wsX0_take) := goodIn_app (goodIn_of _ (by decide +kernel)) ggX0_parse_X0_take
theorem dX0_parse_0 : decode cX0_parse 0 = .ok (.aload_n 0, 1) := by decide +kernel
theorem dX0_parse_1 : decode cX0_parse 1 = .ok (.iconst 0, 1) := by decide +kernel
theorem dX0_parse_2 : decode cX0_parse 2 = .ok (.putfield 28, 3) := by decide +kernel
theorem dX0_parse_5 : decode cX0_parse 5 = .ok (.aload_n 0, 1) := by decide +kernel
theorem dX0_parse_6 : decode cX0_parse 6 = .ok (.iconst 0, 1) := by decide +kernel
theorem dX0_parse_7 : decode cX0_parse 7 = .ok (.putfield 25, 3) := by decide +kernel
theorem dX0_parse_10 : decode cX0_parse 10 = .ok (.iconst 0, 1) := by decide +kernel
theorem dX0_parse_11 : decode cX0_parse 11 = .ok (.istore_n 1, 1) := by decide +kernel
theorem dX0_parse_12 : decode cX0_parse 12 = .ok (.iload_n 1, 1) := by decide +kernel
theorem dX0_parse_13 : decode cX0_parse 13 = .ok (.bipush 20, 2) := by decide +kernel
theorem dX0_parse_15 : decode cX0_parse 15 = .ok (.if_icmp .ge 46, 3) := by decide +kernel
theorem dX0_parse_18 : decode cX0_parse 18 = .ok (.aload_n 0, 1) := by decide +kernel
theorem dX0_parse_19 : decode cX0_parse 19 = .ok (.invokevirtual 31, 3) := by decide +kernel
theorem dX0_parse_22 : decode cX0_parse 22 = .ok (.ifCond .ne 8, 3) := by decide +kernel
theorem dX0_parse_25 : decode cX0_parse 25 = .ok (.aload_n 0, 1) := by decide +kernel
theorem dX0_parse_26 : decode cX0_parse 26 = .ok (.getfield 28, 3) := by decide +kernel
theorem dX0_parse_29 : decode cX0_parse 29 = .ok (.ireturn, 1) := by decide +kernel
theorem dX0_parse_30 : decode cX0_parse 30 = .ok (.aload_n 0, 1) := by decide +kernel
theorem dX0_parse_31 : decode cX0_parse 31 = .ok (.invokevirtual 35, 3) := by decide +kernel
theorem dX0_parse_34 : decode cX0_parse 34 = .ok (.iconst (-1), 1) := by decide +kernel
theorem dX0_parse_35 : decode cX0_parse 35 = .ok (.if_icmp .ne 6, 3) := by decide +kernel
theorem dX0_parse_38 : decode cX0_parse 38 = .ok (.bipush (-5), 2) := by decide +kernel
theorem dX0_parse_40 : decode cX0_parse 40 = .ok (.ireturn, 1) := by decide +kernel
theorem dX0_parse_41 : decode cX0_parse 41 = .ok (.aload_n 0, 1) := by decide +kernel
theorem dX0_parse_42 : decode cX0_parse 42 = .ok (.bipush 59, 2) := by decide +kernel
theorem dX0_parse_44 : decode cX0_parse 44 = .ok (.invokevirtual 39, 3) := by decide +kernel
theorem dX0_parse_47 : decode cX0_parse 47 = .ok (.ifCond .ne 8, 3) := by decide +kernel
theorem dX0_parse_50 : decode cX0_parse 50 = .ok (.aload_n 0, 1) := by decide +kernel
theorem dX0_parse_51 : decode cX0_parse 51 = .ok (.getfield 28, 3) := by decide +kernel
theorem dX0_parse_54 : decode cX0_parse 54 = .ok (.ireturn, 1) := by decide +kernel
theorem dX0_parse_55 : decode cX0_parse 55 = .ok (.iinc 1 1, 3) := by decide +kernel
theorem dX0_parse_58 : decode cX0_parse 58 = .ok (.goto (-46), 3) := by decide +kernel
theorem dX0_parse_61 : decode cX0_parse 61 = .ok (.aload_n 0, 1) := by decide +kernel
theorem dX0_parse_62 : decode cX0_parse 62 = .ok (.getfield 28, 3) := by decide +kernel
theorem dX0_parse_65 : decode cX0_parse 65 = .ok (.ireturn, 1) := by decide +kernel
set_option maxRecDepth 20000 in
theorem ggX0_takeCommand_X0_take : GoodIn wsX0_takeCommand wsX0_take := goodIn_r _ [5, 6, 7, 8, 9, 4, 10, 11, 12, 28, 29, 30, 31, 32, 33] (by decide +kernel) (by decide +kernel)
set_option maxRecDepth 20000 in
theorem gX0_takeCommand_X0_take : GoodIn wsX0_takeCommand (wsV RX0 39 RX0 yX0_take wsX0_take) := goodIn_app (goodIn_of _ (by decide +kernel)) ggX0_takeCommand_X0_take
set_option maxRecDepth 20000 in
theorem ggX0_takeCommand_X0_takeNumber : GoodIn wsX0_takeCommand wsX0_takeNumber := goodIn_r _ [16, 6, 11, 17, 18, 19, 4, 20, 12, 28, 29, 30, 31, 32, 33] (by decide +kernel) (by decide +kernel)
set_option maxRecDepth 20000 in
theorem gX0_takeCommand_X0_takeNumber : GoodIn wsX0_takeCommand (wsV RX0 43 RX0 yX0_takeNumber wsX0_takeNumber) := goodIn_app (goodIn_of _ (by decide +kernel)) ggX0_takeCommand_X0_takeNumber
set_option maxRecDepth 20000 in
theorem ggX0_takeCommand_X0_addCommand : GoodIn wsX0_takeCommand wsX0_addCommand := goodIn_r _ [24, 25, 26, 27, 28, 29, 30, 31, 32, 33] (by decide +kernel) (by decide +kernel)
set_option maxRecDepth 20000 in
theorem gX0_takeCommand_X0_addCommand : GoodIn wsX0_takeCommand (wsV RX0 47 RX0 yX0_addCommand wsX0_addCommand) := goodIn_app (goodIn_of _ (by decide +kernel)) ggX0_takeCommand_X0_addCommand
theorem dX0_takeCommand_0 : decode cX0_takeCommand 0 = .ok (.aload_n 0, 1) := by decide +kernel
theorem dX0_takeCommand_1 : decode cX0_takeCommand 1 = .ok (.bipush 119, 2) := by decide +kernel
theorem dX0_takeCommand_3 : decode cX0_takeCommand 3 = .ok (.invokevirtual 39, 3) := by decide +kernel
theorem dX0_takeCommand_6 : decode cX0_takeCommand 6 = .ok (.istore_n 1, 1) := by decide +kernel
theorem dX0_takeCommand_7 : decode cX0_takeCommand 7 = .ok (.iload_n 1, 1) := by decide +kernel
theorem dX0_takeCommand_8 : decode cX0_takeCommand 8 = .ok (.ifCond .ne 14, 3) := by decide +kernel
theorem dX0_takeCommand_11 : decode cX0_takeCommand 11 = .ok (.aload_n 0, 1) := by decide +kernel
theorem dX0_takeCommand_12 : decode cX0_takeCommand 12 = .ok (.bipush 114, 2) := by decide +kernel
theorem dX0_takeCommand_14 : decode cX0_takeCommand 14 = .ok (.invokevirtual 39, 3) := by decide +kernel
theorem dX0_takeCommand_17 : decode cX0_takeCommand 17 = .ok (.ifCond .ne 5, 3) := by decide +kernel
theorem dX0_takeCommand_20 : decode cX0_takeCommand 20 = .ok (.iconst 0, 1) := by decide +kernel
theorem dX0_takeCommand_21 : decode cX0_takeCommand 21 = .ok (.ireturn, 1) := by decide +kernel
theorem dX0_takeCommand_22 : decode cX0_takeCommand 22 = .ok (.aload_n 0, 1) := by decide +kernel
theorem dX0_takeCommand_23 : decode cX0_takeCommand 23 = .ok (.bipush 63, 2) := by decide +kernel
theorem dX0_takeCommand_25 : decode cX0_takeCommand 25 = .ok (.invokevirtual 43, 3) := by decide +kernel
theorem dX0_takeCommand_28 : decode cX0_takeCommand 28 = .ok (.istore_n 2, 1) := by decide +kernel
theorem dX0_takeCommand_29 : decode cX0_takeCommand 29 = .ok (.iload_n 2, 1) := by decide +kernel
theorem dX0_takeCommand_30 : decode cX0_takeCommand 30 = .ok (.bipush (-5), 2) := by decide +kernel
theorem dX0_takeCommand_32 : decode cX0_takeCommand 32 = .ok (.if_icmp .ne 5, 3) := by decide +kernel
theorem dX0_takeCommand_35 : decode cX0_takeCommand 35 = .ok (.iconst 0, 1) := by decide +kernel
theorem dX0_takeCommand_36 : decode cX0_takeCommand 36 = .ok (.ireturn, 1) := by decide +kernel
theorem dX0_takeCommand_37 : decode cX0_takeCommand 37 = .ok (.bipush (-5), 2) := by decide +kernel
theorem dX0_takeCommand_39 : decode cX0_takeCommand 39 = .ok (.istore_n 3, 1) := by decide +kernel
theorem dX0_takeCommand_40 : decode cX0_takeCommand 40 = .ok (.iload_n 1, 1) := by decide +kernel
theorem dX0_takeCommand_41 : decode cX0_takeCommand 41 = .ok (.ifCond .eq 30, 3) := by decide +kernel
theorem dX0_takeCommand_44 : decode cX0_takeCommand 44 = .ok (.aload_n 0, 1) := by decide +kernel
theorem dX0_takeCommand_45 : decode cX0_takeCommand 45 = .ok (.bipush 61, 2) := by decide +kernel
theorem dX0_takeCommand_47 : decode cX0_takeCommand 47 = .ok (.invokevirtual 39, 3) := by decide +kernel
theorem dX0_takeCommand_50 : decode cX0_takeCommand 50 = .ok (.ifCond .ne 5, 3) := by decide +kernel
theorem dX0_takeCommand_53 : decode cX0_takeCommand 53 = .ok (.iconst 0, 1) := by decide +kernel
theorem dX0_takeCommand_54 : decode cX0_takeCommand 54 = .ok (.ireturn, 1) := by decide +kernel
theorem dX0_takeCommand_55 : decode cX0_takeCommand 55 = .ok (.aload_n 0, 1) := by decide +kernel
theorem dX0_takeCommand_56 : decode cX0_takeCommand 56 = .ok (.sipush 999, 3) := by decide +kernel
theorem dX0_takeCommand_59 : decode cX0_takeCommand 59 = .ok (.invokevirtual 43, 3) := by decide +kernel
theorem dX0_takeCommand_62 : decode cX0_takeCommand 62 = .ok (.istore_n 3, 1) := by decide +kernel
theorem dX0_takeCommand_63 : decode cX0_takeCommand 63 = .ok (.iload_n 3, 1) := by decide +kernel
theorem dX0_takeCommand_64 : decode cX0_takeCommand 64 = .ok (.bipush (-5), 2) := by decide +kernel
theorem dX0_takeCommand_66 : decode cX0_takeCommand 66 = .ok (.if_icmp .ne 5, 3) := by decide +kernel
theorem dX0_takeCommand_69 : decode cX0_takeCommand 69 = .ok (.iconst 0, 1) := by decide +kernel
theorem dX0_takeCommand_70 : decode cX0_takeCommand 70 = .ok (.ireturn, 1) := by decide +kernel
theorem dX0_takeCommand_71 : decode cX0_takeCommand 71 = .ok (.aload_n 0, 1) := by decide +kernel
theorem dX0_takeCommand_72 : decode cX0_takeCommand 72 = .ok (.iload_n 2, 1) := by decide +kernel
theorem dX0_takeCommand_73 : decode cX0_takeCommand 73 = .ok (.iload_n 3, 1) := by decide +kernel
theorem dX0_takeCommand_74 : decode cX0_takeCommand 74 = .ok (.invokevirtual 47, 3) := by decide +kernel
theorem dX0_takeCommand_77 : decode cX0_takeCommand 77 = .ok (.iconst 1, 1) := by decide +kernel
theorem dX0_takeCommand_78 : decode cX0_takeCommand 78 = .ok (.ireturn, 1) := by decide +kernel
theorem dX0_addCommand_0 : decode cX0_addCommand 0 = .ok (.aload_n 0, 1) := by decide +kernel
theorem dX0_addCommand_1 : decode cX0_addCommand 1 = .ok (.getfield 25, 3) := by decide +kernel
theorem dX0_addCommand_4 : decode cX0_addCommand 4 = .ok (.bipush 20, 2) := by decide +kernel
theorem dX0_addCommand_6 : decode cX0_addCommand 6 = .ok (.if_icmp .ge 33, 3) := by decide +kernel
theorem dX0_addCommand_9 : decode cX0_addCommand 9 = .ok (.aload_n 0, 1) := by decide +kernel
theorem dX0_addCommand_10 : decode cX0_addCommand 10 = .ok (.getfield 19, 3) := by decide +kernel
theorem dX0_addCommand_13 : decode cX0_addCommand 13 = .ok (.aload_n 0, 1) := by decide +kernel
theorem dX0_addCommand_14 : decode cX0_addCommand 14 = .ok (.getfield 25, 3) := by decide +kernel
theorem dX0_addCommand_17 : decode cX0_addCommand 17 = .ok (.iload_n 1, 1) := by decide +kernel
theorem dX0_addCommand_18 : decode cX0_addCommand 18 = .ok (.iastore, 1) := by decide +kernel
theorem dX0_addCommand_19 : decode cX0_addCommand 19 = .ok (.aload_n 0, 1) := by decide +kernel
theorem dX0_addCommand_20 : decode cX0_addCommand 20 = .ok (.getfield 22, 3) := by decide +kernel
theorem dX0_addCommand_23 : decode cX0_addCommand 23 = .ok (.aload_n 0, 1) := by decide +kernel
theorem dX0_addCommand_24 : decode cX0_addCommand 24 = .ok (.getfield 25, 3) := by decide +kernel
theorem dX0_addCommand_27 : decode cX0_addCommand 27 = .ok (.iload_n 2, 1) := by decide +kernel
theorem dX0_addCommand_28 : decode cX0_addCommand 28 = .ok (.iastore, 1) := by decide +kernel
theorem dX0_addCommand_29 : decode cX0_addCommand 29 = .ok (.aload_n 0, 1) := by decide +kernel
theorem dX0_addCommand_30 : decode cX0_addCommand 30 = .ok (.dup, 1) := by decide +kernel
theorem dX0_addCommand_31 : decode cX0_addCommand 31 = .ok (.getfield 25, 3) := by decide +kernel
theorem dX0_addCommand_34 : decode cX0_addCommand 34 = .ok (.iconst 1, 1) := by decide +kernel
theorem dX0_addCommand_35 : decode cX0_addCommand 35 = .ok (.iadd, 1) := by decide +kernel
theorem dX0_addCommand_36 : decode cX0_addCommand 36 = .ok (.putfield 25, 3) := by decide +kernel
theorem dX0_addCommand_39 : decode cX0_addCommand 39 = .ok (.return_, 1) := by decide +kernel
set_option maxRecDepth 20000 in
theorem ggX0_takeNumber_X0_digitAt : GoodIn wsX0_takeNumber wsX0_digitAt := goodIn_r _ [7, 2, 8, 9, 10, 11, 12, 13, 14] (by decide +kernel) (by decide +kernel)
set_option maxRecDepth 20000 in
theorem gX0_takeNumber_X0_digitAt : GoodIn wsX0_takeNumber (wsV RX0 51 RX0 yX0_digitAt wsX0_digitAt) := goodIn_app (goodIn_of _ (by decide +kernel)) ggX0_takeNumber_X0_digitAt
theorem dX0_takeNumber_0 : decode cX0_takeNumber 0 = .ok (.aload_n 0, 1) := by decide +kernel
theorem dX0_takeNumber_1 : decode cX0_takeNumber 1 = .ok (.aload_n 0, 1) := by decide +kernel
theorem dX0_takeNumber_2 : decode cX0_takeNumber 2 = .ok (.getfield 28, 3) := by decide +kernel
theorem dX0_takeNumber_5 : decode cX0_takeNumber 5 = .ok (.invokevirtual 51, 3) := by decide +kernel
theorem dX0_takeNumber_8 : decode cX0_takeNumber 8 = .ok (.istore_n 2, 1) := by decide +kernel
theorem dX0_takeNumber_9 : decode cX0_takeNumber 9 = .ok (.iload_n 2, 1) := by decide +kernel
theorem dX0_takeNumber_10 : decode cX0_takeNumber 10 = .ok (.bipush (-5), 2) := by decide +kernel
theorem dX0_takeNumber_12 : decode cX0_takeNumber 12 = .ok (.if_icmp .ne 6, 3) := by decide +kernel
theorem dX0_takeNumber_15 : decode cX0_takeNumber 15 = .ok (.bipush (-5), 2) := by decide +kernel
theorem dX0_takeNumber_17 : decode cX0_takeNumber 17 = .ok (.ireturn, 1) := by decide +kernel
theorem dX0_takeNumber_18 : decode cX0_takeNumber 18 = .ok (.aload_n 0, 1) := by decide +kernel
theorem dX0_takeNumber_19 : decode cX0_takeNumber 19 = .ok (.dup, 1) := by decide +kernel
theorem dX0_takeNumber_20 : decode cX0_takeNumber 20 = .ok (.getfield 28, 3) := by decide +kernel
theorem dX0_takeNumber_23 : decode cX0_takeNumber 23 = .ok (.iconst 1, 1) := by decide +kernel
theorem dX0_takeNumber_24 : decode cX0_takeNumber 24 = .ok (.iadd, 1) := by decide +kernel
theorem dX0_takeNumber_25 : decode cX0_takeNumber 25 = .ok (.putfield 28, 3) := by decide +kernel
theorem dX0_takeNumber_28 : decode cX0_takeNumber 28 = .ok (.aload_n 0, 1) := by decide +kernel
theorem dX0_takeNumber_29 : decode cX0_takeNumber 29 = .ok (.getfield 28, 3) := by decide +kernel
theorem dX0_takeNumber_32 : decode cX0_takeNumber 32 = .ok (.aload_n 0, 1) := by decide +kernel
theorem dX0_takeNumber_33 : decode cX0_takeNumber 33 = .ok (.getfield 15, 3) := by decide +kernel
theorem dX0_takeNumber_36 : decode cX0_takeNumber 36 = .ok (.if_icmp .ge 54, 3) := by decide +kernel
theorem dX0_takeNumber_39 : decode cX0_takeNumber 39 = .ok (.iload_n 2, 1) := by decide +kernel
theorem dX0_takeNumber_40 : decode cX0_takeNumber 40 = .ok (.ifCond .le 50, 3) := by decide +kernel
theorem dX0_takeNumber_43 : decode cX0_takeNumber 43 = .ok (.aload_n 0, 1) := by decide +kernel
theorem dX0_takeNumber_44 : decode cX0_takeNumber 44 = .ok (.aload_n 0, 1) := by decide +kernel
theorem dX0_takeNumber_45 : decode cX0_takeNumber 45 = .ok (.getfield 28, 3) := by decide +kernel
theorem dX0_takeNumber_48 : decode cX0_takeNumber 48 = .ok (.invokevirtual 51, 3) := by decide +kernel
theorem dX0_takeNumber_51 : decode cX0_takeNumber 51 = .ok (.istore_n 3, 1) := by decide +kernel
theorem dX0_takeNumber_52 : decode cX0_takeNumber 52 = .ok (.iload_n 3, 1) := by decide +kernel
theorem dX0_takeNumber_53 : decode cX0_takeNumber 53 = .ok (.bipush (-5), 2) := by decide +kernel
theorem dX0_takeNumber_55 : decode cX0_takeNumber 55 = .ok (.if_icmp .eq 13, 3) := by decide +kernel
theorem dX0_takeNumber_58 : decode cX0_takeNumber 58 = .ok (.bipush 10, 2) := by decide +kernel
theorem dX0_takeNumber_60 : decode cX0_takeNumber 60 = .ok (.iload_n 2, 1) := by decide +kernel
theorem dX0_takeNumber_61 : decode cX0_takeNumber 61 = .ok (.imul, 1) := by decide +kernel
theorem dX0_takeNumber_62 : decode cX0_takeNumber 62 = .ok (.iload_n 3, 1) := by decide +kernel
theorem dX0_takeNumber_63 : decode cX0_takeNumber 63 = .ok (.iadd, 1) := by decide +kernel
theorem dX0_takeNumber_64 : decode cX0_takeNumber 64 = .ok (.iload_n 1, 1) := by decide +kernel
theorem dX0_takeNumber_65 : decode cX0_takeNumber 65 = .ok (.if_icmp .le 5, 3) := by decide +kernel
theorem dX0_takeNumber_68 : decode cX0_takeNumber 68 = .ok (.iload_n 2, 1) := by decide +kernel
theorem dX0_takeNumber_69 : decode cX0_takeNumber 69 = .ok (.ireturn, 1) := by decide +kernel
theorem dX0_takeNumber_70 : decode cX0_takeNumber 70 = .ok (.bipush 10, 2) := by decide +kernel
theorem dX0_takeNumber_72 : decode cX0_takeNumber 72 = .ok (.iload_n 2, 1) := by decide +kernel
theorem dX0_takeNumber_73 : decode cX0_takeNumber 73 = .ok (.imul, 1) := by decide +kernel
theorem dX0_takeNumber_74 : decode cX0_takeNumber 74 = .ok (.iload_n 3, 1) := by decide +kernel
theorem dX0_takeNumber_75 : decode cX0_takeNumber 75 = .ok (.iadd, 1) := by decide +kernel
theorem dX0_takeNumber_76 : decode cX0_takeNumber 76 = .ok (.istore_n 2, 1) := by decide +kernel
theorem dX0_takeNumber_77 : decode cX0_takeNumber 77 = .ok (.aload_n 0, 1) := by decide +kernel
theorem dX0_takeNumber_78 : decode cX0_takeNumber 78 = .ok (.dup, 1) := by decide +kernel
theorem dX0_takeNumber_79 : decode cX0_takeNumber 79 = .ok (.getfield 28, 3) := by decide +kernel
theorem dX0_takeNumber_82 : decode cX0_takeNumber 82 = .ok (.iconst 1, 1) := by decide +kernel
theorem dX0_takeNumber_83 : decode cX0_takeNumber 83 = .ok (.iadd, 1) := by decide +kernel
theorem dX0_takeNumber_84 : decode cX0_takeNumber 84 = .ok (.putfield 28, 3) := by decide +kernel
theorem dX0_takeNumber_87 : decode cX0_takeNumber 87 = .ok (.goto (-59), 3) := by decide +kernel
theorem dX0_takeNumber_90 : decode cX0_takeNumber 90 = .ok (.iload_n 2, 1) := by decide +kernel
theorem dX0_takeNumber_91 : decode cX0_takeNumber 91 = .ok (.ireturn, 1) := by decide +kernel
theorem dX0_digitAt_0 : decode cX0_digitAt 0 = .ok (.iload_n 1, 1) := by decide +kernel
theorem dX0_digitAt_1 : decode cX0_digitAt 1 = .ok (.aload_n 0, 1) := by decide +kernel
theorem dX0_digitAt_2 : decode cX0_digitAt 2 = .ok (.getfield 15, 3) := by decide +kernel
theorem dX0_digitAt_5 : decode cX0_digitAt 5 = .ok (.if_icmp .ge 25, 3) := by decide +kernel
theorem dX0_digitAt_8 : decode cX0_digitAt 8 = .ok (.aload_n 0, 1) := by decide +kernel
theorem dX0_digitAt_9 : decode cX0_digitAt 9 = .ok (.getfield 9, 3) := by decide +kernel
theorem dX0_digitAt_12 : decode cX0_digitAt 12 = .ok (.iload_n 1, 1) := by decide +kernel
theorem dX0_digitAt_13 : decode cX0_digitAt 13 = .ok (.iaload, 1) := by decide +kernel
theorem dX0_digitAt_14 : decode cX0_digitAt 14 = .ok (.bipush 48, 2) := by decide +kernel
theorem dX0_digitAt_16 : decode cX0_digitAt 16 = .ok (.if_icmp .lt 14, 3) := by decide +kernel
theorem dX0_digitAt_19 : decode cX0_digitAt 19 = .ok (.aload_n 0, 1) := by decide +kernel
theorem dX0_digitAt_20 : decode cX0_digitAt 20 = .ok (.getfield 9, 3) := by decide +kernel
theorem dX0_digitAt_23 : decode cX0_digitAt 23 = .ok (.iload_n 1, 1) := by decide +kernel
theorem dX0_digitAt_24 : decode cX0_digitAt 24 = .ok (.iaload, 1) := by decide +kernel
theorem dX0_digitAt_25 : decode cX0_digitAt 25 = .ok (.bipush 57, 2) := by decide +kernel
theorem dX0_digitAt_27 : decode cX0_digitAt 27 = .ok (.if_icmp .le 6, 3) := by decide +kernel
theorem dX0_digitAt_30 : decode cX0_digitAt 30 = .ok (.bipush (-5), 2) := by decide +kernel
theorem dX0_digitAt_32 : decode cX0_digitAt 32 = .ok (.ireturn, 1) := by decide +kernel
theorem dX0_digitAt_33 : decode cX0_digitAt 33 = .ok (.aload_n 0, 1) := by decide +kernel
theorem dX0_digitAt_34 : decode cX0_digitAt 34 = .ok (.getfield 9, 3) := by decide +kernel
theorem dX0_digitAt_37 : decode cX0_digitAt 37 = .ok (.iload_n 1, 1) := by decide +kernel
theorem dX0_digitAt_38 : decode cX0_digitAt 38 = .ok (.iaload, 1) := by decide +kernel
theorem dX0_digitAt_39 : decode cX0_digitAt 39 = .ok (.bipush 48, 2) := by decide +kernel
theorem dX0_digitAt_41 : decode cX0_digitAt 41 = .ok (.isub, 1) := by decide +kernel
theorem dX0_digitAt_42 : decode cX0_digitAt 42 = .ok (.ireturn, 1) := by decide +kernel
theorem dX0_peek_0 : decode cX0_peek 0 = .ok (.aload_n 0, 1) := by decide +kernel
theorem dX0_peek_1 : decode cX0_peek 1 = .ok (.getfield 28, 3) := by decide +kernel
theorem dX0_peek_4 : decode cX0_peek 4 = .ok (.aload_n 0, 1) := by decide +kernel
theorem dX0_peek_5 : decode cX0_peek 5 = .ok (.getfield 15, 3) := by decide +kernel
theorem dX0_peek_8 : decode cX0_peek 8 = .ok (.if_icmp .ge 15, 3) := by decide +kernel
theorem dX0_peek_11 : decode cX0_peek 11 = .ok (.aload_n 0, 1) := by decide +kernel
theorem dX0_peek_12 : decode cX0_peek 12 = .ok (.getfield 9, 3) := by decide +kernel
theorem dX0_peek_15 : decode cX0_peek 15 = .ok (.aload_n 0, 1) := by decide +kernel
theorem dX0_peek_16 : decode cX0_peek 16 = .ok (.getfield 28, 3) := by decide +kernel
theorem dX0_peek_19 : decode cX0_peek 19 = .ok (.iaload, 1) := by decide +kernel
theorem dX0_peek_20 : decode cX0_peek 20 = .ok (.goto 4, 3) := by decide +kernel
theorem dX0_peek_23 : decode cX0_peek 23 = .ok (.iconst (-1), 1) := by decide +kernel
theorem dX0_peek_24 : decode cX0_peek 24 = .ok (.ireturn, 1) := by decide +kernel
set_option maxRecDepth 20000 in
theorem ggX0_take_X0_peek : GoodIn wsX0_take wsX0_peek := goodIn_r _ [6, 1, 7, 8, 9, 10, 11, 12, 13, 14] (by decide +kernel) (by decide +kernel)
set_option maxRecDepth 20000 in
theorem gX0_take_X0_peek : GoodIn wsX0_take (wsV RX0 35 RX0 yX0_peek wsX0_peek) := goodIn_app (goodIn_of _ (by decide +kernel)) ggX0_take_X0_peek
theorem dX0_take_0 : decode cX0_take 0 = .ok (.aload_n 0, 1) := by decide +kernel
theorem dX0_take_1 : decode cX0_take 1 = .ok (.invokevirtual 35, 3) := by decide +kernel
theorem dX0_take_4 : decode cX0_take 4 = .ok (.iload_n 1, 1) := by decide +kernel
theorem dX0_take_5 : decode cX0_take 5 = .ok (.if_icmp .eq 5, 3) := by decide +kernel
theorem dX0_take_8 : decode cX0_take 8 = .ok (.iconst 0, 1) := by decide +kernel
theorem dX0_take_9 : decode cX0_take 9 = .ok (.ireturn, 1) := by decide +kernel
theorem dX0_take_10 : decode cX0_take 10 = .ok (.aload_n 0, 1) := by decide +kernel
theorem dX0_take_11 : decode cX0_take 11 = .ok (.dup, 1) := by decide +kernel
theorem dX0_take_12 : decode cX0_take 12 = .ok (.getfield 28, 3) := by decide +kernel
theorem dX0_take_15 : decode cX0_take 15 = .ok (.iconst 1, 1) := by decide +kernel
theorem dX0_take_16 : decode cX0_take 16 = .ok (.iadd, 1) := by decide +kernel
theorem dX0_take_17 : decode cX0_take 17 = .ok (.putfield 28, 3) := by decide +kernel
theorem dX0_take_20 : decode cX0_take 20 = .ok (.iconst 1, 1) := by decide +kernel
theorem dX0_take_21 : decode cX0_take 21 = .ok (.ireturn, 1) := by decide +kernel
set_option maxRecDepth 20000 in
theorem ggX1_init_X1_divide : GoodIn wsX1_init wsX1_divide := goodIn_r _ [25, 7, 13, 14, 26, 27, 28, 24, 29, 30, 31, 32, 33, 34, 35, 36, 37, 38, 39, 40, 41, 42, 43, 44, 45, 46, 47, 48, 49, 50, 51] (by decide +kernel) (by decide +kernel)
set_option maxRecDepth 20000 in
theorem gX1_init_X1_divide : GoodIn wsX1_init (wsV RX1 59 RX1 yX1_divide wsX1_divide) := goodIn_app (goodIn_of _ (by decide +kernel)) ggX1_init_X1_divide
theorem dX1_init_0 : decode cX1_init 0 = .ok (.aload_n 0, 1) := by decide +kernel
theorem dX1_init_1 : decode cX1_init 1 = .ok (.invokespecial 3, 3) := by decide +kernel
theorem dX1_init_4 : decode cX1_init 4 = .ok (.aload_n 0, 1) := by decide +kernel
theorem dX1_init_5 : decode cX1_init 5 = .ok (.bipush 30, 2) := by decide +kernel
theorem dX1_init_7 : decode cX1_init 7 = .ok (.putfield 9, 3) := by decide +kernel
theorem dX1_init_10 : decode cX1_init 10 = .ok (.aload_n 0, 1) := by decide +kernel
theorem dX1_init_11 : decode cX1_init 11 = .ok (.iconst 4, 1) := by decide +kernel
theorem dX1_init_12 : decode cX1_init 12 = .ok (.newarray .int, 2) := by decide +kernel
theorem dX1_init_14 : decode cX1_init 14 = .ok (.putfield 15, 3) := by decide +kernel
theorem dX1_init_17 : decode cX1_init 17 = .ok (.aload_n 0, 1) := by decide +kernel
theorem dX1_init_18 : decode cX1_init 18 = .ok (.iconst 4, 1) := by decide +kernel
theorem dX1_init_19 : decode cX1_init 19 = .ok (.newarray .int, 2) := by decide +kernel
theorem dX1_init_21 : decode cX1_init 21 = .ok (.putfield 19, 3) := by decide +kernel
theorem dX1_init_24 : decode cX1_init 24 = .ok (.aload_n 0, 1) := by decide +kernel
theorem dX1_init_25 : decode cX1_init 25 = .ok (.iconst 4, 1) := by decide +kernel
theorem dX1_init_26 : decode cX1_init 26 = .ok (.newarray .boolean, 2) := by decide +kernel
theorem dX1_init_28 : decode cX1_init 28 = .ok (.putfield 22, 3) := by decide +kernel
theorem dX1_init_31 : decode cX1_init 31 = .ok (.aload_n 0, 1) := by decide +kernel
theorem dX1_init_32 : decode cX1_init 32 = .ok (.bipush 64, 2) := by decide +kernel
theorem dX1_init_34 : decode cX1_init 34 = .ok (.newarray .int, 2) := by decide +kernel
theorem dX1_init_36 : decode cX1_init 36 = .ok (.putfield 26, 3) := by decide +kernel
theorem dX1_init_39 : decode cX1_init 39 = .ok (.aload_n 0, 1) := by decide +kernel
theorem dX1_init_40 : decode cX1_init 40 = .ok (.bipush 64, 2) := by decide +kernel
theorem dX1_init_42 : decode cX1_init 42 = .ok (.newarray .int, 2) := by decide +kernel
theorem dX1_init_44 : decode cX1_init 44 = .ok (.putfield 29, 3) := by decide +kernel
theorem dX1_init_47 : decode cX1_init 47 = .ok (.aload_n 0, 1) := by decide +kernel
theorem dX1_init_48 : decode cX1_init 48 = .ok (.bipush 64, 2) := by decide +kernel
theorem dX1_init_50 : decode cX1_init 50 = .ok (.newarray .int, 2) := by decide +kernel
theorem dX1_init_52 : decode cX1_init 52 = .ok (.putfield 32, 3) := by decide +kernel
theorem dX1_init_55 : decode cX1_init 55 = .ok (.aload_n 0, 1) := by decide +kernel
theorem dX1_init_56 : decode cX1_init 56 = .ok (.bipush 64, 2) := by decide +kernel
theorem dX1_init_58 : decode cX1_init 58 = .ok (.newarray .int, 2) := by decide +kernel
theorem dX1_init_60 : decode cX1_init 60 = .ok (.putfield 35, 3) := by decide +kernel
theorem dX1_init_63 : decode cX1_init 63 = .ok (.aload_n 0, 1) := by decide +kernel
theorem dX1_init_64 : decode cX1_init 64 = .ok (.bipush 64, 2) := by decide +kernel
theorem dX1_init_66 : decode cX1_init 66 = .ok (.newarray .int, 2) := by decide +kernel
theorem dX1_init_68 : decode cX1_init 68 = .ok (.putfield 38, 3) := by decide +kernel
theorem dX1_init_71 : decode cX1_init 71 = .ok (.aload_n 0, 1) := by decide +kernel
theorem dX1_init_72 : decode cX1_init 72 = .ok (.iconst 0, 1) := by decide +kernel
theorem dX1_init_73 : decode cX1_init 73 = .ok (.putfield 41, 3) := by decide +kernel
theorem dX1_init_76 : decode cX1_init 76 = .ok (.aload_n 0, 1) := by decide +kernel
theorem dX1_init_77 : decode cX1_init 77 = .ok (.iconst 0, 1) := by decide +kernel
theorem dX1_init_78 : decode cX1_init 78 = .ok (.putfield 44, 3) := by decide +kernel
theorem dX1_init_81 : decode cX1_init 81 = .ok (.aload_n 0, 1) := by decide +kernel
theorem dX1_init_82 : decode cX1_init 82 = .ok (.iconst 0, 1) := by decide +kernel
theorem dX1_init_83 : decode cX1_init 83 = .ok (.putfield 47, 3) := by decide +kernel
theorem dX1_init_86 : decode cX1_init 86 = .ok (.aload_n 0, 1) := by decide +kernel
theorem dX1_init_87 : decode cX1_init 87 = .ok (.iconst 0, 1) := by decide +kernel
theorem dX1_init_88 : decode cX1_init 88 = .ok (.putfield 50, 3) := by decide +kernel
theorem dX1_init_91 : decode cX1_init 91 = .ok (.aload_n 0, 1) := by decide +kernel
theorem dX1_init_92 : decode cX1_init 92 = .ok (.iconst 0, 1) := by decide +kernel
theorem dX1_init_93 : decode cX1_init 93 = .ok (.putfield 53, 3) := by decide +kernel
theorem dX1_init_96 : decode cX1_init 96 = .ok (.aload_n 0, 1) := by decide +kernel
theorem dX1_init_97 : decode cX1_init 97 = .ok (.iconst 0, 1) := by decide +kernel
theorem dX1_init_98 : decode cX1_init 98 = .ok (.putfield 56, 3) := by decide +kernel
theorem dX1_init_101 : decode cX1_init 101 = .ok (.iconst 0, 1) := by decide +kernel
theorem dX1_init_102 : decode cX1_init 102 = .ok (.istore_n 1, 1) := by decide +kernel
theorem dX1_init_103 : decode cX1_init 103 = .ok (.iload_n 1, 1) := by decide +kernel
theorem dX1_init_104 : decode cX1_init 104 = .ok (.iconst 4, 1) := by decide +kernel
theorem dX1_init_105 : decode cX1_init 105 = .ok (.if_icmp .ge 24, 3) := by decide +kernel
theorem dX1_init_108 : decode cX1_init 108 = .ok (.aload_n 0, 1) := by decide +kernel
theorem dX1_init_109 : decode cX1_init 109 = .ok (.getfield 15, 3) := by decide +kernel
theorem dX1_init_112 : decode cX1_init 112 = .ok (.iload_n 1, 1) := by decide +kernel
theorem dX1_init_113 : decode cX1_init 113 = .ok (.iload_n 1, 1) := by decide +kernel
theorem dX1_init_114 : decode cX1_init 114 = .ok (.iconst 1, 1) := by decide +kernel
theorem dX1_init_115 : decode cX1_init 115 = .ok (.iadd, 1) := by decide +kernel
theorem dX1_init_116 : decode cX1_init 116 = .ok (.iastore, 1) := by decide +kernel
theorem dX1_init_117 : decode cX1_init 117 = .ok (.aload_n 0, 1) := by decide +kernel
theorem dX1_init_118 : decode cX1_init 118 = .ok (.iload_n 1, 1) := by decide +kernel
theorem dX1_init_119 : decode cX1_init 119 = .ok (.iconst 4, 1) := by decide +kernel
theorem dX1_init_120 : decode cX1_init 120 = .ok (.invokevirtual 59, 3) := by decide +kernel
theorem dX1_init_123 : decode cX1_init 123 = .ok (.iinc 1 1, 3) := by decide +kernel
theorem dX1_init_126 : decode cX1_init 126 = .ok (.goto (-23), 3) := by decide +kernel
theorem dX1_init_129 : decode cX1_init 129 = .ok (.return_, 1) := by decide +kernel
theorem dX1_takeOver_0 : decode cX1_takeOver 0 = .ok (.aload_n 0, 1) := by decide +kernel
theorem dX1_takeOver_1 : decode cX1_takeOver 1 = .ok (.aload_n 1, 1) := by decide +kernel
theorem dX1_takeOver_2 : decode cX1_takeOver 2 = .ok (.getfield 9, 3) := by decide +kernel
theorem dX1_takeOver_5 : decode cX1_takeOver 5 = .ok (.putfield 9, 3) := by decide +kernel
theorem dX1_takeOver_8 : decode cX1_takeOver 8 = .ok (.aload_n 1, 1) := by decide +kernel
theorem dX1_takeOver_9 : decode cX1_takeOver 9 = .ok (.getfield 15, 3) := by decide +kernel
theorem dX1_takeOver_12 : decode cX1_takeOver 12 = .ok (.iconst 0, 1) := by decide +kernel
theorem dX1_takeOver_13 : decode cX1_takeOver 13 = .ok (.aload_n 0, 1) := by decide +kernel
theorem dX1_takeOver_14 : decode cX1_takeOver 14 = .ok (.getfield 15, 3) := by decide +kernel
theorem dX1_takeOver_17 : decode cX1_takeOver 17 = .ok (.iconst 0, 1) := by decide +kernel
theorem dX1_takeOver_18 : decode cX1_takeOver 18 = .ok (.iconst 4, 1) := by decide +kernel
theorem dX1_takeOver_19 : decode cX1_takeOver 19 = .ok (.invokestatic 63, 3) := by decide +kernel
theorem dX1_takeOver_22 : decode cX1_takeOver 22 = .ok (.aload_n 1, 1) := by decide +kernel
theorem dX1_takeOver_23 : decode cX1_takeOver 23 = .ok (.getfield 19, 3) := by decide +kernel
theorem dX1_takeOver_26 : decode cX1_takeOver 26 = .ok (.iconst 0, 1) := by decide +kernel
theorem dX1_takeOver_27 : decode cX1_takeOver 27 = .ok (.aload_n 0, 1) := by decide +kernel
theorem dX1_takeOver_28 : decode cX1_takeOver 28 = .ok (.getfield 19, 3) := by decide +kernel
theorem dX1_takeOver_31 : decode cX1_takeOver 31 = .ok (.iconst 0, 1) := by decide +kernel
theorem dX1_takeOver_32 : decode cX1_takeOver 32 = .ok (.iconst 4, 1) := by decide +kernel
theorem dX1_takeOver_33 : decode cX1_takeOver 33 = .ok (.invokestatic 63, 3) := by decide +kernel
theorem dX1_takeOver_36 : decode cX1_takeOver 36 = .ok (.aload_n 1, 1) := by decide +kernel
theorem dX1_takeOver_37 : decode cX1_takeOver 37 = .ok (.getfield 22, 3) := by decide +kernel
theorem dX1_takeOver_40 : decode cX1_takeOver 40 = .ok (.iconst 0, 1) := by decide +kernel
theorem dX1_takeOver_41 : decode cX1_takeOver 41 = .ok (.aload_n 0, 1) := by decide +kernel
theorem dX1_takeOver_42 : decode cX1_takeOver 42 = .ok (.getfield 22, 3) := by decide +kernel
theorem dX1_takeOver_45 : decode cX1_takeOver 45 = .ok (.iconst 0, 1) := by decide +kernel
theorem dX1_takeOver_46 : decode cX1_takeOver 46 = .ok (.iconst 4, 1) := by decide +kernel
theorem dX1_takeOver_47 : decode cX1_takeOver 47 = .ok (.invokestatic 63, 3) := by decide +kernel
theorem dX1_takeOver_50 : decode cX1_takeOver 50 = .ok (.aload_n 1, 1) := by decide +kernel
theorem dX1_takeOver_51 : decode cX1_takeOver 51 = .ok (.getfield 26, 3) := by decide +kernel
theorem dX1_takeOver_54 : decode cX1_takeOver 54 = .ok (.iconst 0, 1) := by decide +kernel
theorem dX1_takeOver_55 : decode cX1_takeOver 55 = .ok (.aload_n 0, 1) := by decide +kernel
theorem dX1_takeOver_56 : decode cX1_takeOver 56 = .ok (.getfield 26, 3) := by decide +kernel
theorem dX1_takeOver_59 : decode cX1_takeOver 59 = .ok (.iconst 0, 1) := by decide +kernel
theorem dX1_takeOver_60 : decode cX1_takeOver 60 = .ok (.bipush 64, 2) := by decide +kernel
theorem dX1_takeOver_62 : decode cX1_takeOver 62 = .ok (.invokestatic 63, 3) := by decide +kernel
theorem dX1_takeOver_65 : decode cX1_takeOver 65 = .ok (.aload_n 1, 1) := by decide +kernel
theorem dX1_takeOver_66 : decode cX1_takeOver 66 = .ok (.getfield 29, 3) := by decide +kernel
theorem dX1_takeOver_69 : decode cX1_takeOver 69 = .ok (.iconst 0, 1) := by decide +kernel
theorem dX1_takeOver_70 : decode cX1_takeOver 70 = .ok (.aload_n 0, 1) := by decide +kernel
theorem dX1_takeOver_71 : decode cX1_takeOver 71 = .ok (.getfield 29, 3) := by decide +kernel
theorem dX1_takeOver_74 : decode cX1_takeOver 74 = .ok (.iconst 0, 1) := by decide +kernel
theorem dX1_takeOver_75 : decode cX1_takeOver 75 = .ok (.bipush 64, 2) := by decide +kernel
theorem dX1_takeOver_77 : decode cX1_takeOver 77 = .ok (.invokestatic 63, 3) := by decide +kernel
theorem dX1_takeOver_80 : decode cX1_takeOver 80 = .ok (.aload_n 1, 1) := by decide +kernel
theorem dX1_takeOver_81 : decode cX1_takeOver 81 = .ok (.getfield 32, 3) := by decide +kernel
theorem dX1_takeOver_84 : decode cX1_takeOver 84 = .ok (.iconst 0, 1) := by decide +kernel
theorem dX1_takeOver_85 : decode cX1_takeOver 85 = .ok (.aload_n 0, 1) := by decide +kernel
theorem dX1_takeOver_86 : decode cX1_takeOver 86 = .ok (.getfield 32, 3) := by decide +kernel
theorem dX1_takeOver_89 : decode cX1_takeOver 89 = .ok (.iconst 0, 1) := by decide +kernel
theorem dX1_takeOver_90 : decode cX1_takeOver 90 = .ok (.bipush 64, 2) := by decide +kernel
theorem dX1_takeOver_92 : decode cX1_takeOver 92 = .ok (.invokestatic 63, 3) := by decide +kernel
theorem dX1_takeOver_95 : decode cX1_takeOver 95 = .ok (.aload_n 1, 1) := by decide +kernel
theorem dX1_takeOver_96 : decode cX1_takeOver 96 = .ok (.getfield 35, 3) := by decide +kernel
theorem dX1_takeOver_99 : decode cX1_takeOver 99 = .ok (.iconst 0, 1) := by decide +kernel
theorem dX1_takeOver_100 : decode cX1_takeOver 100 = .ok (.aload_n 0, 1) := by decide +kernel
theorem dX1_takeOver_101 : decode cX1_takeOver 101 = .ok (.getfield 35, 3) := by decide +kernel
theorem dX1_takeOver_104 : decode cX1_takeOver 104 = .ok (.iconst 0, 1) := by decide +kernel
theorem dX1_takeOver_105 : decode cX1_takeOver 105 = .ok (.bipush 64, 2) := by decide +kernel
theorem dX1_takeOver_107 : decode cX1_takeOver 107 = .ok (.invokestatic 63, 3) := by decide +kernel
theorem dX1_takeOver_110 : decode cX1_takeOver 110 = .ok (.aload_n 1, 1) := by decide +kernel
theorem dX1_takeOver_111 : decode cX1_takeOver 111 = .ok (.getfield 38, 3) := by decide +kernel
theorem dX1_takeOver_114 : decode cX1_takeOver 114 = .ok (.iconst 0, 1) := by decide +kernel
theorem dX1_takeOver_115 : decode cX1_takeOver 115 = .ok (.aload_n 0, 1) := by decide +kernel
theorem dX1_takeOver_116 : decode cX1_takeOver 116 = .ok (.getfield 38, 3) := by decide +kernel
theorem dX1_takeOver_119 : decode cX1_takeOver 119 = .ok (.iconst 0, 1) := by decide +kernel
theorem dX1_takeOver_120 : decode cX1_takeOver 120 = .ok (.bipush 64, 2) := by decide +kernel
theorem dX1_takeOver_122 : decode cX1_takeOver 122 = .ok (.invokestatic 63, 3) := by decide +kernel
theorem dX1_takeOver_125 : decode cX1_takeOver 125 = .ok (.aload_n 0, 1) := by decide +kernel
theorem dX1_takeOver_126 : decode cX1_takeOver 126 = .ok (.aload_n 1, 1) := by decide +kernel
theorem dX1_takeOver_127 : decode cX1_takeOver 127 = .ok (.getfield 41, 3) := by decide +kernel
theorem dX1_takeOver_130 : decode cX1_takeOver 130 = .ok (.putfield 41, 3) := by decide +kernel
theorem dX1_takeOver_133 : decode cX1_takeOver 133 = .ok (.aload_n 0, 1) := by decide +kernel
theorem dX1_takeOver_134 : decode cX1_takeOver 134 = .ok (.aload_n 1, 1) := by decide +kernel
theorem dX1_takeOver_135 : decode cX1_takeOver 135 = .ok (.getfield 44, 3) := by decide +kernel
theorem dX1_takeOver_138 : decode cX1_takeOver 138 = .ok (.putfield 44, 3) := by decide +kernel
theorem dX1_takeOver_141 : decode cX1_takeOver 141 = .ok (.aload_n 0, 1) := by decide +kernel
theorem dX1_takeOver_142 : decode cX1_takeOver 142 = .ok (.aload_n 1, 1) := by decide +kernel
theorem dX1_takeOver_143 : decode cX1_takeOver 143 = .ok (.getfield 47, 3) := by decide +kernel
theorem dX1_takeOver_146 : decode cX1_takeOver 146 = .ok (.putfield 47, 3) := by decide +kernel
theorem dX1_takeOver_149 : decode cX1_takeOver 149 = .ok (.aload_n 0, 1) := by decide +kernel
theorem dX1_takeOver_150 : decode cX1_takeOver 150 = .ok (.aload_n 1, 1) := by decide +kernel
theorem dX1_takeOver_151 : decode cX1_takeOver 151 = .ok (.getfield 50, 3) := by decide +kernel
theorem dX1_takeOver_154 : decode cX1_takeOver 154 = .ok (.putfield 50, 3) := by decide +kernel
theorem dX1_takeOver_157 : decode cX1_takeOver 157 = .ok (.aload_n 0, 1) := by decide +kernel
theorem dX1_takeOver_158 : decode cX1_takeOver 158 = .ok (.aload_n 1, 1) := by decide +kernel
theorem dX1_takeOver_159 : decode cX1_takeOver 159 = .ok (.getfield 53, 3) := by decide +kernel
theorem dX1_takeOver_162 : decode cX1_takeOver 162 = .ok (.putfield 53, 3) := by decide +kernel
theorem dX1_takeOver_165 : decode cX1_takeOver 165 = .ok (.aload_n 0, 1) := by decide +kernel
theorem dX1_takeOver_166 : decode cX1_takeOver 166 = .ok (.aload_n 1, 1) := by decide +kernel
theorem dX1_takeOver_167 : decode cX1_takeOver 167 = .ok (.getfield 56, 3) := by decide +kernel
theorem dX1_takeOver_170 : decode cX1_takeOver 170 = .ok (.putfield 56, 3) := by decide +kernel
theorem dX1_takeOver_173 : decode cX1_takeOver 173 = .ok (.return_, 1) := by decide +kernel
set_option maxRecDepth 20000 in
theorem ggX1_divide_X1_isAddress : GoodIn wsX1_divide wsX1_isAddress := goodIn_r _ [8, 1, 9, 10, 11, 12, 13, 14, 15, 16, 17, 18, 19, 20, 21, 22, 23, 24, 25, 26, 27, 28, 29, 30] (by decide +kernel) (by decide +kernel)
set_option maxRecDepth 20000 in
theorem gX1_divide_X1_isAddress : GoodIn wsX1_divide (wsV RX1 69 RX1 yX1_isAddress wsX1_isAddress) := goodIn_app (goodIn_of _ (by decide +kernel)) ggX1_divide_X1_isAddress
theorem dX1_divide_0 : decode cX1_divide 0 = .ok (.aload_n 0, 1) := by decide +kernel
theorem dX1_divide_1 : decode cX1_divide 1 = .ok (.getfield 19, 3) := by decide +kernel
theorem dX1_divide_4 : decode cX1_divide 4 = .ok (.iload_n 1, 1) := by decide +kernel
theorem dX1_divide_5 : decode cX1_divide 5 = .ok (.iload_n 2, 1) := by decide +kernel
theorem dX1_divide_6 : decode cX1_divide 6 = .ok (.iastore, 1) := by decide +kernel
theorem dX1_divide_7 : decode cX1_divide 7 = .ok (.iconst 0, 1) := by decide +kernel
theorem dX1_divide_8 : decode cX1_divide 8 = .ok (.istore_n 3, 1) := by decide +kernel
theorem dX1_divide_9 : decode cX1_divide 9 = .ok (.iload_n 3, 1) := by decide +kernel
theorem dX1_divide_10 : decode cX1_divide 10 = .ok (.bipush 16, 2) := by decide +kernel
theorem dX1_divide_12 : decode cX1_divide 12 = .ok (.if_icmp .ge 53, 3) := by decide +kernel
theorem dX1_divide_15 : decode cX1_divide 15 = .ok (.iload_n 1, 1) := by decide +kernel
theorem dX1_divide_16 : decode cX1_divide 16 = .ok (.bipush 16, 2) := by decide +kernel
theorem dX1_divide_18 : decode cX1_divide 18 = .ok (.imul, 1) := by decide +kernel
theorem dX1_divide_19 : decode cX1_divide 19 = .ok (.iload_n 3, 1) := by decide +kernel
theorem dX1_divide_20 : decode cX1_divide 20 = .ok (.iadd, 1) := by decide +kernel
theorem dX1_divide_21 : decode cX1_divide 21 = .ok (.istore 4, 2) := by decide +kernel
theorem dX1_divide_23 : decode cX1_divide 23 = .ok (.aload_n 0, 1) := by decide +kernel
theorem dX1_divide_24 : decode cX1_divide 24 = .ok (.iload 4, 2) := by decide +kernel
theorem dX1_divide_26 : decode cX1_divide 26 = .ok (.invokevirtual 69, 3) := by decide +kernel
theorem dX1_divide_29 : decode cX1_divide 29 = .ok (.ifCond .eq 8, 3) := by decide +kernel
theorem dX1_divide_32 : decode cX1_divide 32 = .ok (.iload 4, 2) := by decide +kernel
theorem dX1_divide_34 : decode cX1_divide 34 = .ok (.goto 5, 3) := by decide +kernel
theorem dX1_divide_37 : decode cX1_divide 37 = .ok (.bipush (-5), 2) := by decide +kernel
theorem dX1_divide_39 : decode cX1_divide 39 = .ok (.istore 5, 2) := by decide +kernel
theorem dX1_divide_41 : decode cX1_divide 41 = .ok (.aload_n 0, 1) := by decide +kernel
theorem dX1_divide_42 : decode cX1_divide 42 = .ok (.getfield 35, 3) := by decide +kernel
theorem dX1_divide_45 : decode cX1_divide 45 = .ok (.iload 4, 2) := by decide +kernel
theorem dX1_divide_47 : decode cX1_divide 47 = .ok (.iload 5, 2) := by decide +kernel
theorem dX1_divide_49 : decode cX1_divide 49 = .ok (.iastore, 1) := by decide +kernel
theorem dX1_divide_50 : decode cX1_divide 50 = .ok (.aload_n 0, 1) := by decide +kernel
theorem dX1_divide_51 : decode cX1_divide 51 = .ok (.getfield 38, 3) := by decide +kernel
theorem dX1_divide_54 : decode cX1_divide 54 = .ok (.iload 4, 2) := by decide +kernel
theorem dX1_divide_56 : decode cX1_divide 56 = .ok (.iload 5, 2) := by decide +kernel
theorem dX1_divide_58 : decode cX1_divide 58 = .ok (.iastore, 1) := by decide +kernel
theorem dX1_divide_59 : decode cX1_divide 59 = .ok (.iinc 3 1, 3) := by decide +kernel
theorem dX1_divide_62 : decode cX1_divide 62 = .ok (.goto (-53), 3) := by decide +kernel
theorem dX1_divide_65 : decode cX1_divide 65 = .ok (.return_, 1) := by decide +kernel
set_option maxRecDepth 20000 in
theorem ggX1_isAddress_X3_isSector : GoodIn wsX1_isAddress wsX3_isSector := goodIn_r _ [4] (by decide +kernel) (by decide +kernel)
set_option maxRecDepth 20000 in
theorem gX1_isAddress_X3_isSector_n73 : GoodIn wsX1_isAddress (wsX3_isSector) := ggX1_isAddress_X3_isSector
set_option maxRecDepth 20000 in
theorem ggX1_isAddress_X3_placeOf : GoodIn wsX1_isAddress wsX3_placeOf := goodIn_r _ [6] (by decide +kernel) (by decide +kernel)
set_option maxRecDepth 20000 in
theorem gX1_isAddress_X3_placeOf_n76 : GoodIn wsX1_isAddress (wsX3_placeOf) := ggX1_isAddress_X3_placeOf
set_option maxRecDepth 20000 in
theorem ggX1_isAddress_X3_headOf : GoodIn wsX1_isAddress wsX3_headOf := goodIn_r _ [8] (by decide +kernel) (by decide +kernel)
set_option maxRecDepth 20000 in
theorem gX1_isAddress_X3_headOf_n80 : GoodIn wsX1_isAddress (wsX3_headOf) := ggX1_isAddress_X3_headOf
theorem dX1_isAddress_0 : decode cX1_isAddress 0 = .ok (.iload_n 1, 1) := by decide +kernel
theorem dX1_isAddress_1 : decode cX1_isAddress 1 = .ok (.invokestatic 73, 3) := by decide +kernel
theorem dX1_isAddress_4 : decode cX1_isAddress 4 = .ok (.ifCond .eq 26, 3) := by decide +kernel
theorem dX1_isAddress_7 : decode cX1_isAddress 7 = .ok (.iload_n 1, 1) := by decide +kernel
theorem dX1_isAddress_8 : decode cX1_isAddress 8 = .ok (.invokestatic 76, 3) := by decide +kernel
theorem dX1_isAddress_11 : decode cX1_isAddress 11 = .ok (.bipush 16, 2) := by decide +kernel
theorem dX1_isAddress_13 : decode cX1_isAddress 13 = .ok (.aload_n 0, 1) := by decide +kernel
theorem dX1_isAddress_14 : decode cX1_isAddress 14 = .ok (.getfield 19, 3) := by decide +kernel
theorem dX1_isAddress_17 : decode cX1_isAddress 17 = .ok (.iload_n 1, 1) := by decide +kernel
theorem dX1_isAddress_18 : decode cX1_isAddress 18 = .ok (.invokestatic 80, 3) := by decide +kernel
theorem dX1_isAddress_21 : decode cX1_isAddress 21 = .ok (.iaload, 1) := by decide +kernel
theorem dX1_isAddress_22 : decode cX1_isAddress 22 = .ok (.isub, 1) := by decide +kernel
theorem dX1_isAddress_23 : decode cX1_isAddress 23 = .ok (.if_icmp .ge 7, 3) := by decide +kernel
theorem dX1_isAddress_26 : decode cX1_isAddress 26 = .ok (.iconst 1, 1) := by decide +kernel
theorem dX1_isAddress_27 : decode cX1_isAddress 27 = .ok (.goto 4, 3) := by decide +kernel
theorem dX1_isAddress_30 : decode cX1_isAddress 30 = .ok (.iconst 0, 1) := by decide +kernel
theorem dX1_isAddress_31 : decode cX1_isAddress 31 = .ok (.ireturn, 1) := by decide +kernel
theorem dX1_isGivenUp_0 : decode cX1_isGivenUp 0 = .ok (.aload_n 0, 1) := by decide +kernel
theorem dX1_isGivenUp_1 : decode cX1_isGivenUp 1 = .ok (.getfield 22, 3) := by decide +kernel
theorem dX1_isGivenUp_4 : decode cX1_isGivenUp 4 = .ok (.iload_n 1, 1) := by decide +kernel
theorem dX1_isGivenUp_5 : decode cX1_isGivenUp 5 = .ok (.baload, 1) := by decide +kernel
theorem dX1_isGivenUp_6 : decode cX1_isGivenUp 6 = .ok (.ireturn, 1) := by decide +kernel
theorem dX1_othersAreGivenUp_0 : decode cX1_othersAreGivenUp 0 = .ok (.iconst 0, 1) := by decide +kernel
theorem dX1_othersAreGivenUp_1 : decode cX1_othersAreGivenUp 1 = .ok (.istore_n 2, 1) := by decide +kernel
theorem dX1_othersAreGivenUp_2 : decode cX1_othersAreGivenUp 2 = .ok (.iload_n 2, 1) := by decide +kernel
theorem dX1_othersAreGivenUp_3 : decode cX1_othersAreGivenUp 3 = .ok (.iconst 4, 1) := by decide +kernel
theorem dX1_othersAreGivenUp_4 : decode cX1_othersAreGivenUp 4 = .ok (.if_icmp .ge 25, 3) := by decide +kernel
theorem dX1_othersAreGivenUp_7 : decode cX1_othersAreGivenUp 7 = .ok (.iload_n 2, 1) := by decide +kernel
theorem dX1_othersAreGivenUp_8 : decode cX1_othersAreGivenUp 8 = .ok (.iload_n 1, 1) := by decide +kernel
theorem dX1_othersAreGivenUp_9 : decode cX1_othersAreGivenUp 9 = .ok (.if_icmp .eq 14, 3) := by decide +kernel
theorem dX1_othersAreGivenUp_12 : decode cX1_othersAreGivenUp 12 = .ok (.aload_n 0, 1) := by decide +kernel
theorem dX1_othersAreGivenUp_13 : decode cX1_othersAreGivenUp 13 = .ok (.getfield 22, 3) := by decide +kernel
theorem dX1_othersAreGivenUp_16 : decode cX1_othersAreGivenUp 16 = .ok (.iload_n 2, 1) := by decide +kernel
theorem dX1_othersAreGivenUp_17 : decode cX1_othersAreGivenUp 17 = .ok (.baload, 1) := by decide +kernel
theorem dX1_othersAreGivenUp_18 : decode cX1_othersAreGivenUp 18 = .ok (.ifCond .ne 5, 3) := by decide +kernel
theorem dX1_othersAreGivenUp_21 : decode cX1_othersAreGivenUp 21 = .ok (.iconst 0, 1) := by decide +kernel
theorem dX1_othersAreGivenUp_22 : decode cX1_othersAreGivenUp 22 = .ok (.ireturn, 1) := by decide +kernel
theorem dX1_othersAreGivenUp_23 : decode cX1_othersAreGivenUp 23 = .ok (.iinc 2 1, 3) := by decide +kernel
theorem dX1_othersAreGivenUp_26 : decode cX1_othersAreGivenUp 26 = .ok (.goto (-24), 3) := by decide +kernel
theorem dX1_othersAreGivenUp_29 : decode cX1_othersAreGivenUp 29 = .ok (.iconst 1, 1) := by decide +kernel
theorem dX1_othersAreGivenUp_30 : decode cX1_othersAreGivenUp 30 = .ok (.ireturn, 1) := by decide +kernel
theorem dX1_stepsSoFar_0 : decode cX1_stepsSoFar 0 = .ok (.aload_n 0, 1) := by decide +kernel
theorem dX1_stepsSoFar_1 : decode cX1_stepsSoFar 1 = .ok (.getfield 44, 3) := by decide +kernel
theorem dX1_stepsSoFar_4 : decode cX1_stepsSoFar 4 = .ok (.ireturn, 1) := by decide +kernel
theorem dX1_isLost_0 : decode cX1_isLost 0 = .ok (.aload_n 0, 1) := by decide +kernel
theorem dX1_isLost_1 : decode cX1_isLost 1 = .ok (.getfield 35, 3) := by decide +kernel
theorem dX1_isLost_4 : decode cX1_isLost 4 = .ok (.iload_n 1, 1) := by decide +kernel
theorem dX1_isLost_5 : decode cX1_isLost 5 = .ok (.iaload, 1) := by decide +kernel
theorem dX1_isLost_6 : decode cX1_isLost 6 = .ok (.bipush (-5), 2) := by decide +kernel
theorem dX1_isLost_8 : decode cX1_isLost 8 = .ok (.if_icmp .ne 7, 3) := by decide +kernel
theorem dX1_isLost_11 : decode cX1_isLost 11 = .ok (.iconst 1, 1) := by decide +kernel
theorem dX1_isLost_12 : decode cX1_isLost 12 = .ok (.goto 4, 3) := by decide +kernel
theorem dX1_isLost_15 : decode cX1_isLost 15 = .ok (.iconst 0, 1) := by decide +kernel
theorem dX1_isLost_16 : decode cX1_isLost 16 = .ok (.ireturn, 1) := by decide +kernel
set_option maxRecDepth 20000 in
theorem ggX1_isLongWay_X1_isLost : GoodIn wsX1_isLongWay wsX1_isLost := goodIn_r _ [6, 1, 7, 8, 9, 10, 11, 12, 13, 14, 15, 16, 17, 18, 19, 20, 21] (by decide +kernel) (by decide +kernel)
set_option maxRecDepth 20000 in
theorem gX1_isLongWay_X1_isLost : GoodIn wsX1_isLongWay (wsV RX1 83 RX1 yX1_isLost wsX1_isLost) := goodIn_app (goodIn_of _ (by decide +kernel)) ggX1_isLongWay_X1_isLost
theorem dX1_isLongWay_0 : decode cX1_isLongWay 0 = .ok (.aload_n 0, 1) := by decide +kernel
theorem dX1_isLongWay_1 : decode cX1_isLongWay 1 = .ok (.iload_n 1, 1) := by decide +kernel
theorem dX1_isLongWay_2 : decode cX1_isLongWay 2 = .ok (.invokevirtual 83, 3) := by decide +kernel
theorem dX1_isLongWay_5 : decode cX1_isLongWay 5 = .ok (.ifCond .ne 17, 3) := by decide +kernel
theorem dX1_isLongWay_8 : decode cX1_isLongWay 8 = .ok (.aload_n 0, 1) := by decide +kernel
theorem dX1_isLongWay_9 : decode cX1_isLongWay 9 = .ok (.getfield 35, 3) := by decide +kernel
theorem dX1_isLongWay_12 : decode cX1_isLongWay 12 = .ok (.iload_n 1, 1) := by decide +kernel
theorem dX1_isLongWay_13 : decode cX1_isLongWay 13 = .ok (.iaload, 1) := by decide +kernel
theorem dX1_isLongWay_14 : decode cX1_isLongWay 14 = .ok (.iload_n 1, 1) := by decide +kernel
theorem dX1_isLongWay_15 : decode cX1_isLongWay 15 = .ok (.if_icmp .eq 7, 3) := by decide +kernel
theorem dX1_isLongWay_18 : decode cX1_isLongWay 18 = .ok (.iconst 1, 1) := by decide +kernel
theorem dX1_isLongWay_19 : decode cX1_isLongWay 19 = .ok (.goto 4, 3) := by decide +kernel
theorem dX1_isLongWay_22 : decode cX1_isLongWay 22 = .ok (.iconst 0, 1) := by decide +kernel
theorem dX1_isLongWay_23 : decode cX1_isLongWay 23 = .ok (.ireturn, 1) := by decide +kernel
theorem dX1_isGood_0 : decode cX1_isGood 0 = .ok (.aload_n 0, 1) := by decide +kernel
theorem dX1_isGood_1 : decode cX1_isGood 1 = .ok (.getfield 26, 3) := by decide +kernel
theorem dX1_isGood_4 : decode cX1_isGood 4 = .ok (.iload_n 1, 1) := by decide +kernel
theorem dX1_isGood_5 : decode cX1_isGood 5 = .ok (.iaload, 1) := by decide +kernel
theorem dX1_isGood_6 : decode cX1_isGood 6 = .ok (.aload_n 0, 1) := by decide +kernel
theorem dX1_isGood_7 : decode cX1_isGood 7 = .ok (.getfield 9, 3) := by decide +kernel
theorem dX1_isGood_10 : decode cX1_isGood 10 = .ok (.if_icmp .ge 7, 3) := by decide +kernel
theorem dX1_isGood_13 : decode cX1_isGood 13 = .ok (.iconst 1, 1) := by decide +kernel
theorem dX1_isGood_14 : decode cX1_isGood 14 = .ok (.goto 4, 3) := by decide +kernel
theorem dX1_isGood_17 : decode cX1_isGood 17 = .ok (.iconst 0, 1) := by decide +kernel
theorem dX1_isGood_18 : decode cX1_isGood 18 = .ok (.ireturn, 1) := by decide +kernel
theorem dX1_isBad_0 : decode cX1_isBad 0 = .ok (.aload_n 0, 1) := by decide +kernel
theorem dX1_isBad_1 : decode cX1_isBad 1 = .ok (.getfield 26, 3) := by decide +kernel
theorem dX1_isBad_4 : decode cX1_isBad 4 = .ok (.iload_n 1, 1) := by decide +kernel
theorem dX1_isBad_5 : decode cX1_isBad 5 = .ok (.iaload, 1) := by decide +kernel
theorem dX1_isBad_6 : decode cX1_isBad 6 = .ok (.iconst 2, 1) := by decide +kernel
theorem dX1_isBad_7 : decode cX1_isBad 7 = .ok (.aload_n 0, 1) := by decide +kernel
theorem dX1_isBad_8 : decode cX1_isBad 8 = .ok (.getfield 9, 3) := by decide +kernel
theorem dX1_isBad_11 : decode cX1_isBad 11 = .ok (.imul, 1) := by decide +kernel
theorem dX1_isBad_12 : decode cX1_isBad 12 = .ok (.if_icmp .lt 7, 3) := by decide +kernel
theorem dX1_isBad_15 : decode cX1_isBad 15 = .ok (.iconst 1, 1) := by decide +kernel
theorem dX1_isBad_16 : decode cX1_isBad 16 = .ok (.goto 4, 3) := by decide +kernel
theorem dX1_isBad_19 : decode cX1_isBad 19 = .ok (.iconst 0, 1) := by decide +kernel
theorem dX1_isBad_20 : decode cX1_isBad 20 = .ok (.ireturn, 1) := by decide +kernel
set_option maxRecDepth 20000 in
theorem ggX1_gradeOf_X1_isGood : GoodIn wsX1_gradeOf wsX1_isGood := goodIn_r _ [5, 6, 7, 12, 13, 14, 15, 16, 17, 18, 19, 20, 21, 22, 23, 24, 25, 26] (by decide +kernel) (by decide +kernel)
set_option maxRecDepth 20000 in
theorem gX1_gradeOf_X1_isGood : GoodIn wsX1_gradeOf (wsV RX1 86 RX1 yX1_isGood wsX1_isGood) := goodIn_app (goodIn_of _ (by decide +kernel)) ggX1_gradeOf_X1_isGood
set_option maxRecDepth 20000 in
theorem ggX1_gradeOf_X1_isBad : GoodIn wsX1_gradeOf wsX1_isBad := goodIn_r _ [11, 6, 7, 12, 13, 14, 15, 16, 17, 18, 19, 20, 21, 22, 23, 24, 25, 26] (by decide +kernel) (by decide +kernel)
set_option maxRecDepth 20000 in
theorem gX1_gradeOf_X1_isBad : GoodIn wsX1_gradeOf (wsV RX1 89 RX1 yX1_isBad wsX1_isBad) := goodIn_app (goodIn_of _ (by decide +kernel)) ggX1_gradeOf_X1_isBad
theorem dX1_gradeOf_0 : decode cX1_gradeOf 0 = .ok (.aload_n 0, 1) := by decide +kernel
theorem dX1_gradeOf_1 : decode cX1_gradeOf 1 = .ok (.iload_n 1, 1) := by decide +kernel
theorem dX1_gradeOf_2 : decode cX1_gradeOf 2 = .ok (.invokevirtual 86, 3) := by decide +kernel
theorem dX1_gradeOf_5 : decode cX1_gradeOf 5 = .ok (.ifCond .eq 5, 3) := by decide +kernel
theorem dX1_gradeOf_8 : decode cX1_gradeOf 8 = .ok (.iconst 0, 1) := by decide +kernel
theorem dX1_gradeOf_9 : decode cX1_gradeOf 9 = .ok (.ireturn, 1) := by decide +kernel
theorem dX1_gradeOf_10 : decode cX1_gradeOf 10 = .ok (.aload_n 0, 1) := by decide +kernel
theorem dX1_gradeOf_11 : decode cX1_gradeOf 11 = .ok (.iload_n 1, 1) := by decide +kernel
theorem dX1_gradeOf_12 : decode cX1_gradeOf 12 = .ok (.invokevirtual 89, 3) := by decide +kernel
theorem dX1_gradeOf_15 : decode cX1_gradeOf 15 = .ok (.ifCond .eq 7, 3) := by decide +kernel
theorem dX1_gradeOf_18 : decode cX1_gradeOf 18 = .ok (.iconst 2, 1) := by decide +kernel
theorem dX1_gradeOf_19 : decode cX1_gradeOf 19 = .ok (.goto 4, 3) := by decide +kernel
theorem dX1_gradeOf_22 : decode cX1_gradeOf 22 = .ok (.iconst 1, 1) := by decide +kernel
theorem dX1_gradeOf_23 : decode cX1_gradeOf 23 = .ok (.ireturn, 1) := by decide +kernel
set_option maxRecDepth 20000 in
theorem ggX1_isFree_X3_headOf : GoodIn wsX1_isFree wsX3_headOf := goodIn_r _ [6] (by decide +kernel) (by decide +kernel)
set_option maxRecDepth 20000 in
theorem gX1_isFree_X3_headOf_n80 : GoodIn wsX1_isFree (wsX3_headOf) := ggX1_isFree_X3_headOf
set_option maxRecDepth 20000 in
theorem ggX1_isFree_X3_placeOf : GoodIn wsX1_isFree wsX3_placeOf := goodIn_r _ [8] (by decide +kernel) (by decide +kernel)
set_option maxRecDepth 20000 in
theorem gX1_isFree_X3_placeOf_n76 : GoodIn wsX1_isFree (wsX3_placeOf) := ggX1_isFree_X3_placeOf
set_option maxRecDepth 20000 in
theorem ggX1_isFree_X1_isGood : GoodIn wsX1_isFree wsX1_isGood := goodIn_r _ [13, 14, 15, 16, 17, 18, 19, 20, 21, 22, 23, 24, 25, 26, 27, 28, 29, 30] (by decide +kernel) (by decide +kernel)
set_option maxRecDepth 20000 in
theorem gX1_isFree_X1_isGood : GoodIn wsX1_isFree (wsV RX1 86 RX1 yX1_isGood wsX1_isGood) := goodIn_app (goodIn_of _ (by decide +kernel)) ggX1_isFree_X1_isGood
theorem dX1_isFree_0 : decode cX1_isFree 0 = .ok (.iload_n 1, 1) := by decide +kernel
theorem dX1_isFree_1 : decode cX1_isFree 1 = .ok (.invokestatic 80, 3) := by decide +kernel
theorem dX1_isFree_4 : decode cX1_isFree 4 = .ok (.istore_n 2, 1) := by decide +kernel
theorem dX1_isFree_5 : decode cX1_isFree 5 = .ok (.iload_n 1, 1) := by decide +kernel
theorem dX1_isFree_6 : decode cX1_isFree 6 = .ok (.invokestatic 76, 3) := by decide +kernel
theorem dX1_isFree_9 : decode cX1_isFree 9 = .ok (.bipush 16, 2) := by decide +kernel
theorem dX1_isFree_11 : decode cX1_isFree 11 = .ok (.aload_n 0, 1) := by decide +kernel
theorem dX1_isFree_12 : decode cX1_isFree 12 = .ok (.getfield 19, 3) := by decide +kernel
theorem dX1_isFree_15 : decode cX1_isFree 15 = .ok (.iload_n 2, 1) := by decide +kernel
theorem dX1_isFree_16 : decode cX1_isFree 16 = .ok (.iaload, 1) := by decide +kernel
theorem dX1_isFree_17 : decode cX1_isFree 17 = .ok (.isub, 1) := by decide +kernel
theorem dX1_isFree_18 : decode cX1_isFree 18 = .ok (.if_icmp .lt 7, 3) := by decide +kernel
theorem dX1_isFree_21 : decode cX1_isFree 21 = .ok (.iconst 1, 1) := by decide +kernel
theorem dX1_isFree_22 : decode cX1_isFree 22 = .ok (.goto 4, 3) := by decide +kernel
theorem dX1_isFree_25 : decode cX1_isFree 25 = .ok (.iconst 0, 1) := by decide +kernel
theorem dX1_isFree_26 : decode cX1_isFree 26 = .ok (.istore_n 3, 1) := by decide +kernel
theorem dX1_isFree_27 : decode cX1_isFree 27 = .ok (.iload_n 3, 1) := by decide +kernel
theorem dX1_isFree_28 : decode cX1_isFree 28 = .ok (.ifCond .eq 35, 3) := by decide +kernel
theorem dX1_isFree_31 : decode cX1_isFree 31 = .ok (.aload_n 0, 1) := by decide +kernel
theorem dX1_isFree_32 : decode cX1_isFree 32 = .ok (.getfield 38, 3) := by decide +kernel
theorem dX1_isFree_35 : decode cX1_isFree 35 = .ok (.iload_n 1, 1) := by decide +kernel
theorem dX1_isFree_36 : decode cX1_isFree 36 = .ok (.iaload, 1) := by decide +kernel
theorem dX1_isFree_37 : decode cX1_isFree 37 = .ok (.bipush (-5), 2) := by decide +kernel
theorem dX1_isFree_39 : decode cX1_isFree 39 = .ok (.if_icmp .ne 24, 3) := by decide +kernel
theorem dX1_isFree_42 : decode cX1_isFree 42 = .ok (.aload_n 0, 1) := by decide +kernel
theorem dX1_isFree_43 : decode cX1_isFree 43 = .ok (.iload_n 1, 1) := by decide +kernel
theorem dX1_isFree_44 : decode cX1_isFree 44 = .ok (.invokevirtual 86, 3) := by decide +kernel
theorem dX1_isFree_47 : decode cX1_isFree 47 = .ok (.ifCond .eq 16, 3) := by decide +kernel
theorem dX1_isFree_50 : decode cX1_isFree 50 = .ok (.aload_n 0, 1) := by decide +kernel
theorem dX1_isFree_51 : decode cX1_isFree 51 = .ok (.getfield 22, 3) := by decide +kernel
theorem dX1_isFree_54 : decode cX1_isFree 54 = .ok (.iload_n 2, 1) := by decide +kernel
theorem dX1_isFree_55 : decode cX1_isFree 55 = .ok (.baload, 1) := by decide +kernel
theorem dX1_isFree_56 : decode cX1_isFree 56 = .ok (.ifCond .ne 7, 3) := by decide +kernel
theorem dX1_isFree_59 : decode cX1_isFree 59 = .ok (.iconst 1, 1) := by decide +kernel
theorem dX1_isFree_60 : decode cX1_isFree 60 = .ok (.goto 4, 3) := by decide +kernel
theorem dX1_isFree_63 : decode cX1_isFree 63 = .ok (.iconst 0, 1) := by decide +kernel
theorem dX1_isFree_64 : decode cX1_isFree 64 = .ok (.ireturn, 1) := by decide +kernel
set_option maxRecDepth 20000 in
theorem ggX1_freeOf_X1_isFree : GoodIn wsX1_freeOf wsX1_isFree := goodIn_r _ [5, 6, 7, 8, 9, 10, 11, 12, 13, 14, 15, 16, 4, 17, 18, 19, 20, 21, 22, 23, 24, 25, 26, 27, 28, 29, 30, 31, 32, 33, 34] (by decide +kernel) (by decide +kernel)
set_option maxRecDepth 20000 in
theorem gX1_freeOf_X1_isFree : GoodIn wsX1_freeOf (wsV RX1 92 RX1 yX1_isFree wsX1_isFree) := goodIn_app (goodIn_of _ (by decide +kernel)) ggX1_freeOf_X1_isFree
theorem dX1_freeOf_0 : decode cX1_freeOf 0 = .ok (.iconst 0, 1) := by decide +kernel
theorem dX1_freeOf_1 : decode cX1_freeOf 1 = .ok (.istore_n 2, 1) := by decide +kernel
theorem dX1_freeOf_2 : decode cX1_freeOf 2 = .ok (.iconst 0, 1) := by decide +kernel
theorem dX1_freeOf_3 : decode cX1_freeOf 3 = .ok (.istore_n 3, 1) := by decide +kernel
theorem dX1_freeOf_4 : decode cX1_freeOf 4 = .ok (.iload_n 3, 1) := by decide +kernel
theorem dX1_freeOf_5 : decode cX1_freeOf 5 = .ok (.bipush 16, 2) := by decide +kernel
theorem dX1_freeOf_7 : decode cX1_freeOf 7 = .ok (.if_icmp .ge 25, 3) := by decide +kernel
theorem dX1_freeOf_10 : decode cX1_freeOf 10 = .ok (.aload_n 0, 1) := by decide +kernel
theorem dX1_freeOf_11 : decode cX1_freeOf 11 = .ok (.iload_n 1, 1) := by decide +kernel
theorem dX1_freeOf_12 : decode cX1_freeOf 12 = .ok (.bipush 16, 2) := by decide +kernel
theorem dX1_freeOf_14 : decode cX1_freeOf 14 = .ok (.imul, 1) := by decide +kernel
theorem dX1_freeOf_15 : decode cX1_freeOf 15 = .ok (.iload_n 3, 1) := by decide +kernel
theorem dX1_freeOf_16 : decode cX1_freeOf 16 = .ok (.iadd, 1) := by decide +kernel
theorem dX1_freeOf_17 : decode cX1_freeOf 17 = .ok (.invokevirtual 92, 3) := by decide +kernel
theorem dX1_freeOf_20 : decode cX1_freeOf 20 = .ok (.ifCond .eq 6, 3) := by decide +kernel
theorem dX1_freeOf_23 : decode cX1_freeOf 23 = .ok (.iinc 2 1, 3) := by decide +kernel
theorem dX1_freeOf_26 : decode cX1_freeOf 26 = .ok (.iinc 3 1, 3) := by decide +kernel
theorem dX1_freeOf_29 : decode cX1_freeOf 29 = .ok (.goto (-25), 3) := by decide +kernel
theorem dX1_freeOf_32 : decode cX1_freeOf 32 = .ok (.iload_n 2, 1) := by decide +kernel
theorem dX1_freeOf_33 : decode cX1_freeOf 33 = .ok (.ireturn, 1) := by decide +kernel
set_option maxRecDepth 20000 in
theorem ggX1_firstFreeOf_X1_isFree : GoodIn wsX1_firstFreeOf wsX1_isFree := goodIn_r _ [5, 6, 7, 8, 9, 10, 11, 12, 13, 14, 15, 16, 4, 17, 18, 19, 20, 21, 22, 23, 24, 25, 26, 27, 28, 29, 30, 31, 32, 33, 34] (by decide +kernel) (by decide +kernel)
set_option maxRecDepth 20000 in
theorem gX1_firstFreeOf_X1_isFree : GoodIn wsX1_firstFreeOf (wsV RX1 92 RX1 yX1_isFree wsX1_isFree) := goodIn_app (goodIn_of _ (by decide +kernel)) ggX1_firstFreeOf_X1_isFree
theorem dX1_firstFreeOf_0 : decode cX1_firstFreeOf 0 = .ok (.iconst 0, 1) := by decide +kernel
theorem dX1_firstFreeOf_1 : decode cX1_firstFreeOf 1 = .ok (.istore_n 2, 1) := by decide +kernel
theorem dX1_firstFreeOf_2 : decode cX1_firstFreeOf 2 = .ok (.iload_n 2, 1) := by decide +kernel
theorem dX1_firstFreeOf_3 : decode cX1_firstFreeOf 3 = .ok (.bipush 16, 2) := by decide +kernel
theorem dX1_firstFreeOf_5 : decode cX1_firstFreeOf 5 = .ok (.if_icmp .ge 29, 3) := by decide +kernel
theorem dX1_firstFreeOf_8 : decode cX1_firstFreeOf 8 = .ok (.aload_n 0, 1) := by decide +kernel
theorem dX1_firstFreeOf_9 : decode cX1_firstFreeOf 9 = .ok (.iload_n 1, 1) := by decide +kernel
theorem dX1_firstFreeOf_10 : decode cX1_firstFreeOf 10 = .ok (.bipush 16, 2) := by decide +kernel
theorem dX1_firstFreeOf_12 : decode cX1_firstFreeOf 12 = .ok (.imul, 1) := by decide +kernel
theorem dX1_firstFreeOf_13 : decode cX1_firstFreeOf 13 = .ok (.iload_n 2, 1) := by decide +kernel
theorem dX1_firstFreeOf_14 : decode cX1_firstFreeOf 14 = .ok (.iadd, 1) := by decide +kernel
theorem dX1_firstFreeOf_15 : decode cX1_firstFreeOf 15 = .ok (.invokevirtual 92, 3) := by decide +kernel
theorem dX1_firstFreeOf_18 : decode cX1_firstFreeOf 18 = .ok (.ifCond .eq 10, 3) := by decide +kernel
theorem dX1_firstFreeOf_21 : decode cX1_firstFreeOf 21 = .ok (.iload_n 1, 1) := by decide +kernel
theorem dX1_firstFreeOf_22 : decode cX1_firstFreeOf 22 = .ok (.bipush 16, 2) := by decide +kernel
theorem dX1_firstFreeOf_24 : decode cX1_firstFreeOf 24 = .ok (.imul, 1) := by decide +kernel
theorem dX1_firstFreeOf_25 : decode cX1_firstFreeOf 25 = .ok (.iload_n 2, 1) := by decide +kernel
theorem dX1_firstFreeOf_26 : decode cX1_firstFreeOf 26 = .ok (.iadd, 1) := by decide +kernel
theorem dX1_firstFreeOf_27 : decode cX1_firstFreeOf 27 = .ok (.ireturn, 1) := by decide +kernel
theorem dX1_firstFreeOf_28 : decode cX1_firstFreeOf 28 = .ok (.iinc 2 1, 3) := by decide +kernel
theorem dX1_firstFreeOf_31 : decode cX1_firstFreeOf 31 = .ok (.goto (-29), 3) := by decide +kernel
theorem dX1_firstFreeOf_34 : decode cX1_firstFreeOf 34 = .ok (.bipush (-5), 2) := by decide +kernel
theorem dX1_firstFreeOf_36 : decode cX1_firstFreeOf 36 = .ok (.ireturn, 1) := by decide +kernel
set_option maxRecDepth 20000 in
theorem ggX1_lendableTo_X3_headOf : GoodIn wsX1_lendableTo wsX3_headOf := goodIn_r _ [3] (by decide +kernel) (by decide +kernel)
set_option maxRecDepth 20000 in
theorem gX1_lendableTo_X3_headOf_n80 : GoodIn wsX1_lendableTo (wsX3_headOf) := ggX1_lendableTo_X3_headOf
set_option maxRecDepth 20000 in
theorem ggX1_lendableTo_X1_firstFreeOf : GoodIn wsX1_lendableTo wsX1_firstFreeOf := goodIn_r _ [8, 9, 10, 11, 7, 12, 13, 14, 15, 1, 2, 3, 16, 17, 18, 19, 20, 21, 22, 23, 28, 29, 30, 31, 32, 33, 34, 35, 36, 37, 38, 39, 40, 41, 42] (by decide +kernel) (by decide +kernel)
set_option maxRecDepth 20000 in
theorem gX1_lendableTo_X1_firstFreeOf : GoodIn wsX1_lendableTo (wsV RX1 95 RX1 yX1_firstFreeOf wsX1_firstFreeOf) := goodIn_app (goodIn_of _ (by decide +kernel)) ggX1_lendableTo_X1_firstFreeOf
set_option maxRecDepth 20000 in
theorem ggX1_lendableTo_X1_freeOf : GoodIn wsX1_lendableTo wsX1_freeOf := goodIn_r _ [27, 9, 10, 11, 7, 12, 13, 14, 15, 1, 2, 3, 16, 17, 18, 19, 20, 21, 22, 23, 28, 29, 30, 31, 32, 33, 34, 35, 36, 37, 38, 39, 40, 41, 42] (by decide +kernel) (by decide +kernel)
set_option maxRecDepth 20000 in
theorem gX1_lendableTo_X1_freeOf : GoodIn wsX1_lendableTo (wsV RX1 98 RX1 yX1_freeOf wsX1_freeOf) := goodIn_app (goodIn_of _ (by decide +kernel)) ggX1_lendableTo_X1_freeOf
theorem dX1_lendableTo_0 : decode cX1_lendableTo 0 = .ok (.aload_n 0, 1) := by decide +kernel
theorem dX1_lendableTo_1 : decode cX1_lendableTo 1 = .ok (.iload_n 1, 1) := by decide +kernel
theorem dX1_lendableTo_2 : decode cX1_lendableTo 2 = .ok (.invokestatic 80, 3) := by decide +kernel
theorem dX1_lendableTo_5 : decode cX1_lendableTo 5 = .ok (.invokevirtual 95, 3) := by decide +kernel
theorem dX1_lendableTo_8 : decode cX1_lendableTo 8 = .ok (.istore_n 2, 1) := by decide +kernel
theorem dX1_lendableTo_9 : decode cX1_lendableTo 9 = .ok (.iload_n 2, 1) := by decide +kernel
theorem dX1_lendableTo_10 : decode cX1_lendableTo 10 = .ok (.bipush (-5), 2) := by decide +kernel
theorem dX1_lendableTo_12 : decode cX1_lendableTo 12 = .ok (.if_icmp .eq 5, 3) := by decide +kernel
theorem dX1_lendableTo_15 : decode cX1_lendableTo 15 = .ok (.iload_n 2, 1) := by decide +kernel
theorem dX1_lendableTo_16 : decode cX1_lendableTo 16 = .ok (.ireturn, 1) := by decide +kernel
theorem dX1_lendableTo_17 : decode cX1_lendableTo 17 = .ok (.iconst 0, 1) := by decide +kernel
theorem dX1_lendableTo_18 : decode cX1_lendableTo 18 = .ok (.istore_n 3, 1) := by decide +kernel
theorem dX1_lendableTo_19 : decode cX1_lendableTo 19 = .ok (.iconst 0, 1) := by decide +kernel
theorem dX1_lendableTo_20 : decode cX1_lendableTo 20 = .ok (.istore 4, 2) := by decide +kernel
theorem dX1_lendableTo_22 : decode cX1_lendableTo 22 = .ok (.iconst 0, 1) := by decide +kernel
theorem dX1_lendableTo_23 : decode cX1_lendableTo 23 = .ok (.istore 5, 2) := by decide +kernel
theorem dX1_lendableTo_25 : decode cX1_lendableTo 25 = .ok (.iload 5, 2) := by decide +kernel
theorem dX1_lendableTo_27 : decode cX1_lendableTo 27 = .ok (.iconst 4, 1) := by decide +kernel
theorem dX1_lendableTo_28 : decode cX1_lendableTo 28 = .ok (.if_icmp .ge 31, 3) := by decide +kernel
theorem dX1_lendableTo_31 : decode cX1_lendableTo 31 = .ok (.aload_n 0, 1) := by decide +kernel
theorem dX1_lendableTo_32 : decode cX1_lendableTo 32 = .ok (.iload 5, 2) := by decide +kernel
theorem dX1_lendableTo_34 : decode cX1_lendableTo 34 = .ok (.invokevirtual 98, 3) := by decide +kernel
theorem dX1_lendableTo_37 : decode cX1_lendableTo 37 = .ok (.istore 6, 2) := by decide +kernel
theorem dX1_lendableTo_39 : decode cX1_lendableTo 39 = .ok (.iload 6, 2) := by decide +kernel
theorem dX1_lendableTo_41 : decode cX1_lendableTo 41 = .ok (.iload 4, 2) := by decide +kernel
theorem dX1_lendableTo_43 : decode cX1_lendableTo 43 = .ok (.if_icmp .le 10, 3) := by decide +kernel
theorem dX1_lendableTo_46 : decode cX1_lendableTo 46 = .ok (.iload 5, 2) := by decide +kernel
theorem dX1_lendableTo_48 : decode cX1_lendableTo 48 = .ok (.istore_n 3, 1) := by decide +kernel
theorem dX1_lendableTo_49 : decode cX1_lendableTo 49 = .ok (.iload 6, 2) := by decide +kernel
theorem dX1_lendableTo_51 : decode cX1_lendableTo 51 = .ok (.istore 4, 2) := by decide +kernel
theorem dX1_lendableTo_53 : decode cX1_lendableTo 53 = .ok (.iinc 5 1, 3) := by decide +kernel
theorem dX1_lendableTo_56 : decode cX1_lendableTo 56 = .ok (.goto (-31), 3) := by decide +kernel
theorem dX1_lendableTo_59 : decode cX1_lendableTo 59 = .ok (.aload_n 0, 1) := by decide +kernel
theorem dX1_lendableTo_60 : decode cX1_lendableTo 60 = .ok (.iload_n 3, 1) := by decide +kernel
theorem dX1_lendableTo_61 : decode cX1_lendableTo 61 = .ok (.invokevirtual 95, 3) := by decide +kernel
theorem dX1_lendableTo_64 : decode cX1_lendableTo 64 = .ok (.ireturn, 1) := by decide +kernel
set_option maxRecDepth 20000 in
theorem ggX1_stepsTo_X3_headOf : GoodIn wsX1_stepsTo wsX3_headOf := goodIn_r _ [6] (by decide +kernel) (by decide +kernel)
set_option maxRecDepth 20000 in
theorem gX1_stepsTo_X3_headOf_n80 : GoodIn wsX1_stepsTo (wsX3_headOf) := ggX1_stepsTo_X3_headOf
set_option maxRecDepth 20000 in
theorem ggX1_stepsTo_X3_stepsBetween : GoodIn wsX1_stepsTo wsX3_stepsBetween := goodIn_r _ [8, 9, 10, 11, 12, 13, 14, 5, 15, 16, 4, 6] (by decide +kernel) (by decide +kernel)
set_option maxRecDepth 20000 in
theorem gX1_stepsTo_X3_stepsBetween_n101 : GoodIn wsX1_stepsTo (wsX3_stepsBetween) := ggX1_stepsTo_X3_stepsBetween
theorem dX1_stepsTo_0 : decode cX1_stepsTo 0 = .ok (.aload_n 0, 1) := by decide +kernel
theorem dX1_stepsTo_1 : decode cX1_stepsTo 1 = .ok (.getfield 35, 3) := by decide +kernel
theorem dX1_stepsTo_4 : decode cX1_stepsTo 4 = .ok (.iload_n 1, 1) := by decide +kernel
theorem dX1_stepsTo_5 : decode cX1_stepsTo 5 = .ok (.iaload, 1) := by decide +kernel
theorem dX1_stepsTo_6 : decode cX1_stepsTo 6 = .ok (.istore_n 2, 1) := by decide +kernel
theorem dX1_stepsTo_7 : decode cX1_stepsTo 7 = .ok (.iload_n 2, 1) := by decide +kernel
theorem dX1_stepsTo_8 : decode cX1_stepsTo 8 = .ok (.iload_n 1, 1) := by decide +kernel
theorem dX1_stepsTo_9 : decode cX1_stepsTo 9 = .ok (.if_icmp .eq 15, 3) := by decide +kernel
theorem dX1_stepsTo_12 : decode cX1_stepsTo 12 = .ok (.aload_n 0, 1) := by decide +kernel
theorem dX1_stepsTo_13 : decode cX1_stepsTo 13 = .ok (.getfield 22, 3) := by decide +kernel
theorem dX1_stepsTo_16 : decode cX1_stepsTo 16 = .ok (.iload_n 1, 1) := by decide +kernel
theorem dX1_stepsTo_17 : decode cX1_stepsTo 17 = .ok (.invokestatic 80, 3) := by decide +kernel
theorem dX1_stepsTo_20 : decode cX1_stepsTo 20 = .ok (.baload, 1) := by decide +kernel
theorem dX1_stepsTo_21 : decode cX1_stepsTo 21 = .ok (.ifCond .eq 12, 3) := by decide +kernel
theorem dX1_stepsTo_24 : decode cX1_stepsTo 24 = .ok (.aload_n 0, 1) := by decide +kernel
theorem dX1_stepsTo_25 : decode cX1_stepsTo 25 = .ok (.getfield 41, 3) := by decide +kernel
theorem dX1_stepsTo_28 : decode cX1_stepsTo 28 = .ok (.iload_n 2, 1) := by decide +kernel
theorem dX1_stepsTo_29 : decode cX1_stepsTo 29 = .ok (.invokestatic 101, 3) := by decide +kernel
theorem dX1_stepsTo_32 : decode cX1_stepsTo 32 = .ok (.ireturn, 1) := by decide +kernel
theorem dX1_stepsTo_33 : decode cX1_stepsTo 33 = .ok (.aload_n 0, 1) := by decide +kernel
theorem dX1_stepsTo_34 : decode cX1_stepsTo 34 = .ok (.getfield 41, 3) := by decide +kernel
theorem dX1_stepsTo_37 : decode cX1_stepsTo 37 = .ok (.iload_n 1, 1) := by decide +kernel
theorem dX1_stepsTo_38 : decode cX1_stepsTo 38 = .ok (.invokestatic 101, 3) := by decide +kernel
theorem dX1_stepsTo_41 : decode cX1_stepsTo 41 = .ok (.iload_n 1, 1) := by decide +kernel
theorem dX1_stepsTo_42 : decode cX1_stepsTo 42 = .ok (.iload_n 2, 1) := by decide +kernel
theorem dX1_stepsTo_43 : decode cX1_stepsTo 43 = .ok (.invokestatic 101, 3) := by decide +kernel
theorem dX1_stepsTo_46 : decode cX1_stepsTo 46 = .ok (.iadd, 1) := by decide +kernel
theorem dX1_stepsTo_47 : decode cX1_stepsTo 47 = .ok (.ireturn, 1) := by decide +kernel
theorem dX1_changeLimit_0 : decode cX1_changeLimit 0 = .ok (.iload_n 1, 1) := by decide +kernel
theorem dX1_changeLimit_1 : decode cX1_changeLimit 1 = .ok (.iconst 1, 1) := by decide +kernel
theorem dX1_changeLimit_2 : decode cX1_changeLimit 2 = .ok (.if_icmp .lt 10, 3) := by decide +kernel
theorem dX1_changeLimit_5 : decode cX1_changeLimit 5 = .ok (.iload_n 1, 1) := by decide +kernel
theorem dX1_changeLimit_6 : decode cX1_changeLimit 6 = .ok (.sipush 999, 3) := by decide +kernel
theorem dX1_changeLimit_9 : decode cX1_changeLimit 9 = .ok (.if_icmp .le 6, 3) := by decide +kernel
theorem dX1_changeLimit_12 : decode cX1_changeLimit 12 = .ok (.bipush (-2), 2) := by decide +kernel
theorem dX1_changeLimit_14 : decode cX1_changeLimit 14 = .ok (.ireturn, 1) := by decide +kernel
theorem dX1_changeLimit_15 : decode cX1_changeLimit 15 = .ok (.aload_n 0, 1) := by decide +kernel
theorem dX1_changeLimit_16 : decode cX1_changeLimit 16 = .ok (.getfield 9, 3) := by decide +kernel
theorem dX1_changeLimit_19 : decode cX1_changeLimit 19 = .ok (.istore_n 2, 1) := by decide +kernel
theorem dX1_changeLimit_20 : decode cX1_changeLimit 20 = .ok (.aload_n 0, 1) := by decide +kernel
theorem dX1_changeLimit_21 : decode cX1_changeLimit 21 = .ok (.iload_n 1, 1) := by decide +kernel
theorem dX1_changeLimit_22 : decode cX1_changeLimit 22 = .ok (.putfield 9, 3) := by decide +kernel
theorem dX1_changeLimit_25 : decode cX1_changeLimit 25 = .ok (.iload_n 2, 1) := by decide +kernel
theorem dX1_changeLimit_26 : decode cX1_changeLimit 26 = .ok (.iload_n 1, 1) := by decide +kernel
theorem dX1_changeLimit_27 : decode cX1_changeLimit 27 = .ok (.if_icmp .ne 8, 3) := by decide +kernel
theorem dX1_changeLimit_30 : decode cX1_changeLimit 30 = .ok (.bipush (-5), 2) := by decide +kernel
theorem dX1_changeLimit_32 : decode cX1_changeLimit 32 = .ok (.goto 4, 3) := by decide +kernel
theorem dX1_changeLimit_35 : decode cX1_changeLimit 35 = .ok (.iload_n 2, 1) := by decide +kernel
theorem dX1_changeLimit_36 : decode cX1_changeLimit 36 = .ok (.ireturn, 1) := by decide +kernel
theorem dX1_changeAgeing_0 : decode cX1_changeAgeing 0 = .ok (.iload_n 2, 1) := by decide +kernel
theorem dX1_changeAgeing_1 : decode cX1_changeAgeing 1 = .ok (.iconst 1, 1) := by decide +kernel
theorem dX1_changeAgeing_2 : decode cX1_changeAgeing 2 = .ok (.if_icmp .lt 9, 3) := by decide +kernel
theorem dX1_changeAgeing_5 : decode cX1_changeAgeing 5 = .ok (.iload_n 2, 1) := by decide +kernel
theorem dX1_changeAgeing_6 : decode cX1_changeAgeing 6 = .ok (.bipush 9, 2) := by decide +kernel
theorem dX1_changeAgeing_8 : decode cX1_changeAgeing 8 = .ok (.if_icmp .le 6, 3) := by decide +kernel
theorem dX1_changeAgeing_11 : decode cX1_changeAgeing 11 = .ok (.bipush (-2), 2) := by decide +kernel
theorem dX1_changeAgeing_13 : decode cX1_changeAgeing 13 = .ok (.ireturn, 1) := by decide +kernel
theorem dX1_changeAgeing_14 : decode cX1_changeAgeing 14 = .ok (.aload_n 0, 1) := by decide +kernel
theorem dX1_changeAgeing_15 : decode cX1_changeAgeing 15 = .ok (.getfield 15, 3) := by decide +kernel
theorem dX1_changeAgeing_18 : decode cX1_changeAgeing 18 = .ok (.iload_n 1, 1) := by decide +kernel
theorem dX1_changeAgeing_19 : decode cX1_changeAgeing 19 = .ok (.iaload, 1) := by decide +kernel
theorem dX1_changeAgeing_20 : decode cX1_changeAgeing 20 = .ok (.istore_n 3, 1) := by decide +kernel
theorem dX1_changeAgeing_21 : decode cX1_changeAgeing 21 = .ok (.aload_n 0, 1) := by decide +kernel
theorem dX1_changeAgeing_22 : decode cX1_changeAgeing 22 = .ok (.getfield 15, 3) := by decide +kernel
theorem dX1_changeAgeing_25 : decode cX1_changeAgeing 25 = .ok (.iload_n 1, 1) := by decide +kernel
theorem dX1_changeAgeing_26 : decode cX1_changeAgeing 26 = .ok (.iload_n 2, 1) := by decide +kernel
theorem dX1_changeAgeing_27 : decode cX1_changeAgeing 27 = .ok (.iastore, 1) := by decide +kernel
theorem dX1_changeAgeing_28 : decode cX1_changeAgeing 28 = .ok (.iload_n 3, 1) := by decide +kernel
theorem dX1_changeAgeing_29 : decode cX1_changeAgeing 29 = .ok (.iload_n 2, 1) := by decide +kernel
theorem dX1_changeAgeing_30 : decode cX1_changeAgeing 30 = .ok (.if_icmp .ne 8, 3) := by decide +kernel
theorem dX1_changeAgeing_33 : decode cX1_changeAgeing 33 = .ok (.bipush (-5), 2) := by decide +kernel
theorem dX1_changeAgeing_35 : decode cX1_changeAgeing 35 = .ok (.goto 4, 3) := by decide +kernel
theorem dX1_changeAgeing_38 : decode cX1_changeAgeing 38 = .ok (.iload_n 3, 1) := by decide +kernel
theorem dX1_changeAgeing_39 : decode cX1_changeAgeing 39 = .ok (.ireturn, 1) := by decide +kernel
set_option maxRecDepth 20000 in
theorem ggX1_changeSpares_X1_wearOf : GoodIn wsX1_changeSpares wsX1_wearOf := goodIn_r _ [7, 8, 26, 27, 28, 29, 30, 31, 32, 33, 34, 35, 36, 37, 38, 39, 40] (by decide +kernel) (by decide +kernel)
set_option maxRecDepth 20000 in
theorem gX1_changeSpares_X1_wearOf : GoodIn wsX1_changeSpares (wsV RX1 105 RX1 yX1_wearOf wsX1_wearOf) := goodIn_app (goodIn_of _ (by decide +kernel)) ggX1_changeSpares_X1_wearOf
set_option maxRecDepth 20000 in
theorem ggX1_changeSpares_X1_divide : GoodIn wsX1_changeSpares wsX1_divide := goodIn_r _ [12, 2, 13, 14, 15, 16, 17, 6, 18, 19, 20, 21, 22, 23, 24, 25, 26, 27, 28, 29, 30, 31, 32, 33, 34, 35, 36, 37, 38, 39, 40] (by decide +kernel) (by decide +kernel)
set_option maxRecDepth 20000 in
theorem gX1_changeSpares_X1_divide : GoodIn wsX1_changeSpares (wsV RX1 59 RX1 yX1_divide wsX1_divide) := goodIn_app (goodIn_of _ (by decide +kernel)) ggX1_changeSpares_X1_divide
theorem dX1_changeSpares_0 : decode cX1_changeSpares 0 = .ok (.iload_n 2, 1) := by decide +kernel
theorem dX1_changeSpares_1 : decode cX1_changeSpares 1 = .ok (.iconst 1, 1) := by decide +kernel
theorem dX1_changeSpares_2 : decode cX1_changeSpares 2 = .ok (.if_icmp .lt 9, 3) := by decide +kernel
theorem dX1_changeSpares_5 : decode cX1_changeSpares 5 = .ok (.iload_n 2, 1) := by decide +kernel
theorem dX1_changeSpares_6 : decode cX1_changeSpares 6 = .ok (.bipush 6, 2) := by decide +kernel
theorem dX1_changeSpares_8 : decode cX1_changeSpares 8 = .ok (.if_icmp .le 6, 3) := by decide +kernel
theorem dX1_changeSpares_11 : decode cX1_changeSpares 11 = .ok (.bipush (-2), 2) := by decide +kernel
theorem dX1_changeSpares_13 : decode cX1_changeSpares 13 = .ok (.ireturn, 1) := by decide +kernel
theorem dX1_changeSpares_14 : decode cX1_changeSpares 14 = .ok (.aload_n 0, 1) := by decide +kernel
theorem dX1_changeSpares_15 : decode cX1_changeSpares 15 = .ok (.iload_n 1, 1) := by decide +kernel
theorem dX1_changeSpares_16 : decode cX1_changeSpares 16 = .ok (.invokevirtual 105, 3) := by decide +kernel
theorem dX1_changeSpares_19 : decode cX1_changeSpares 19 = .ok (.ifCond .gt 12, 3) := by decide +kernel
theorem dX1_changeSpares_22 : decode cX1_changeSpares 22 = .ok (.aload_n 0, 1) := by decide +kernel
theorem dX1_changeSpares_23 : decode cX1_changeSpares 23 = .ok (.getfield 22, 3) := by decide +kernel
theorem dX1_changeSpares_26 : decode cX1_changeSpares 26 = .ok (.iload_n 1, 1) := by decide +kernel
theorem dX1_changeSpares_27 : decode cX1_changeSpares 27 = .ok (.baload, 1) := by decide +kernel
theorem dX1_changeSpares_28 : decode cX1_changeSpares 28 = .ok (.ifCond .eq 6, 3) := by decide +kernel
theorem dX1_changeSpares_31 : decode cX1_changeSpares 31 = .ok (.bipush (-4), 2) := by decide +kernel
theorem dX1_changeSpares_33 : decode cX1_changeSpares 33 = .ok (.ireturn, 1) := by decide +kernel
theorem dX1_changeSpares_34 : decode cX1_changeSpares 34 = .ok (.aload_n 0, 1) := by decide +kernel
theorem dX1_changeSpares_35 : decode cX1_changeSpares 35 = .ok (.getfield 19, 3) := by decide +kernel
theorem dX1_changeSpares_38 : decode cX1_changeSpares 38 = .ok (.iload_n 1, 1) := by decide +kernel
theorem dX1_changeSpares_39 : decode cX1_changeSpares 39 = .ok (.iaload, 1) := by decide +kernel
theorem dX1_changeSpares_40 : decode cX1_changeSpares 40 = .ok (.istore_n 3, 1) := by decide +kernel
theorem dX1_changeSpares_41 : decode cX1_changeSpares 41 = .ok (.iload_n 3, 1) := by decide +kernel
theorem dX1_changeSpares_42 : decode cX1_changeSpares 42 = .ok (.iload_n 2, 1) := by decide +kernel
theorem dX1_changeSpares_43 : decode cX1_changeSpares 43 = .ok (.if_icmp .ne 6, 3) := by decide +kernel
theorem dX1_changeSpares_46 : decode cX1_changeSpares 46 = .ok (.bipush (-5), 2) := by decide +kernel
theorem dX1_changeSpares_48 : decode cX1_changeSpares 48 = .ok (.ireturn, 1) := by decide +kernel
theorem dX1_changeSpares_49 : decode cX1_changeSpares 49 = .ok (.aload_n 0, 1) := by decide +kernel
theorem dX1_changeSpares_50 : decode cX1_changeSpares 50 = .ok (.iload_n 1, 1) := by decide +kernel
theorem dX1_changeSpares_51 : decode cX1_changeSpares 51 = .ok (.iload_n 2, 1) := by decide +kernel
theorem dX1_changeSpares_52 : decode cX1_changeSpares 52 = .ok (.invokevirtual 59, 3) := by decide +kernel
theorem dX1_changeSpares_55 : decode cX1_changeSpares 55 = .ok (.iload_n 3, 1) := by decide +kernel
theorem dX1_changeSpares_56 : decode cX1_changeSpares 56 = .ok (.ireturn, 1) := by decide +kernel
set_option maxRecDepth 20000 in
theorem ggX1_readAt_X1_isAddress : GoodIn wsX1_readAt wsX1_isAddress := goodIn_r _ [8, 9, 10, 11, 12, 13, 14, 15, 16, 99, 100, 101, 102, 103, 104, 105, 106, 107, 108, 109, 110, 111, 112, 113] (by decide +kernel) (by decide +kernel)
set_option maxRecDepth 20000 in
theorem gX1_readAt_X1_isAddress : GoodIn wsX1_readAt (wsV RX1 69 RX1 yX1_isAddress wsX1_isAddress) := goodIn_app (goodIn_of _ (by decide +kernel)) ggX1_readAt_X1_isAddress
set_option maxRecDepth 20000 in
theorem ggX1_readAt_X1_isLost : GoodIn wsX1_readAt wsX1_isLost := goodIn_r _ [20, 1, 99, 100, 101, 102, 103, 104, 105, 106, 107, 108, 109, 110, 111, 112, 113] (by decide +kernel) (by decide +kernel)
set_option maxRecDepth 20000 in
theorem gX1_readAt_X1_isLost : GoodIn wsX1_readAt (wsV RX1 83 RX1 yX1_isLost wsX1_isLost) := goodIn_app (goodIn_of _ (by decide +kernel)) ggX1_readAt_X1_isLost
set_option maxRecDepth 20000 in
theorem ggX1_readAt_X1_goTo : GoodIn wsX1_readAt wsX1_goTo := goodIn_r _ [24, 25, 1, 26, 27, 28, 29, 7, 30, 31, 15, 11, 16, 32, 33, 34, 35, 36, 37, 38, 13, 14, 39, 99, 100, 101, 102, 103, 104, 105, 106, 107, 108, 109, 110, 111, 112, 113] (by decide +kernel) (by decide +kernel)
set_option maxRecDepth 20000 in
theorem gX1_readAt_X1_goTo : GoodIn wsX1_readAt (wsV RX1 108 RX1 yX1_goTo wsX1_goTo) := goodIn_app (goodIn_of _ (by decide +kernel)) ggX1_readAt_X1_goTo
set_option maxRecDepth 20000 in
theorem ggX1_readAt_X1_wearByReading : GoodIn wsX1_readAt wsX1_wearByReading := goodIn_r _ [43, 44, 45, 15, 11, 16, 99, 100, 101, 102, 103, 104, 105, 106, 107, 108, 109, 110, 111, 112, 113] (by decide +kernel) (by decide +kernel)
set_option maxRecDepth 20000 in
theorem gX1_readAt_X1_wearByReading : GoodIn wsX1_readAt (wsV RX1 112 RX1 yX1_wearByReading wsX1_wearByReading) := goodIn_app (goodIn_of _ (by decide +kernel)) ggX1_readAt_X1_wearByReading
set_option maxRecDepth 20000 in
theorem ggX1_readAt_X1_lookAt : GoodIn wsX1_readAt wsX1_lookAt := goodIn_r _ [49, 1, 50, 51, 52, 53, 54, 7, 55, 44, 56, 57, 58, 59, 60, 15, 11, 16, 61, 62, 63, 64, 65, 66, 67, 68, 9, 69, 31, 13, 14, 70, 71, 72, 73, 74, 75, 76, 77, 78, 79, 80, 81, 17, 18, 19, 20, 82, 83, 84, 85, 25, 26, 32, 33, 34, 35, 36, 37, 38, 39, 86, 87, 88, 89, 45, 90, 91, 92, 93, 94, 95, 96, 97, 98, 99, 100, 101, 102, 103, 104, 105, 106, 107, 108, 109, 110, 111, 112, 113] (by decide +kernel) (by decide +kernel)
set_option maxRecDepth 20000 in
theorem gX1_readAt_X1_lookAt : GoodIn wsX1_readAt (wsV RX1 115 RX1 yX1_lookAt wsX1_lookAt) := goodIn_app (goodIn_of _ (by decide +kernel)) ggX1_readAt_X1_lookAt
theorem dX1_readAt_0 : decode cX1_readAt 0 = .ok (.aload_n 0, 1) := by decide +kernel
theorem dX1_readAt_1 : decode cX1_readAt 1 = .ok (.iload_n 1, 1) := by decide +kernel
theorem dX1_readAt_2 : decode cX1_readAt 2 = .ok (.invokevirtual 69, 3) := by decide +kernel
theorem dX1_readAt_5 : decode cX1_readAt 5 = .ok (.ifCond .ne 5, 3) := by decide +kernel
theorem dX1_readAt_8 : decode cX1_readAt 8 = .ok (.iconst (-1), 1) := by decide +kernel
theorem dX1_readAt_9 : decode cX1_readAt 9 = .ok (.ireturn, 1) := by decide +kernel
theorem dX1_readAt_10 : decode cX1_readAt 10 = .ok (.aload_n 0, 1) := by decide +kernel
theorem dX1_readAt_11 : decode cX1_readAt 11 = .ok (.iload_n 1, 1) := by decide +kernel
theorem dX1_readAt_12 : decode cX1_readAt 12 = .ok (.invokevirtual 83, 3) := by decide +kernel
theorem dX1_readAt_15 : decode cX1_readAt 15 = .ok (.ifCond .eq 6, 3) := by decide +kernel
theorem dX1_readAt_18 : decode cX1_readAt 18 = .ok (.bipush (-4), 2) := by decide +kernel
theorem dX1_readAt_20 : decode cX1_readAt 20 = .ok (.ireturn, 1) := by decide +kernel
theorem dX1_readAt_21 : decode cX1_readAt 21 = .ok (.aload_n 0, 1) := by decide +kernel
theorem dX1_readAt_22 : decode cX1_readAt 22 = .ok (.iload_n 1, 1) := by decide +kernel
theorem dX1_readAt_23 : decode cX1_readAt 23 = .ok (.invokevirtual 108, 3) := by decide +kernel
theorem dX1_readAt_26 : decode cX1_readAt 26 = .ok (.aload_n 0, 1) := by decide +kernel
theorem dX1_readAt_27 : decode cX1_readAt 27 = .ok (.aload_n 0, 1) := by decide +kernel
theorem dX1_readAt_28 : decode cX1_readAt 28 = .ok (.getfield 35, 3) := by decide +kernel
theorem dX1_readAt_31 : decode cX1_readAt 31 = .ok (.iload_n 1, 1) := by decide +kernel
theorem dX1_readAt_32 : decode cX1_readAt 32 = .ok (.iaload, 1) := by decide +kernel
theorem dX1_readAt_33 : decode cX1_readAt 33 = .ok (.invokevirtual 112, 3) := by decide +kernel
theorem dX1_readAt_36 : decode cX1_readAt 36 = .ok (.aload_n 0, 1) := by decide +kernel
theorem dX1_readAt_37 : decode cX1_readAt 37 = .ok (.dup, 1) := by decide +kernel
theorem dX1_readAt_38 : decode cX1_readAt 38 = .ok (.getfield 53, 3) := by decide +kernel
theorem dX1_readAt_41 : decode cX1_readAt 41 = .ok (.iconst 1, 1) := by decide +kernel
theorem dX1_readAt_42 : decode cX1_readAt 42 = .ok (.iadd, 1) := by decide +kernel
theorem dX1_readAt_43 : decode cX1_readAt 43 = .ok (.putfield 53, 3) := by decide +kernel
theorem dX1_readAt_46 : decode cX1_readAt 46 = .ok (.aload_n 0, 1) := by decide +kernel
theorem dX1_readAt_47 : decode cX1_readAt 47 = .ok (.iload_n 1, 1) := by decide +kernel
theorem dX1_readAt_48 : decode cX1_readAt 48 = .ok (.invokevirtual 115, 3) := by decide +kernel
theorem dX1_readAt_51 : decode cX1_readAt 51 = .ok (.aload_n 0, 1) := by decide +kernel
theorem dX1_readAt_52 : decode cX1_readAt 52 = .ok (.getfield 29, 3) := by decide +kernel
theorem dX1_readAt_55 : decode cX1_readAt 55 = .ok (.iload_n 1, 1) := by decide +kernel
theorem dX1_readAt_56 : decode cX1_readAt 56 = .ok (.iaload, 1) := by decide +kernel
theorem dX1_readAt_57 : decode cX1_readAt 57 = .ok (.ireturn, 1) := by decide +kernel
set_option maxRecDepth 20000 in
theorem ggX1_writeAt_X1_isAddress : GoodIn wsX1_writeAt wsX1_isAddress := goodIn_r _ [8, 9, 10, 11, 12, 13, 14, 15, 16, 95, 96, 97, 98, 99, 100, 101, 102, 103, 104, 105, 106, 107, 108, 109] (by decide +kernel) (by decide +kernel)
set_option maxRecDepth 20000 in
theorem gX1_writeAt_X1_isAddress : GoodIn wsX1_writeAt (wsV RX1 69 RX1 yX1_isAddress wsX1_isAddress) := goodIn_app (goodIn_of _ (by decide +kernel)) ggX1_writeAt_X1_isAddress
set_option maxRecDepth 20000 in
theorem ggX1_writeAt_X1_isLost : GoodIn wsX1_writeAt wsX1_isLost := goodIn_r _ [20, 1, 95, 96, 97, 98, 99, 100, 101, 102, 103, 104, 105, 106, 107, 108, 109] (by decide +kernel) (by decide +kernel)
set_option maxRecDepth 20000 in
theorem gX1_writeAt_X1_isLost : GoodIn wsX1_writeAt (wsV RX1 83 RX1 yX1_isLost wsX1_isLost) := goodIn_app (goodIn_of _ (by decide +kernel)) ggX1_writeAt_X1_isLost
set_option maxRecDepth 20000 in
theorem ggX1_writeAt_X1_lendableTo : GoodIn wsX1_writeAt wsX1_lendableTo := goodIn_r _ [24, 15, 11, 16, 25, 26, 27, 7, 28, 29, 30, 31, 32, 9, 33, 34, 13, 14, 35, 36, 37, 38, 39, 40, 41, 42, 43, 44, 95, 96, 97, 98, 99, 100, 101, 102, 103, 104, 105, 106, 107, 108, 109] (by decide +kernel) (by decide +kernel)
set_option maxRecDepth 20000 in
theorem gX1_writeAt_X1_lendableTo : GoodIn wsX1_writeAt (wsV RX1 118 RX1 yX1_lendableTo wsX1_lendableTo) := goodIn_app (goodIn_of _ (by decide +kernel)) ggX1_writeAt_X1_lendableTo
set_option maxRecDepth 20000 in
theorem ggX1_writeAt_X1_lend : GoodIn wsX1_writeAt wsX1_lend := goodIn_r _ [48, 1, 33, 49, 50, 51, 7, 52, 17, 18, 19, 20, 95, 96, 97, 98, 99, 100, 101, 102, 103, 104, 105, 106, 107, 108, 109] (by decide +kernel) (by decide +kernel)
set_option maxRecDepth 20000 in
theorem gX1_writeAt_X1_lend : GoodIn wsX1_writeAt (wsV RX1 121 RX1 yX1_lend wsX1_lend) := goodIn_app (goodIn_of _ (by decide +kernel)) ggX1_writeAt_X1_lend
set_option maxRecDepth 20000 in
theorem ggX1_writeAt_X1_goTo : GoodIn wsX1_writeAt wsX1_goTo := goodIn_r _ [56, 57, 1, 58, 59, 60, 61, 7, 62, 34, 15, 11, 16, 63, 64, 65, 66, 67, 68, 69, 13, 14, 70, 95, 96, 97, 98, 99, 100, 101, 102, 103, 104, 105, 106, 107, 108, 109] (by decide +kernel) (by decide +kernel)
set_option maxRecDepth 20000 in
theorem gX1_writeAt_X1_goTo : GoodIn wsX1_writeAt (wsV RX1 108 RX1 yX1_goTo wsX1_goTo) := goodIn_app (goodIn_of _ (by decide +kernel)) ggX1_writeAt_X1_goTo
set_option maxRecDepth 20000 in
theorem ggX1_writeAt_X1_wearByWriting : GoodIn wsX1_writeAt wsX1_wearByWriting := goodIn_r _ [74, 39, 75, 15, 11, 16, 95, 96, 97, 98, 99, 100, 101, 102, 103, 104, 105, 106, 107, 108, 109] (by decide +kernel) (by decide +kernel)
set_option maxRecDepth 20000 in
theorem gX1_writeAt_X1_wearByWriting : GoodIn wsX1_writeAt (wsV RX1 124 RX1 yX1_wearByWriting wsX1_wearByWriting) := goodIn_app (goodIn_of _ (by decide +kernel)) ggX1_writeAt_X1_wearByWriting
set_option maxRecDepth 20000 in
theorem ggX1_writeAt_X1_lookAt : GoodIn wsX1_writeAt wsX1_lookAt := goodIn_r _ [79, 1, 80, 81, 35, 36, 37, 7, 38, 39, 40, 21, 22, 23, 24, 15, 11, 16, 25, 26, 27, 28, 29, 30, 31, 32, 9, 33, 34, 13, 14, 41, 42, 43, 44, 45, 46, 47, 48, 49, 50, 51, 52, 17, 18, 19, 20, 82, 83, 84, 85, 57, 58, 63, 64, 65, 66, 67, 68, 69, 70, 71, 72, 73, 74, 75, 86, 87, 88, 89, 90, 91, 92, 93, 94, 95, 96, 97, 98, 99, 100, 101, 102, 103, 104, 105, 106, 107, 108, 109] (by decide +kernel) (by decide +kernel)
set_option maxRecDepth 20000 in
theorem gX1_writeAt_X1_lookAt : GoodIn wsX1_writeAt (wsV RX1 115 RX1 yX1_lookAt wsX1_lookAt) := goodIn_app (goodIn_of _ (by decide +kernel)) ggX1_writeAt_X1_lookAt
theorem dX1_writeAt_0 : decode cX1_writeAt 0 = .ok (.aload_n 0, 1) := by decide +kernel
theorem dX1_writeAt_1 : decode cX1_writeAt 1 = .ok (.iload_n 1, 1) := by decide +kernel
theorem dX1_writeAt_2 : decode cX1_writeAt 2 = .ok (.invokevirtual 69, 3) := by decide +kernel
theorem dX1_writeAt_5 : decode cX1_writeAt 5 = .ok (.ifCond .ne 5, 3) := by decide +kernel
theorem dX1_writeAt_8 : decode cX1_writeAt 8 = .ok (.iconst (-1), 1) := by decide +kernel
theorem dX1_writeAt_9 : decode cX1_writeAt 9 = .ok (.ireturn, 1) := by decide +kernel
theorem dX1_writeAt_10 : decode cX1_writeAt 10 = .ok (.iload_n 2, 1) := by decide +kernel
theorem dX1_writeAt_11 : decode cX1_writeAt 11 = .ok (.ifCond .lt 10, 3) := by decide +kernel
theorem dX1_writeAt_14 : decode cX1_writeAt 14 = .ok (.iload_n 2, 1) := by decide +kernel
theorem dX1_writeAt_15 : decode cX1_writeAt 15 = .ok (.sipush 999, 3) := by decide +kernel
theorem dX1_writeAt_18 : decode cX1_writeAt 18 = .ok (.if_icmp .le 6, 3) := by decide +kernel
theorem dX1_writeAt_21 : decode cX1_writeAt 21 = .ok (.bipush (-2), 2) := by decide +kernel
theorem dX1_writeAt_23 : decode cX1_writeAt 23 = .ok (.ireturn, 1) := by decide +kernel
theorem dX1_writeAt_24 : decode cX1_writeAt 24 = .ok (.aload_n 0, 1) := by decide +kernel
theorem dX1_writeAt_25 : decode cX1_writeAt 25 = .ok (.iload_n 1, 1) := by decide +kernel
theorem dX1_writeAt_26 : decode cX1_writeAt 26 = .ok (.invokevirtual 83, 3) := by decide +kernel
theorem dX1_writeAt_29 : decode cX1_writeAt 29 = .ok (.ifCond .eq 24, 3) := by decide +kernel
theorem dX1_writeAt_32 : decode cX1_writeAt 32 = .ok (.aload_n 0, 1) := by decide +kernel
theorem dX1_writeAt_33 : decode cX1_writeAt 33 = .ok (.iload_n 1, 1) := by decide +kernel
theorem dX1_writeAt_34 : decode cX1_writeAt 34 = .ok (.invokevirtual 118, 3) := by decide +kernel
theorem dX1_writeAt_37 : decode cX1_writeAt 37 = .ok (.istore_n 3, 1) := by decide +kernel
theorem dX1_writeAt_38 : decode cX1_writeAt 38 = .ok (.iload_n 3, 1) := by decide +kernel
theorem dX1_writeAt_39 : decode cX1_writeAt 39 = .ok (.bipush (-5), 2) := by decide +kernel
theorem dX1_writeAt_41 : decode cX1_writeAt 41 = .ok (.if_icmp .ne 6, 3) := by decide +kernel
theorem dX1_writeAt_44 : decode cX1_writeAt 44 = .ok (.bipush (-4), 2) := by decide +kernel
theorem dX1_writeAt_46 : decode cX1_writeAt 46 = .ok (.ireturn, 1) := by decide +kernel
theorem dX1_writeAt_47 : decode cX1_writeAt 47 = .ok (.aload_n 0, 1) := by decide +kernel
theorem dX1_writeAt_48 : decode cX1_writeAt 48 = .ok (.iload_n 1, 1) := by decide +kernel
theorem dX1_writeAt_49 : decode cX1_writeAt 49 = .ok (.iload_n 3, 1) := by decide +kernel
theorem dX1_writeAt_50 : decode cX1_writeAt 50 = .ok (.invokevirtual 121, 3) := by decide +kernel
theorem dX1_writeAt_53 : decode cX1_writeAt 53 = .ok (.aload_n 0, 1) := by decide +kernel
theorem dX1_writeAt_54 : decode cX1_writeAt 54 = .ok (.iload_n 1, 1) := by decide +kernel
theorem dX1_writeAt_55 : decode cX1_writeAt 55 = .ok (.invokevirtual 108, 3) := by decide +kernel
theorem dX1_writeAt_58 : decode cX1_writeAt 58 = .ok (.aload_n 0, 1) := by decide +kernel
theorem dX1_writeAt_59 : decode cX1_writeAt 59 = .ok (.aload_n 0, 1) := by decide +kernel
theorem dX1_writeAt_60 : decode cX1_writeAt 60 = .ok (.getfield 35, 3) := by decide +kernel
theorem dX1_writeAt_63 : decode cX1_writeAt 63 = .ok (.iload_n 1, 1) := by decide +kernel
theorem dX1_writeAt_64 : decode cX1_writeAt 64 = .ok (.iaload, 1) := by decide +kernel
theorem dX1_writeAt_65 : decode cX1_writeAt 65 = .ok (.invokevirtual 124, 3) := by decide +kernel
theorem dX1_writeAt_68 : decode cX1_writeAt 68 = .ok (.aload_n 0, 1) := by decide +kernel
theorem dX1_writeAt_69 : decode cX1_writeAt 69 = .ok (.getfield 29, 3) := by decide +kernel
theorem dX1_writeAt_72 : decode cX1_writeAt 72 = .ok (.iload_n 1, 1) := by decide +kernel
theorem dX1_writeAt_73 : decode cX1_writeAt 73 = .ok (.iload_n 2, 1) := by decide +kernel
theorem dX1_writeAt_74 : decode cX1_writeAt 74 = .ok (.iastore, 1) := by decide +kernel
theorem dX1_writeAt_75 : decode cX1_writeAt 75 = .ok (.aload_n 0, 1) := by decide +kernel
theorem dX1_writeAt_76 : decode cX1_writeAt 76 = .ok (.dup, 1) := by decide +kernel
theorem dX1_writeAt_77 : decode cX1_writeAt 77 = .ok (.getfield 56, 3) := by decide +kernel
theorem dX1_writeAt_80 : decode cX1_writeAt 80 = .ok (.iconst 1, 1) := by decide +kernel
theorem dX1_writeAt_81 : decode cX1_writeAt 81 = .ok (.iadd, 1) := by decide +kernel
theorem dX1_writeAt_82 : decode cX1_writeAt 82 = .ok (.putfield 56, 3) := by decide +kernel
theorem dX1_writeAt_85 : decode cX1_writeAt 85 = .ok (.aload_n 0, 1) := by decide +kernel
theorem dX1_writeAt_86 : decode cX1_writeAt 86 = .ok (.iload_n 1, 1) := by decide +kernel
theorem dX1_writeAt_87 : decode cX1_writeAt 87 = .ok (.invokevirtual 115, 3) := by decide +kernel
theorem dX1_writeAt_90 : decode cX1_writeAt 90 = .ok (.aload_n 0, 1) := by decide +kernel
theorem dX1_writeAt_91 : decode cX1_writeAt 91 = .ok (.iload_n 1, 1) := by decide +kernel
theorem dX1_writeAt_92 : decode cX1_writeAt 92 = .ok (.invokevirtual 83, 3) := by decide +kernel
theorem dX1_writeAt_95 : decode cX1_writeAt 95 = .ok (.ifCond .eq 8, 3) := by decide +kernel
theorem dX1_writeAt_98 : decode cX1_writeAt 98 = .ok (.bipush 100, 2) := by decide +kernel
theorem dX1_writeAt_100 : decode cX1_writeAt 100 = .ok (.goto 9, 3) := by decide +kernel
theorem dX1_writeAt_103 : decode cX1_writeAt 103 = .ok (.aload_n 0, 1) := by decide +kernel
theorem dX1_writeAt_104 : decode cX1_writeAt 104 = .ok (.getfield 35, 3) := by decide +kernel
theorem dX1_writeAt_107 : decode cX1_writeAt 107 = .ok (.iload_n 1, 1) := by decide +kernel
theorem dX1_writeAt_108 : decode cX1_writeAt 108 = .ok (.iaload, 1) := by decide +kernel
theorem dX1_writeAt_109 : decode cX1_writeAt 109 = .ok (.ireturn, 1) := by decide +kernel
set_option maxRecDepth 20000 in
theorem ggX1_copyRow_X1_readAt : GoodIn wsX1_copyRow wsX1_readAt := goodIn_r _ [5, 6, 7, 8, 9, 10, 11, 4, 12, 13, 14, 15, 16, 17, 18, 19, 20, 21, 22, 23, 24, 25, 26, 27, 28, 29, 30, 31, 32, 33, 34, 35, 36, 37, 38, 39, 40, 41, 42, 43, 44, 45, 46, 47, 48, 49, 50, 51, 52, 53, 54, 55, 56, 57, 58, 59, 60, 61, 62, 63, 64, 65, 66, 67, 68, 69, 70, 71, 72, 73, 74, 75, 76, 77, 78, 79, 80, 81, 82, 83, 84, 85, 86, 87, 88, 89, 90, 91, 92, 93, 94, 95, 96, 97, 98, 99, 100, 101, 102, 108, 109, 110, 111, 112, 113, 114, 115, 116, 117, 118, 119, 120, 121, 122] (by decide +kernel) (by decide +kernel)
set_option maxRecDepth 20000 in
theorem gX1_copyRow_X1_readAt : GoodIn wsX1_copyRow (wsV RX1 127 RX1 yX1_readAt wsX1_readAt) := goodIn_app (goodIn_of _ (by decide +kernel)) ggX1_copyRow_X1_readAt
set_option maxRecDepth 20000 in
theorem ggX1_copyRow_X1_writeAt : GoodIn wsX1_copyRow wsX1_writeAt := goodIn_r _ [106, 6, 8, 107, 9, 10, 11, 4, 12, 13, 14, 15, 16, 17, 18, 19, 20, 21, 22, 23, 24, 61, 62, 63, 64, 65, 66, 67, 68, 69, 70, 71, 72, 73, 35, 56, 57, 58, 59, 48, 60, 74, 75, 76, 77, 78, 79, 80, 81, 82, 83, 84, 85, 25, 26, 27, 28, 29, 30, 31, 32, 33, 34, 36, 37, 38, 39, 40, 41, 42, 43, 90, 91, 92, 93, 49, 50, 51, 52, 53, 54, 55, 86, 87, 88, 89, 94, 95, 96, 97, 98, 99, 100, 101, 102, 108, 109, 110, 111, 112, 113, 114, 115, 116, 117, 118, 119, 120, 121, 122] (by decide +kernel) (by decide +kernel)
set_option maxRecDepth 20000 in
theorem gX1_copyRow_X1_writeAt : GoodIn wsX1_copyRow (wsV RX1 130 RX1 yX1_writeAt wsX1_writeAt) := goodIn_app (goodIn_of _ (by decide +kernel)) ggX1_copyRow_X1_writeAt
theorem dX1_copyRow_0 : decode cX1_copyRow 0 = .ok (.iconst 0, 1) := by decide +kernel
theorem dX1_copyRow_1 : decode cX1_copyRow 1 = .ok (.istore 4, 2) := by decide +kernel
theorem dX1_copyRow_3 : decode cX1_copyRow 3 = .ok (.iload 4, 2) := by decide +kernel
theorem dX1_copyRow_5 : decode cX1_copyRow 5 = .ok (.iload_n 3, 1) := by decide +kernel
theorem dX1_copyRow_6 : decode cX1_copyRow 6 = .ok (.if_icmp .ge 40, 3) := by decide +kernel
theorem dX1_copyRow_9 : decode cX1_copyRow 9 = .ok (.aload_n 0, 1) := by decide +kernel
theorem dX1_copyRow_10 : decode cX1_copyRow 10 = .ok (.iload_n 1, 1) := by decide +kernel
theorem dX1_copyRow_11 : decode cX1_copyRow 11 = .ok (.iload 4, 2) := by decide +kernel
theorem dX1_copyRow_13 : decode cX1_copyRow 13 = .ok (.iadd, 1) := by decide +kernel
theorem dX1_copyRow_14 : decode cX1_copyRow 14 = .ok (.invokevirtual 127, 3) := by decide +kernel
theorem dX1_copyRow_17 : decode cX1_copyRow 17 = .ok (.istore 5, 2) := by decide +kernel
theorem dX1_copyRow_19 : decode cX1_copyRow 19 = .ok (.iload 5, 2) := by decide +kernel
theorem dX1_copyRow_21 : decode cX1_copyRow 21 = .ok (.ifCond .lt 16, 3) := by decide +kernel
theorem dX1_copyRow_24 : decode cX1_copyRow 24 = .ok (.aload_n 0, 1) := by decide +kernel
theorem dX1_copyRow_25 : decode cX1_copyRow 25 = .ok (.iload_n 2, 1) := by decide +kernel
theorem dX1_copyRow_26 : decode cX1_copyRow 26 = .ok (.iload 4, 2) := by decide +kernel
theorem dX1_copyRow_28 : decode cX1_copyRow 28 = .ok (.iadd, 1) := by decide +kernel
theorem dX1_copyRow_29 : decode cX1_copyRow 29 = .ok (.iload 5, 2) := by decide +kernel
theorem dX1_copyRow_31 : decode cX1_copyRow 31 = .ok (.invokevirtual 130, 3) := by decide +kernel
theorem dX1_copyRow_34 : decode cX1_copyRow 34 = .ok (.ifCond .ge 6, 3) := by decide +kernel
theorem dX1_copyRow_37 : decode cX1_copyRow 37 = .ok (.iload 4, 2) := by decide +kernel
theorem dX1_copyRow_39 : decode cX1_copyRow 39 = .ok (.ireturn, 1) := by decide +kernel
theorem dX1_copyRow_40 : decode cX1_copyRow 40 = .ok (.iinc 4 1, 3) := by decide +kernel
theorem dX1_copyRow_43 : decode cX1_copyRow 43 = .ok (.goto (-40), 3) := by decide +kernel
theorem dX1_copyRow_46 : decode cX1_copyRow 46 = .ok (.iload_n 3, 1) := by decide +kernel
theorem dX1_copyRow_47 : decode cX1_copyRow 47 = .ok (.ireturn, 1) := by decide +kernel
set_option maxRecDepth 20000 in
theorem ggX1_testHead_X1_lostOf : GoodIn wsX1_testHead wsX1_lostOf := goodIn_r _ [7, 1, 8, 9, 10, 6, 11, 12, 107, 108, 109, 110, 111, 112, 113, 114, 115, 116, 117, 118, 119, 120, 121] (by decide +kernel) (by decide +kernel)
set_option maxRecDepth 20000 in
theorem gX1_testHead_X1_lostOf : GoodIn wsX1_testHead (wsV RX1 133 RX1 yX1_lostOf wsX1_lostOf) := goodIn_app (goodIn_of _ (by decide +kernel)) ggX1_testHead_X1_lostOf
set_option maxRecDepth 20000 in
theorem ggX1_testHead_X1_readAt : GoodIn wsX1_testHead wsX1_readAt := goodIn_r _ [16, 12, 17, 18, 19, 20, 21, 6, 22, 1, 23, 24, 25, 26, 27, 28, 29, 8, 9, 10, 11, 30, 31, 32, 33, 34, 35, 36, 37, 38, 39, 40, 41, 42, 43, 44, 45, 46, 47, 48, 49, 50, 51, 52, 53, 54, 55, 56, 57, 58, 2, 59, 60, 61, 62, 63, 64, 65, 66, 67, 68, 69, 70, 71, 72, 73, 74, 75, 76, 77, 78, 79, 80, 81, 82, 83, 84, 85, 86, 87, 88, 89, 90, 91, 92, 93, 94, 95, 96, 97, 98, 99, 100, 101, 102, 103, 104, 105, 106, 107, 108, 109, 110, 111, 112, 113, 114, 115, 116, 117, 118, 119, 120, 121] (by decide +kernel) (by decide +kernel)
set_option maxRecDepth 20000 in
theorem gX1_testHead_X1_readAt : GoodIn wsX1_testHead (wsV RX1 127 RX1 yX1_readAt wsX1_readAt) := goodIn_app (goodIn_of _ (by decide +kernel)) ggX1_testHead_X1_readAt
theorem dX1_testHead_0 : decode cX1_testHead 0 = .ok (.aload_n 0, 1) := by decide +kernel
theorem dX1_testHead_1 : decode cX1_testHead 1 = .ok (.iload_n 1, 1) := by decide +kernel
theorem dX1_testHead_2 : decode cX1_testHead 2 = .ok (.invokevirtual 133, 3) := by decide +kernel
theorem dX1_testHead_5 : decode cX1_testHead 5 = .ok (.bipush 16, 2) := by decide +kernel
theorem dX1_testHead_7 : decode cX1_testHead 7 = .ok (.aload_n 0, 1) := by decide +kernel
theorem dX1_testHead_8 : decode cX1_testHead 8 = .ok (.getfield 19, 3) := by decide +kernel
theorem dX1_testHead_11 : decode cX1_testHead 11 = .ok (.iload_n 1, 1) := by decide +kernel
theorem dX1_testHead_12 : decode cX1_testHead 12 = .ok (.iaload, 1) := by decide +kernel
theorem dX1_testHead_13 : decode cX1_testHead 13 = .ok (.isub, 1) := by decide +kernel
theorem dX1_testHead_14 : decode cX1_testHead 14 = .ok (.if_icmp .ne 6, 3) := by decide +kernel
theorem dX1_testHead_17 : decode cX1_testHead 17 = .ok (.bipush (-5), 2) := by decide +kernel
theorem dX1_testHead_19 : decode cX1_testHead 19 = .ok (.ireturn, 1) := by decide +kernel
theorem dX1_testHead_20 : decode cX1_testHead 20 = .ok (.aload_n 0, 1) := by decide +kernel
theorem dX1_testHead_21 : decode cX1_testHead 21 = .ok (.getfield 47, 3) := by decide +kernel
theorem dX1_testHead_24 : decode cX1_testHead 24 = .ok (.istore_n 2, 1) := by decide +kernel
theorem dX1_testHead_25 : decode cX1_testHead 25 = .ok (.iconst 0, 1) := by decide +kernel
theorem dX1_testHead_26 : decode cX1_testHead 26 = .ok (.istore_n 3, 1) := by decide +kernel
theorem dX1_testHead_27 : decode cX1_testHead 27 = .ok (.iload_n 3, 1) := by decide +kernel
theorem dX1_testHead_28 : decode cX1_testHead 28 = .ok (.bipush 16, 2) := by decide +kernel
theorem dX1_testHead_30 : decode cX1_testHead 30 = .ok (.aload_n 0, 1) := by decide +kernel
theorem dX1_testHead_31 : decode cX1_testHead 31 = .ok (.getfield 19, 3) := by decide +kernel
theorem dX1_testHead_34 : decode cX1_testHead 34 = .ok (.iload_n 1, 1) := by decide +kernel
theorem dX1_testHead_35 : decode cX1_testHead 35 = .ok (.iaload, 1) := by decide +kernel
theorem dX1_testHead_36 : decode cX1_testHead 36 = .ok (.isub, 1) := by decide +kernel
theorem dX1_testHead_37 : decode cX1_testHead 37 = .ok (.if_icmp .ge 20, 3) := by decide +kernel
theorem dX1_testHead_40 : decode cX1_testHead 40 = .ok (.aload_n 0, 1) := by decide +kernel
theorem dX1_testHead_41 : decode cX1_testHead 41 = .ok (.iload_n 1, 1) := by decide +kernel
theorem dX1_testHead_42 : decode cX1_testHead 42 = .ok (.bipush 16, 2) := by decide +kernel
theorem dX1_testHead_44 : decode cX1_testHead 44 = .ok (.imul, 1) := by decide +kernel
theorem dX1_testHead_45 : decode cX1_testHead 45 = .ok (.iload_n 3, 1) := by decide +kernel
theorem dX1_testHead_46 : decode cX1_testHead 46 = .ok (.iadd, 1) := by decide +kernel
theorem dX1_testHead_47 : decode cX1_testHead 47 = .ok (.invokevirtual 127, 3) := by decide +kernel
theorem dX1_testHead_50 : decode cX1_testHead 50 = .ok (.pop, 1) := by decide +kernel
theorem dX1_testHead_51 : decode cX1_testHead 51 = .ok (.iinc 3 1, 3) := by decide +kernel
theorem dX1_testHead_54 : decode cX1_testHead 54 = .ok (.goto (-27), 3) := by decide +kernel
theorem dX1_testHead_57 : decode cX1_testHead 57 = .ok (.aload_n 0, 1) := by decide +kernel
theorem dX1_testHead_58 : decode cX1_testHead 58 = .ok (.getfield 47, 3) := by decide +kernel
theorem dX1_testHead_61 : decode cX1_testHead 61 = .ok (.iload_n 2, 1) := by decide +kernel
theorem dX1_testHead_62 : decode cX1_testHead 62 = .ok (.isub, 1) := by decide +kernel
theorem dX1_testHead_63 : decode cX1_testHead 63 = .ok (.ireturn, 1) := by decide +kernel
set_option maxRecDepth 20000 in
theorem ggX1_lookAt_X1_isGood : GoodIn wsX1_lookAt wsX1_isGood := goodIn_r _ [8, 9, 10, 75, 76, 77, 78, 79, 80, 81, 82, 83, 84, 85, 86, 87, 88, 89] (by decide +kernel) (by decide +kernel)
set_option maxRecDepth 20000 in
theorem gX1_lookAt_X1_isGood : GoodIn wsX1_lookAt (wsV RX1 86 RX1 yX1_isGood wsX1_isGood) := goodIn_app (goodIn_of _ (by decide +kernel)) ggX1_lookAt_X1_isGood
set_option maxRecDepth 20000 in
theorem ggX1_lookAt_X1_lendableTo : GoodIn wsX1_lookAt wsX1_lendableTo := goodIn_r _ [14, 15, 16, 17, 18, 19, 20, 7, 21, 22, 23, 24, 25, 26, 27, 28, 29, 30, 4, 5, 6, 8, 9, 10, 31, 32, 33, 34, 75, 76, 77, 78, 79, 80, 81, 82, 83, 84, 85, 86, 87, 88, 89] (by decide +kernel) (by decide +kernel)
set_option maxRecDepth 20000 in
theorem gX1_lookAt_X1_lendableTo : GoodIn wsX1_lookAt (wsV RX1 118 RX1 yX1_lendableTo wsX1_lendableTo) := goodIn_app (goodIn_of _ (by decide +kernel)) ggX1_lookAt_X1_lendableTo
set_option maxRecDepth 20000 in
theorem ggX1_lookAt_X1_lend : GoodIn wsX1_lookAt wsX1_lend := goodIn_r _ [38, 1, 27, 39, 40, 41, 7, 42, 43, 44, 45, 46, 75, 76, 77, 78, 79, 80, 81, 82, 83, 84, 85, 86, 87, 88, 89] (by decide +kernel) (by decide +kernel)
set_option maxRecDepth 20000 in
theorem gX1_lookAt_X1_lend : GoodIn wsX1_lookAt (wsV RX1 121 RX1 yX1_lend wsX1_lend) := goodIn_app (goodIn_of _ (by decide +kernel)) ggX1_lookAt_X1_lend
set_option maxRecDepth 20000 in
theorem ggX1_lookAt_X1_moveTo : GoodIn wsX1_lookAt wsX1_moveTo := goodIn_r _ [50, 51, 52, 53, 16, 54, 55, 56, 57, 58, 59, 29, 30, 60, 15, 17, 75, 76, 77, 78, 79, 80, 81, 82, 83, 84, 85, 86, 87, 88, 89] (by decide +kernel) (by decide +kernel)
set_option maxRecDepth 20000 in
theorem gX1_lookAt_X1_moveTo : GoodIn wsX1_lookAt (wsV RX1 136 RX1 yX1_moveTo wsX1_moveTo) := goodIn_app (goodIn_of _ (by decide +kernel)) ggX1_lookAt_X1_moveTo
set_option maxRecDepth 20000 in
theorem ggX1_lookAt_X1_wearByWriting : GoodIn wsX1_lookAt wsX1_wearByWriting := goodIn_r _ [64, 9, 65, 15, 16, 17, 75, 76, 77, 78, 79, 80, 81, 82, 83, 84, 85, 86, 87, 88, 89] (by decide +kernel) (by decide +kernel)
set_option maxRecDepth 20000 in
theorem gX1_lookAt_X1_wearByWriting : GoodIn wsX1_lookAt (wsV RX1 124 RX1 yX1_wearByWriting wsX1_wearByWriting) := goodIn_app (goodIn_of _ (by decide +kernel)) ggX1_lookAt_X1_wearByWriting
set_option maxRecDepth 20000 in
theorem ggX1_lookAt_X1_isBad : GoodIn wsX1_lookAt wsX1_isBad := goodIn_r _ [69, 9, 10, 75, 76, 77, 78, 79, 80, 81, 82, 83, 84, 85, 86, 87, 88, 89] (by decide +kernel) (by decide +kernel)
set_option maxRecDepth 20000 in
theorem gX1_lookAt_X1_isBad : GoodIn wsX1_lookAt (wsV RX1 89 RX1 yX1_isBad wsX1_isBad) := goodIn_app (goodIn_of _ (by decide +kernel)) ggX1_lookAt_X1_isBad
set_option maxRecDepth 20000 in
theorem ggX1_lookAt_X1_lose : GoodIn wsX1_lookAt wsX1_lose := goodIn_r _ [73, 74, 39, 40, 41, 7, 42, 27, 1, 43, 44, 45, 46, 75, 76, 77, 78, 79, 80, 81, 82, 83, 84, 85, 86, 87, 88, 89] (by decide +kernel) (by decide +kernel)
set_option maxRecDepth 20000 in
theorem gX1_lookAt_X1_lose : GoodIn wsX1_lookAt (wsV RX1 139 RX1 yX1_lose wsX1_lose) := goodIn_app (goodIn_of _ (by decide +kernel)) ggX1_lookAt_X1_lose
theorem dX1_lookAt_0 : decode cX1_lookAt 0 = .ok (.aload_n 0, 1) := by decide +kernel
theorem dX1_lookAt_1 : decode cX1_lookAt 1 = .ok (.getfield 35, 3) := by decide +kernel
theorem dX1_lookAt_4 : decode cX1_lookAt 4 = .ok (.iload_n 1, 1) := by decide +kernel
end
section
theorem dX1_lookAt_5 : decode cX1_lookAt 5 = .ok (.iaload, 1) := by decide +kernel
theorem dX1_lookAt_6 : decode cX1_lookAt 6 = .ok (.istore_n 2, 1) := by decide +kernel
theorem dX1_lookAt_7 : decode cX1_lookAt 7 = .ok (.aload_n 0, 1) := by decide +kernel
theorem dX1_lookAt_8 : decode cX1_lookAt 8 = .ok (.iload_n 2, 1) := by decide +kernel
theorem dX1_lookAt_9 : decode cX1_lookAt 9 = .ok (.invokevirtual 86, 3) := by decide +kernel
theorem dX1_lookAt_12 : decode cX1_lookAt 12 = .ok (.ifCond .eq 4, 3) := by decide +kernel
theorem dX1_lookAt_15 : decode cX1_lookAt 15 = .ok (.return_, 1) := by decide +kernel
theorem dX1_lookAt_16 : decode cX1_lookAt 16 = .ok (.aload_n 0, 1) := by decide +kernel
theorem dX1_lookAt_17 : decode cX1_lookAt 17 = .ok (.iload_n 1, 1) := by decide +kernel
theorem dX1_lookAt_18 : decode cX1_lookAt 18 = .ok (.invokevirtual 118, 3) := by decide +kernel
theorem dX1_lookAt_21 : decode cX1_lookAt 21 = .ok (.istore_n 3, 1) := by decide +kernel
theorem dX1_lookAt_22 : decode cX1_lookAt 22 = .ok (.iload_n 3, 1) := by decide +kernel
theorem dX1_lookAt_23 : decode cX1_lookAt 23 = .ok (.bipush (-5), 2) := by decide +kernel
theorem dX1_lookAt_25 : decode cX1_lookAt 25 = .ok (.if_icmp .eq 42, 3) := by decide +kernel
theorem dX1_lookAt_28 : decode cX1_lookAt 28 = .ok (.aload_n 0, 1) := by decide +kernel
theorem dX1_lookAt_29 : decode cX1_lookAt 29 = .ok (.iload_n 1, 1) := by decide +kernel
theorem dX1_lookAt_30 : decode cX1_lookAt 30 = .ok (.iload_n 3, 1) := by decide +kernel
theorem dX1_lookAt_31 : decode cX1_lookAt 31 = .ok (.invokevirtual 121, 3) := by decide +kernel
theorem dX1_lookAt_34 : decode cX1_lookAt 34 = .ok (.aload_n 0, 1) := by decide +kernel
theorem dX1_lookAt_35 : decode cX1_lookAt 35 = .ok (.iload_n 3, 1) := by decide +kernel
theorem dX1_lookAt_36 : decode cX1_lookAt 36 = .ok (.invokevirtual 136, 3) := by decide +kernel
theorem dX1_lookAt_39 : decode cX1_lookAt 39 = .ok (.aload_n 0, 1) := by decide +kernel
theorem dX1_lookAt_40 : decode cX1_lookAt 40 = .ok (.iload_n 3, 1) := by decide +kernel
theorem dX1_lookAt_41 : decode cX1_lookAt 41 = .ok (.invokevirtual 124, 3) := by decide +kernel
theorem dX1_lookAt_44 : decode cX1_lookAt 44 = .ok (.aload_n 0, 1) := by decide +kernel
theorem dX1_lookAt_45 : decode cX1_lookAt 45 = .ok (.dup, 1) := by decide +kernel
theorem dX1_lookAt_46 : decode cX1_lookAt 46 = .ok (.getfield 47, 3) := by decide +kernel
theorem dX1_lookAt_49 : decode cX1_lookAt 49 = .ok (.iconst 1, 1) := by decide +kernel
theorem dX1_lookAt_50 : decode cX1_lookAt 50 = .ok (.iadd, 1) := by decide +kernel
theorem dX1_lookAt_51 : decode cX1_lookAt 51 = .ok (.putfield 47, 3) := by decide +kernel
theorem dX1_lookAt_54 : decode cX1_lookAt 54 = .ok (.aload_n 0, 1) := by decide +kernel
theorem dX1_lookAt_55 : decode cX1_lookAt 55 = .ok (.getfield 32, 3) := by decide +kernel
theorem dX1_lookAt_58 : decode cX1_lookAt 58 = .ok (.iload_n 1, 1) := by decide +kernel
theorem dX1_lookAt_59 : decode cX1_lookAt 59 = .ok (.dup2, 1) := by decide +kernel
theorem dX1_lookAt_60 : decode cX1_lookAt 60 = .ok (.iaload, 1) := by decide +kernel
theorem dX1_lookAt_61 : decode cX1_lookAt 61 = .ok (.iconst 1, 1) := by decide +kernel
theorem dX1_lookAt_62 : decode cX1_lookAt 62 = .ok (.iadd, 1) := by decide +kernel
theorem dX1_lookAt_63 : decode cX1_lookAt 63 = .ok (.iastore, 1) := by decide +kernel
theorem dX1_lookAt_64 : decode cX1_lookAt 64 = .ok (.goto 16, 3) := by decide +kernel
theorem dX1_lookAt_67 : decode cX1_lookAt 67 = .ok (.aload_n 0, 1) := by decide +kernel
theorem dX1_lookAt_68 : decode cX1_lookAt 68 = .ok (.iload_n 2, 1) := by decide +kernel
theorem dX1_lookAt_69 : decode cX1_lookAt 69 = .ok (.invokevirtual 89, 3) := by decide +kernel
theorem dX1_lookAt_72 : decode cX1_lookAt 72 = .ok (.ifCond .eq 8, 3) := by decide +kernel
theorem dX1_lookAt_75 : decode cX1_lookAt 75 = .ok (.aload_n 0, 1) := by decide +kernel
theorem dX1_lookAt_76 : decode cX1_lookAt 76 = .ok (.iload_n 1, 1) := by decide +kernel
theorem dX1_lookAt_77 : decode cX1_lookAt 77 = .ok (.invokevirtual 139, 3) := by decide +kernel
theorem dX1_lookAt_80 : decode cX1_lookAt 80 = .ok (.return_, 1) := by decide +kernel
set_option maxRecDepth 20000 in
theorem ggX1_lend_X1_release : GoodIn wsX1_lend wsX1_release := goodIn_r _ [7, 2, 1, 8, 9, 10, 6, 11, 12, 13, 14, 15, 16, 17, 18, 19, 20, 21, 22, 23, 24, 25, 26] (by decide +kernel) (by decide +kernel)
set_option maxRecDepth 20000 in
theorem gX1_lend_X1_release : GoodIn wsX1_lend (wsV RX1 142 RX1 yX1_release wsX1_release) := goodIn_app (goodIn_of _ (by decide +kernel)) ggX1_lend_X1_release
theorem dX1_lend_0 : decode cX1_lend 0 = .ok (.aload_n 0, 1) := by decide +kernel
theorem dX1_lend_1 : decode cX1_lend 1 = .ok (.iload_n 1, 1) := by decide +kernel
theorem dX1_lend_2 : decode cX1_lend 2 = .ok (.invokevirtual 142, 3) := by decide +kernel
theorem dX1_lend_5 : decode cX1_lend 5 = .ok (.aload_n 0, 1) := by decide +kernel
theorem dX1_lend_6 : decode cX1_lend 6 = .ok (.getfield 35, 3) := by decide +kernel
theorem dX1_lend_9 : decode cX1_lend 9 = .ok (.iload_n 1, 1) := by decide +kernel
theorem dX1_lend_10 : decode cX1_lend 10 = .ok (.iload_n 2, 1) := by decide +kernel
theorem dX1_lend_11 : decode cX1_lend 11 = .ok (.iastore, 1) := by decide +kernel
theorem dX1_lend_12 : decode cX1_lend 12 = .ok (.aload_n 0, 1) := by decide +kernel
theorem dX1_lend_13 : decode cX1_lend 13 = .ok (.getfield 38, 3) := by decide +kernel
theorem dX1_lend_16 : decode cX1_lend 16 = .ok (.iload_n 2, 1) := by decide +kernel
theorem dX1_lend_17 : decode cX1_lend 17 = .ok (.iload_n 1, 1) := by decide +kernel
theorem dX1_lend_18 : decode cX1_lend 18 = .ok (.iastore, 1) := by decide +kernel
theorem dX1_lend_19 : decode cX1_lend 19 = .ok (.return_, 1) := by decide +kernel
set_option maxRecDepth 20000 in
theorem ggX1_lose_X1_release : GoodIn wsX1_lose wsX1_release := goodIn_r _ [6, 7, 8, 9, 10, 11, 5, 12, 13, 14, 15, 16, 17, 18, 19, 20, 21, 22, 23, 24, 25, 26, 27] (by decide +kernel) (by decide +kernel)
set_option maxRecDepth 20000 in
theorem gX1_lose_X1_release : GoodIn wsX1_lose (wsV RX1 142 RX1 yX1_release wsX1_release) := goodIn_app (goodIn_of _ (by decide +kernel)) ggX1_lose_X1_release
theorem dX1_lose_0 : decode cX1_lose 0 = .ok (.aload_n 0, 1) := by decide +kernel
theorem dX1_lose_1 : decode cX1_lose 1 = .ok (.iload_n 1, 1) := by decide +kernel
theorem dX1_lose_2 : decode cX1_lose 2 = .ok (.invokevirtual 142, 3) := by decide +kernel
theorem dX1_lose_5 : decode cX1_lose 5 = .ok (.aload_n 0, 1) := by decide +kernel
theorem dX1_lose_6 : decode cX1_lose 6 = .ok (.dup, 1) := by decide +kernel
theorem dX1_lose_7 : decode cX1_lose 7 = .ok (.getfield 50, 3) := by decide +kernel
theorem dX1_lose_10 : decode cX1_lose 10 = .ok (.iconst 1, 1) := by decide +kernel
theorem dX1_lose_11 : decode cX1_lose 11 = .ok (.iadd, 1) := by decide +kernel
theorem dX1_lose_12 : decode cX1_lose 12 = .ok (.putfield 50, 3) := by decide +kernel
theorem dX1_lose_15 : decode cX1_lose 15 = .ok (.return_, 1) := by decide +kernel
set_option maxRecDepth 20000 in
theorem ggX1_release_X1_isLost : GoodIn wsX1_release wsX1_isLost := goodIn_r _ [7, 2, 8, 9, 10, 11, 12, 13, 14, 15, 16, 17, 18, 19, 20, 21, 22] (by decide +kernel) (by decide +kernel)
set_option maxRecDepth 20000 in
theorem gX1_release_X1_isLost : GoodIn wsX1_release (wsV RX1 83 RX1 yX1_isLost wsX1_isLost) := goodIn_app (goodIn_of _ (by decide +kernel)) ggX1_release_X1_isLost
theorem dX1_release_0 : decode cX1_release 0 = .ok (.aload_n 0, 1) := by decide +kernel
theorem dX1_release_1 : decode cX1_release 1 = .ok (.iload_n 1, 1) := by decide +kernel
theorem dX1_release_2 : decode cX1_release 2 = .ok (.invokevirtual 83, 3) := by decide +kernel
theorem dX1_release_5 : decode cX1_release 5 = .ok (.ifCond .ne 16, 3) := by decide +kernel
theorem dX1_release_8 : decode cX1_release 8 = .ok (.aload_n 0, 1) := by decide +kernel
theorem dX1_release_9 : decode cX1_release 9 = .ok (.getfield 38, 3) := by decide +kernel
theorem dX1_release_12 : decode cX1_release 12 = .ok (.aload_n 0, 1) := by decide +kernel
theorem dX1_release_13 : decode cX1_release 13 = .ok (.getfield 35, 3) := by decide +kernel
theorem dX1_release_16 : decode cX1_release 16 = .ok (.iload_n 1, 1) := by decide +kernel
theorem dX1_release_17 : decode cX1_release 17 = .ok (.iaload, 1) := by decide +kernel
theorem dX1_release_18 : decode cX1_release 18 = .ok (.bipush (-5), 2) := by decide +kernel
theorem dX1_release_20 : decode cX1_release 20 = .ok (.iastore, 1) := by decide +kernel
theorem dX1_release_21 : decode cX1_release 21 = .ok (.aload_n 0, 1) := by decide +kernel
theorem dX1_release_22 : decode cX1_release 22 = .ok (.getfield 35, 3) := by decide +kernel
theorem dX1_release_25 : decode cX1_release 25 = .ok (.iload_n 1, 1) := by decide +kernel
theorem dX1_release_26 : decode cX1_release 26 = .ok (.bipush (-5), 2) := by decide +kernel
theorem dX1_release_28 : decode cX1_release 28 = .ok (.iastore, 1) := by decide +kernel
theorem dX1_release_29 : decode cX1_release 29 = .ok (.return_, 1) := by decide +kernel
set_option maxRecDepth 20000 in
theorem ggX1_wearByReading_X3_headOf : GoodIn wsX1_wearByReading wsX3_headOf := goodIn_r _ [5] (by decide +kernel) (by decide +kernel)
set_option maxRecDepth 20000 in
theorem gX1_wearByReading_X3_headOf_n80 : GoodIn wsX1_wearByReading (wsX3_headOf) := ggX1_wearByReading_X3_headOf
theorem dX1_wearByReading_0 : decode cX1_wearByReading 0 = .ok (.aload_n 0, 1) := by decide +kernel
theorem dX1_wearByReading_1 : decode cX1_wearByReading 1 = .ok (.getfield 26, 3) := by decide +kernel
theorem dX1_wearByReading_4 : decode cX1_wearByReading 4 = .ok (.iload_n 1, 1) := by decide +kernel
theorem dX1_wearByReading_5 : decode cX1_wearByReading 5 = .ok (.dup2, 1) := by decide +kernel
theorem dX1_wearByReading_6 : decode cX1_wearByReading 6 = .ok (.iaload, 1) := by decide +kernel
theorem dX1_wearByReading_7 : decode cX1_wearByReading 7 = .ok (.aload_n 0, 1) := by decide +kernel
theorem dX1_wearByReading_8 : decode cX1_wearByReading 8 = .ok (.getfield 15, 3) := by decide +kernel
theorem dX1_wearByReading_11 : decode cX1_wearByReading 11 = .ok (.iload_n 1, 1) := by decide +kernel
theorem dX1_wearByReading_12 : decode cX1_wearByReading 12 = .ok (.invokestatic 80, 3) := by decide +kernel
theorem dX1_wearByReading_15 : decode cX1_wearByReading 15 = .ok (.iaload, 1) := by decide +kernel
theorem dX1_wearByReading_16 : decode cX1_wearByReading 16 = .ok (.iadd, 1) := by decide +kernel
theorem dX1_wearByReading_17 : decode cX1_wearByReading 17 = .ok (.iastore, 1) := by decide +kernel
theorem dX1_wearByReading_18 : decode cX1_wearByReading 18 = .ok (.return_, 1) := by decide +kernel
set_option maxRecDepth 20000 in
theorem ggX1_wearByWriting_X3_headOf : GoodIn wsX1_wearByWriting wsX3_headOf := goodIn_r _ [5] (by decide +kernel) (by decide +kernel)
set_option maxRecDepth 20000 in
theorem gX1_wearByWriting_X3_headOf_n80 : GoodIn wsX1_wearByWriting (wsX3_headOf) := ggX1_wearByWriting_X3_headOf
theorem dX1_wearByWriting_0 : decode cX1_wearByWriting 0 = .ok (.aload_n 0, 1) := by decide +kernel
theorem dX1_wearByWriting_1 : decode cX1_wearByWriting 1 = .ok (.getfield 26, 3) := by decide +kernel
theorem dX1_wearByWriting_4 : decode cX1_wearByWriting 4 = .ok (.iload_n 1, 1) := by decide +kernel
theorem dX1_wearByWriting_5 : decode cX1_wearByWriting 5 = .ok (.dup2, 1) := by decide +kernel
theorem dX1_wearByWriting_6 : decode cX1_wearByWriting 6 = .ok (.iaload, 1) := by decide +kernel
theorem dX1_wearByWriting_7 : decode cX1_wearByWriting 7 = .ok (.iconst 2, 1) := by decide +kernel
theorem dX1_wearByWriting_8 : decode cX1_wearByWriting 8 = .ok (.aload_n 0, 1) := by decide +kernel
theorem dX1_wearByWriting_9 : decode cX1_wearByWriting 9 = .ok (.getfield 15, 3) := by decide +kernel
theorem dX1_wearByWriting_12 : decode cX1_wearByWriting 12 = .ok (.iload_n 1, 1) := by decide +kernel
theorem dX1_wearByWriting_13 : decode cX1_wearByWriting 13 = .ok (.invokestatic 80, 3) := by decide +kernel
theorem dX1_wearByWriting_16 : decode cX1_wearByWriting 16 = .ok (.iaload, 1) := by decide +kernel
theorem dX1_wearByWriting_17 : decode cX1_wearByWriting 17 = .ok (.imul, 1) := by decide +kernel
theorem dX1_wearByWriting_18 : decode cX1_wearByWriting 18 = .ok (.iadd, 1) := by decide +kernel
theorem dX1_wearByWriting_19 : decode cX1_wearByWriting 19 = .ok (.iastore, 1) := by decide +kernel
theorem dX1_wearByWriting_20 : decode cX1_wearByWriting 20 = .ok (.return_, 1) := by decide +kernel
set_option maxRecDepth 20000 in
theorem ggX1_goTo_X1_stepsTo : GoodIn wsX1_goTo wsX1_stepsTo := goodIn_r _ [8, 2, 9, 3, 10, 11, 12, 13, 14, 15, 16, 17, 18, 19, 20, 21, 22, 23, 24, 25, 26, 27, 28, 29, 30, 31, 32, 33, 34, 35, 36, 37] (by decide +kernel) (by decide +kernel)
set_option maxRecDepth 20000 in
theorem gX1_goTo_X1_stepsTo : GoodIn wsX1_goTo (wsV RX1 145 RX1 yX1_stepsTo wsX1_stepsTo) := goodIn_app (goodIn_of _ (by decide +kernel)) ggX1_goTo_X1_stepsTo
theorem dX1_goTo_0 : decode cX1_goTo 0 = .ok (.aload_n 0, 1) := by decide +kernel
theorem dX1_goTo_1 : decode cX1_goTo 1 = .ok (.dup, 1) := by decide +kernel
theorem dX1_goTo_2 : decode cX1_goTo 2 = .ok (.getfield 44, 3) := by decide +kernel
theorem dX1_goTo_5 : decode cX1_goTo 5 = .ok (.aload_n 0, 1) := by decide +kernel
theorem dX1_goTo_6 : decode cX1_goTo 6 = .ok (.iload_n 1, 1) := by decide +kernel
theorem dX1_goTo_7 : decode cX1_goTo 7 = .ok (.invokevirtual 145, 3) := by decide +kernel
theorem dX1_goTo_10 : decode cX1_goTo 10 = .ok (.iadd, 1) := by decide +kernel
theorem dX1_goTo_11 : decode cX1_goTo 11 = .ok (.putfield 44, 3) := by decide +kernel
theorem dX1_goTo_14 : decode cX1_goTo 14 = .ok (.aload_n 0, 1) := by decide +kernel
theorem dX1_goTo_15 : decode cX1_goTo 15 = .ok (.aload_n 0, 1) := by decide +kernel
theorem dX1_goTo_16 : decode cX1_goTo 16 = .ok (.getfield 35, 3) := by decide +kernel
theorem dX1_goTo_19 : decode cX1_goTo 19 = .ok (.iload_n 1, 1) := by decide +kernel
theorem dX1_goTo_20 : decode cX1_goTo 20 = .ok (.iaload, 1) := by decide +kernel
theorem dX1_goTo_21 : decode cX1_goTo 21 = .ok (.putfield 41, 3) := by decide +kernel
theorem dX1_goTo_24 : decode cX1_goTo 24 = .ok (.return_, 1) := by decide +kernel
set_option maxRecDepth 20000 in
theorem ggX1_moveTo_X3_stepsBetween : GoodIn wsX1_moveTo wsX3_stepsBetween := goodIn_r _ [5, 6, 7, 8, 9, 10, 11, 4, 12, 13, 14, 15] (by decide +kernel) (by decide +kernel)
set_option maxRecDepth 20000 in
theorem gX1_moveTo_X3_stepsBetween_n101 : GoodIn wsX1_moveTo (wsX3_stepsBetween) := ggX1_moveTo_X3_stepsBetween
theorem dX1_moveTo_0 : decode cX1_moveTo 0 = .ok (.aload_n 0, 1) := by decide +kernel
theorem dX1_moveTo_1 : decode cX1_moveTo 1 = .ok (.dup, 1) := by decide +kernel
theorem dX1_moveTo_2 : decode cX1_moveTo 2 = .ok (.getfield 44, 3) := by decide +kernel
theorem dX1_moveTo_5 : decode cX1_moveTo 5 = .ok (.aload_n 0, 1) := by decide +kernel
theorem dX1_moveTo_6 : decode cX1_moveTo 6 = .ok (.getfield 41, 3) := by decide +kernel
theorem dX1_moveTo_9 : decode cX1_moveTo 9 = .ok (.iload_n 1, 1) := by decide +kernel
theorem dX1_moveTo_10 : decode cX1_moveTo 10 = .ok (.invokestatic 101, 3) := by decide +kernel
theorem dX1_moveTo_13 : decode cX1_moveTo 13 = .ok (.iadd, 1) := by decide +kernel
theorem dX1_moveTo_14 : decode cX1_moveTo 14 = .ok (.putfield 44, 3) := by decide +kernel
theorem dX1_moveTo_17 : decode cX1_moveTo 17 = .ok (.aload_n 0, 1) := by decide +kernel
theorem dX1_moveTo_18 : decode cX1_moveTo 18 = .ok (.iload_n 1, 1) := by decide +kernel
theorem dX1_moveTo_19 : decode cX1_moveTo 19 = .ok (.putfield 41, 3) := by decide +kernel
theorem dX1_moveTo_22 : decode cX1_moveTo 22 = .ok (.return_, 1) := by decide +kernel
set_option maxRecDepth 20000 in
theorem ggX1_giveBackAt_X1_isAddress : GoodIn wsX1_giveBackAt wsX1_isAddress := goodIn_r _ [7, 8, 9, 10, 11, 12, 13, 14, 15, 66, 67, 68, 69, 70, 71, 72, 73, 74, 75, 76, 77, 78, 79, 80] (by decide +kernel) (by decide +kernel)
set_option maxRecDepth 20000 in
theorem gX1_giveBackAt_X1_isAddress : GoodIn wsX1_giveBackAt (wsV RX1 69 RX1 yX1_isAddress wsX1_isAddress) := goodIn_app (goodIn_of _ (by decide +kernel)) ggX1_giveBackAt_X1_isAddress
set_option maxRecDepth 20000 in
theorem ggX1_giveBackAt_X1_isLongWay : GoodIn wsX1_giveBackAt wsX1_isLongWay := goodIn_r _ [19, 2, 20, 21, 22, 6, 23, 66, 67, 68, 69, 70, 71, 72, 73, 74, 75, 76, 77, 78, 79, 80] (by decide +kernel) (by decide +kernel)
set_option maxRecDepth 20000 in
theorem gX1_giveBackAt_X1_isLongWay : GoodIn wsX1_giveBackAt (wsV RX1 148 RX1 yX1_isLongWay wsX1_isLongWay) := goodIn_app (goodIn_of _ (by decide +kernel)) ggX1_giveBackAt_X1_isLongWay
set_option maxRecDepth 20000 in
theorem ggX1_giveBackAt_X1_isGood : GoodIn wsX1_giveBackAt wsX1_isGood := goodIn_r _ [27, 28, 29, 66, 67, 68, 69, 70, 71, 72, 73, 74, 75, 76, 77, 78, 79, 80] (by decide +kernel) (by decide +kernel)
set_option maxRecDepth 20000 in
theorem gX1_giveBackAt_X1_isGood : GoodIn wsX1_giveBackAt (wsV RX1 86 RX1 yX1_isGood wsX1_isGood) := goodIn_app (goodIn_of _ (by decide +kernel)) ggX1_giveBackAt_X1_isGood
set_option maxRecDepth 20000 in
theorem ggX1_giveBackAt_X3_headOf : GoodIn wsX1_giveBackAt wsX3_headOf := goodIn_r _ [15] (by decide +kernel) (by decide +kernel)
set_option maxRecDepth 20000 in
theorem gX1_giveBackAt_X3_headOf_n80 : GoodIn wsX1_giveBackAt (wsX3_headOf) := ggX1_giveBackAt_X3_headOf
set_option maxRecDepth 20000 in
theorem ggX1_giveBackAt_X1_goTo : GoodIn wsX1_giveBackAt wsX1_goTo := goodIn_r _ [33, 34, 2, 35, 36, 37, 38, 6, 39, 1, 14, 10, 15, 40, 41, 42, 43, 44, 45, 46, 12, 13, 47, 66, 67, 68, 69, 70, 71, 72, 73, 74, 75, 76, 77, 78, 79, 80] (by decide +kernel) (by decide +kernel)
set_option maxRecDepth 20000 in
theorem gX1_giveBackAt_X1_goTo : GoodIn wsX1_giveBackAt (wsV RX1 108 RX1 yX1_goTo wsX1_goTo) := goodIn_app (goodIn_of _ (by decide +kernel)) ggX1_giveBackAt_X1_goTo
set_option maxRecDepth 20000 in
theorem ggX1_giveBackAt_X1_moveTo : GoodIn wsX1_giveBackAt wsX1_moveTo := goodIn_r _ [51, 34, 35, 40, 10, 41, 42, 43, 44, 45, 46, 12, 13, 47, 14, 15, 66, 67, 68, 69, 70, 71, 72, 73, 74, 75, 76, 77, 78, 79, 80] (by decide +kernel) (by decide +kernel)
set_option maxRecDepth 20000 in
theorem gX1_giveBackAt_X1_moveTo : GoodIn wsX1_giveBackAt (wsV RX1 136 RX1 yX1_moveTo wsX1_moveTo) := goodIn_app (goodIn_of _ (by decide +kernel)) ggX1_giveBackAt_X1_moveTo
set_option maxRecDepth 20000 in
theorem ggX1_giveBackAt_X1_wearByWriting : GoodIn wsX1_giveBackAt wsX1_wearByWriting := goodIn_r _ [55, 28, 56, 14, 10, 15, 66, 67, 68, 69, 70, 71, 72, 73, 74, 75, 76, 77, 78, 79, 80] (by decide +kernel) (by decide +kernel)
set_option maxRecDepth 20000 in
theorem gX1_giveBackAt_X1_wearByWriting : GoodIn wsX1_giveBackAt (wsV RX1 124 RX1 yX1_wearByWriting wsX1_wearByWriting) := goodIn_app (goodIn_of _ (by decide +kernel)) ggX1_giveBackAt_X1_wearByWriting
set_option maxRecDepth 20000 in
theorem ggX1_giveBackAt_X1_lend : GoodIn wsX1_giveBackAt wsX1_lend := goodIn_r _ [60, 2, 61, 62, 63, 64, 6, 65, 20, 21, 22, 23, 66, 67, 68, 69, 70, 71, 72, 73, 74, 75, 76, 77, 78, 79, 80] (by decide +kernel) (by decide +kernel)
set_option maxRecDepth 20000 in
theorem gX1_giveBackAt_X1_lend : GoodIn wsX1_giveBackAt (wsV RX1 121 RX1 yX1_lend wsX1_lend) := goodIn_app (goodIn_of _ (by decide +kernel)) ggX1_giveBackAt_X1_lend
theorem dX1_giveBackAt_0 : decode cX1_giveBackAt 0 = .ok (.aload_n 0, 1) := by decide +kernel
theorem dX1_giveBackAt_1 : decode cX1_giveBackAt 1 = .ok (.iload_n 1, 1) := by decide +kernel
theorem dX1_giveBackAt_2 : decode cX1_giveBackAt 2 = .ok (.invokevirtual 69, 3) := by decide +kernel
theorem dX1_giveBackAt_5 : decode cX1_giveBackAt 5 = .ok (.ifCond .ne 5, 3) := by decide +kernel
theorem dX1_giveBackAt_8 : decode cX1_giveBackAt 8 = .ok (.iconst (-1), 1) := by decide +kernel
theorem dX1_giveBackAt_9 : decode cX1_giveBackAt 9 = .ok (.ireturn, 1) := by decide +kernel
theorem dX1_giveBackAt_10 : decode cX1_giveBackAt 10 = .ok (.aload_n 0, 1) := by decide +kernel
theorem dX1_giveBackAt_11 : decode cX1_giveBackAt 11 = .ok (.iload_n 1, 1) := by decide +kernel
theorem dX1_giveBackAt_12 : decode cX1_giveBackAt 12 = .ok (.invokevirtual 148, 3) := by decide +kernel
theorem dX1_giveBackAt_15 : decode cX1_giveBackAt 15 = .ok (.ifCond .ne 6, 3) := by decide +kernel
theorem dX1_giveBackAt_18 : decode cX1_giveBackAt 18 = .ok (.bipush (-5), 2) := by decide +kernel
theorem dX1_giveBackAt_20 : decode cX1_giveBackAt 20 = .ok (.ireturn, 1) := by decide +kernel
theorem dX1_giveBackAt_21 : decode cX1_giveBackAt 21 = .ok (.aload_n 0, 1) := by decide +kernel
theorem dX1_giveBackAt_22 : decode cX1_giveBackAt 22 = .ok (.iload_n 1, 1) := by decide +kernel
theorem dX1_giveBackAt_23 : decode cX1_giveBackAt 23 = .ok (.invokevirtual 86, 3) := by decide +kernel
theorem dX1_giveBackAt_26 : decode cX1_giveBackAt 26 = .ok (.ifCond .eq 15, 3) := by decide +kernel
theorem dX1_giveBackAt_29 : decode cX1_giveBackAt 29 = .ok (.aload_n 0, 1) := by decide +kernel
theorem dX1_giveBackAt_30 : decode cX1_giveBackAt 30 = .ok (.getfield 22, 3) := by decide +kernel
theorem dX1_giveBackAt_33 : decode cX1_giveBackAt 33 = .ok (.iload_n 1, 1) := by decide +kernel
theorem dX1_giveBackAt_34 : decode cX1_giveBackAt 34 = .ok (.invokestatic 80, 3) := by decide +kernel
theorem dX1_giveBackAt_37 : decode cX1_giveBackAt 37 = .ok (.baload, 1) := by decide +kernel
theorem dX1_giveBackAt_38 : decode cX1_giveBackAt 38 = .ok (.ifCond .eq 6, 3) := by decide +kernel
theorem dX1_giveBackAt_41 : decode cX1_giveBackAt 41 = .ok (.bipush (-4), 2) := by decide +kernel
theorem dX1_giveBackAt_43 : decode cX1_giveBackAt 43 = .ok (.ireturn, 1) := by decide +kernel
theorem dX1_giveBackAt_44 : decode cX1_giveBackAt 44 = .ok (.aload_n 0, 1) := by decide +kernel
theorem dX1_giveBackAt_45 : decode cX1_giveBackAt 45 = .ok (.getfield 35, 3) := by decide +kernel
theorem dX1_giveBackAt_48 : decode cX1_giveBackAt 48 = .ok (.iload_n 1, 1) := by decide +kernel
theorem dX1_giveBackAt_49 : decode cX1_giveBackAt 49 = .ok (.iaload, 1) := by decide +kernel
theorem dX1_giveBackAt_50 : decode cX1_giveBackAt 50 = .ok (.istore_n 2, 1) := by decide +kernel
theorem dX1_giveBackAt_51 : decode cX1_giveBackAt 51 = .ok (.aload_n 0, 1) := by decide +kernel
theorem dX1_giveBackAt_52 : decode cX1_giveBackAt 52 = .ok (.iload_n 1, 1) := by decide +kernel
theorem dX1_giveBackAt_53 : decode cX1_giveBackAt 53 = .ok (.invokevirtual 108, 3) := by decide +kernel
theorem dX1_giveBackAt_56 : decode cX1_giveBackAt 56 = .ok (.aload_n 0, 1) := by decide +kernel
theorem dX1_giveBackAt_57 : decode cX1_giveBackAt 57 = .ok (.iload_n 1, 1) := by decide +kernel
theorem dX1_giveBackAt_58 : decode cX1_giveBackAt 58 = .ok (.invokevirtual 136, 3) := by decide +kernel
theorem dX1_giveBackAt_61 : decode cX1_giveBackAt 61 = .ok (.aload_n 0, 1) := by decide +kernel
theorem dX1_giveBackAt_62 : decode cX1_giveBackAt 62 = .ok (.iload_n 1, 1) := by decide +kernel
theorem dX1_giveBackAt_63 : decode cX1_giveBackAt 63 = .ok (.invokevirtual 124, 3) := by decide +kernel
theorem dX1_giveBackAt_66 : decode cX1_giveBackAt 66 = .ok (.aload_n 0, 1) := by decide +kernel
theorem dX1_giveBackAt_67 : decode cX1_giveBackAt 67 = .ok (.iload_n 1, 1) := by decide +kernel
theorem dX1_giveBackAt_68 : decode cX1_giveBackAt 68 = .ok (.iload_n 1, 1) := by decide +kernel
theorem dX1_giveBackAt_69 : decode cX1_giveBackAt 69 = .ok (.invokevirtual 121, 3) := by decide +kernel
theorem dX1_giveBackAt_72 : decode cX1_giveBackAt 72 = .ok (.iload_n 2, 1) := by decide +kernel
theorem dX1_giveBackAt_73 : decode cX1_giveBackAt 73 = .ok (.ireturn, 1) := by decide +kernel
set_option maxRecDepth 20000 in
theorem ggX1_vacate_X1_isAddress : GoodIn wsX1_vacate wsX1_isAddress := goodIn_r _ [8, 9, 10, 11, 12, 13, 14, 15, 16, 65, 66, 67, 68, 69, 70, 71, 72, 73, 74, 75, 76, 77, 78, 79] (by decide +kernel) (by decide +kernel)
set_option maxRecDepth 20000 in
theorem gX1_vacate_X1_isAddress : GoodIn wsX1_vacate (wsV RX1 69 RX1 yX1_isAddress wsX1_isAddress) := goodIn_app (goodIn_of _ (by decide +kernel)) ggX1_vacate_X1_isAddress
set_option maxRecDepth 20000 in
theorem ggX1_vacate_X1_isLost : GoodIn wsX1_vacate wsX1_isLost := goodIn_r _ [20, 3, 65, 66, 67, 68, 69, 70, 71, 72, 73, 74, 75, 76, 77, 78, 79] (by decide +kernel) (by decide +kernel)
set_option maxRecDepth 20000 in
theorem gX1_vacate_X1_isLost : GoodIn wsX1_vacate (wsV RX1 83 RX1 yX1_isLost wsX1_isLost) := goodIn_app (goodIn_of _ (by decide +kernel)) ggX1_vacate_X1_isLost
set_option maxRecDepth 20000 in
theorem ggX1_vacate_X3_headOf : GoodIn wsX1_vacate wsX3_headOf := goodIn_r _ [16] (by decide +kernel) (by decide +kernel)
set_option maxRecDepth 20000 in
theorem gX1_vacate_X3_headOf_n80 : GoodIn wsX1_vacate (wsX3_headOf) := ggX1_vacate_X3_headOf
set_option maxRecDepth 20000 in
theorem ggX1_vacate_X1_moveAway : GoodIn wsX1_vacate wsX1_moveAway := goodIn_r _ [24, 25, 26, 27, 7, 28, 15, 11, 16, 29, 30, 31, 32, 33, 34, 35, 36, 9, 37, 2, 13, 14, 38, 39, 40, 41, 42, 43, 44, 45, 46, 47, 48, 49, 50, 51, 1, 52, 53, 54, 55, 3, 17, 18, 19, 20, 56, 57, 58, 59, 60, 61, 62, 63, 64, 65, 66, 67, 68, 69, 70, 71, 72, 73, 74, 75, 76, 77, 78, 79] (by decide +kernel) (by decide +kernel)
set_option maxRecDepth 20000 in
theorem gX1_vacate_X1_moveAway : GoodIn wsX1_vacate (wsV RX1 151 RX1 yX1_moveAway wsX1_moveAway) := goodIn_app (goodIn_of _ (by decide +kernel)) ggX1_vacate_X1_moveAway
theorem dX1_vacate_0 : decode cX1_vacate 0 = .ok (.aload_n 0, 1) := by decide +kernel
theorem dX1_vacate_1 : decode cX1_vacate 1 = .ok (.getfield 50, 3) := by decide +kernel
theorem dX1_vacate_4 : decode cX1_vacate 4 = .ok (.istore_n 2, 1) := by decide +kernel
theorem dX1_vacate_5 : decode cX1_vacate 5 = .ok (.aload_n 0, 1) := by decide +kernel
theorem dX1_vacate_6 : decode cX1_vacate 6 = .ok (.getfield 22, 3) := by decide +kernel
theorem dX1_vacate_9 : decode cX1_vacate 9 = .ok (.iload_n 1, 1) := by decide +kernel
theorem dX1_vacate_10 : decode cX1_vacate 10 = .ok (.iconst 1, 1) := by decide +kernel
theorem dX1_vacate_11 : decode cX1_vacate 11 = .ok (.bastore, 1) := by decide +kernel
theorem dX1_vacate_12 : decode cX1_vacate 12 = .ok (.iconst 0, 1) := by decide +kernel
theorem dX1_vacate_13 : decode cX1_vacate 13 = .ok (.istore_n 3, 1) := by decide +kernel
theorem dX1_vacate_14 : decode cX1_vacate 14 = .ok (.iload_n 3, 1) := by decide +kernel
theorem dX1_vacate_15 : decode cX1_vacate 15 = .ok (.bipush 64, 2) := by decide +kernel
theorem dX1_vacate_17 : decode cX1_vacate 17 = .ok (.if_icmp .ge 43, 3) := by decide +kernel
theorem dX1_vacate_20 : decode cX1_vacate 20 = .ok (.aload_n 0, 1) := by decide +kernel
theorem dX1_vacate_21 : decode cX1_vacate 21 = .ok (.iload_n 3, 1) := by decide +kernel
theorem dX1_vacate_22 : decode cX1_vacate 22 = .ok (.invokevirtual 69, 3) := by decide +kernel
theorem dX1_vacate_25 : decode cX1_vacate 25 = .ok (.ifCond .eq 29, 3) := by decide +kernel
theorem dX1_vacate_28 : decode cX1_vacate 28 = .ok (.aload_n 0, 1) := by decide +kernel
theorem dX1_vacate_29 : decode cX1_vacate 29 = .ok (.iload_n 3, 1) := by decide +kernel
theorem dX1_vacate_30 : decode cX1_vacate 30 = .ok (.invokevirtual 83, 3) := by decide +kernel
theorem dX1_vacate_33 : decode cX1_vacate 33 = .ok (.ifCond .ne 21, 3) := by decide +kernel
theorem dX1_vacate_36 : decode cX1_vacate 36 = .ok (.aload_n 0, 1) := by decide +kernel
theorem dX1_vacate_37 : decode cX1_vacate 37 = .ok (.getfield 35, 3) := by decide +kernel
theorem dX1_vacate_40 : decode cX1_vacate 40 = .ok (.iload_n 3, 1) := by decide +kernel
theorem dX1_vacate_41 : decode cX1_vacate 41 = .ok (.iaload, 1) := by decide +kernel
theorem dX1_vacate_42 : decode cX1_vacate 42 = .ok (.invokestatic 80, 3) := by decide +kernel
theorem dX1_vacate_45 : decode cX1_vacate 45 = .ok (.iload_n 1, 1) := by decide +kernel
theorem dX1_vacate_46 : decode cX1_vacate 46 = .ok (.if_icmp .ne 8, 3) := by decide +kernel
theorem dX1_vacate_49 : decode cX1_vacate 49 = .ok (.aload_n 0, 1) := by decide +kernel
theorem dX1_vacate_50 : decode cX1_vacate 50 = .ok (.iload_n 3, 1) := by decide +kernel
theorem dX1_vacate_51 : decode cX1_vacate 51 = .ok (.invokevirtual 151, 3) := by decide +kernel
theorem dX1_vacate_54 : decode cX1_vacate 54 = .ok (.iinc 3 1, 3) := by decide +kernel
theorem dX1_vacate_57 : decode cX1_vacate 57 = .ok (.goto (-43), 3) := by decide +kernel
theorem dX1_vacate_60 : decode cX1_vacate 60 = .ok (.aload_n 0, 1) := by decide +kernel
theorem dX1_vacate_61 : decode cX1_vacate 61 = .ok (.getfield 50, 3) := by decide +kernel
theorem dX1_vacate_64 : decode cX1_vacate 64 = .ok (.iload_n 2, 1) := by decide +kernel
theorem dX1_vacate_65 : decode cX1_vacate 65 = .ok (.isub, 1) := by decide +kernel
theorem dX1_vacate_66 : decode cX1_vacate 66 = .ok (.ireturn, 1) := by decide +kernel
set_option maxRecDepth 20000 in
theorem ggX1_moveAway_X1_lendableTo : GoodIn wsX1_moveAway wsX1_lendableTo := goodIn_r _ [5, 6, 7, 8, 9, 10, 11, 4, 12, 13, 14, 15, 16, 17, 18, 19, 20, 21, 22, 23, 24, 25, 26, 27, 28, 29, 30, 31, 55, 56, 57, 58, 59, 60, 61, 62, 63, 64, 65, 66, 67, 68, 69] (by decide +kernel) (by decide +kernel)
set_option maxRecDepth 20000 in
theorem gX1_moveAway_X1_lendableTo : GoodIn wsX1_moveAway (wsV RX1 118 RX1 yX1_lendableTo wsX1_lendableTo) := goodIn_app (goodIn_of _ (by decide +kernel)) ggX1_moveAway_X1_lendableTo
set_option maxRecDepth 20000 in
theorem ggX1_moveAway_X1_lose : GoodIn wsX1_moveAway wsX1_lose := goodIn_r _ [35, 36, 37, 38, 39, 4, 40, 18, 41, 42, 43, 44, 45, 55, 56, 57, 58, 59, 60, 61, 62, 63, 64, 65, 66, 67, 68, 69] (by decide +kernel) (by decide +kernel)
set_option maxRecDepth 20000 in
theorem gX1_moveAway_X1_lose : GoodIn wsX1_moveAway (wsV RX1 139 RX1 yX1_lose wsX1_lose) := goodIn_app (goodIn_of _ (by decide +kernel)) ggX1_moveAway_X1_lose
set_option maxRecDepth 20000 in
theorem ggX1_moveAway_X1_lend : GoodIn wsX1_moveAway wsX1_lend := goodIn_r _ [49, 41, 18, 37, 38, 39, 4, 40, 42, 43, 44, 45, 55, 56, 57, 58, 59, 60, 61, 62, 63, 64, 65, 66, 67, 68, 69] (by decide +kernel) (by decide +kernel)
set_option maxRecDepth 20000 in
theorem gX1_moveAway_X1_lend : GoodIn wsX1_moveAway (wsV RX1 121 RX1 yX1_lend wsX1_lend) := goodIn_app (goodIn_of _ (by decide +kernel)) ggX1_moveAway_X1_lend
set_option maxRecDepth 20000 in
theorem ggX1_moveAway_X1_wearByWriting : GoodIn wsX1_moveAway wsX1_wearByWriting := goodIn_r _ [53, 26, 54, 6, 7, 8, 55, 56, 57, 58, 59, 60, 61, 62, 63, 64, 65, 66, 67, 68, 69] (by decide +kernel) (by decide +kernel)
set_option maxRecDepth 20000 in
theorem gX1_moveAway_X1_wearByWriting : GoodIn wsX1_moveAway (wsV RX1 124 RX1 yX1_wearByWriting wsX1_wearByWriting) := goodIn_app (goodIn_of _ (by decide +kernel)) ggX1_moveAway_X1_wearByWriting
theorem dX1_moveAway_0 : decode cX1_moveAway 0 = .ok (.aload_n 0, 1) := by decide +kernel
theorem dX1_moveAway_1 : decode cX1_moveAway 1 = .ok (.iload_n 1, 1) := by decide +kernel
theorem dX1_moveAway_2 : decode cX1_moveAway 2 = .ok (.invokevirtual 118, 3) := by decide +kernel
theorem dX1_moveAway_5 : decode cX1_moveAway 5 = .ok (.istore_n 2, 1) := by decide +kernel
theorem dX1_moveAway_6 : decode cX1_moveAway 6 = .ok (.iload_n 2, 1) := by decide +kernel
theorem dX1_moveAway_7 : decode cX1_moveAway 7 = .ok (.bipush (-5), 2) := by decide +kernel
theorem dX1_moveAway_9 : decode cX1_moveAway 9 = .ok (.if_icmp .ne 11, 3) := by decide +kernel
theorem dX1_moveAway_12 : decode cX1_moveAway 12 = .ok (.aload_n 0, 1) := by decide +kernel
theorem dX1_moveAway_13 : decode cX1_moveAway 13 = .ok (.iload_n 1, 1) := by decide +kernel
theorem dX1_moveAway_14 : decode cX1_moveAway 14 = .ok (.invokevirtual 139, 3) := by decide +kernel
theorem dX1_moveAway_17 : decode cX1_moveAway 17 = .ok (.goto 14, 3) := by decide +kernel
theorem dX1_moveAway_20 : decode cX1_moveAway 20 = .ok (.aload_n 0, 1) := by decide +kernel
theorem dX1_moveAway_21 : decode cX1_moveAway 21 = .ok (.iload_n 1, 1) := by decide +kernel
theorem dX1_moveAway_22 : decode cX1_moveAway 22 = .ok (.iload_n 2, 1) := by decide +kernel
theorem dX1_moveAway_23 : decode cX1_moveAway 23 = .ok (.invokevirtual 121, 3) := by decide +kernel
theorem dX1_moveAway_26 : decode cX1_moveAway 26 = .ok (.aload_n 0, 1) := by decide +kernel
theorem dX1_moveAway_27 : decode cX1_moveAway 27 = .ok (.iload_n 2, 1) := by decide +kernel
theorem dX1_moveAway_28 : decode cX1_moveAway 28 = .ok (.invokevirtual 124, 3) := by decide +kernel
theorem dX1_moveAway_31 : decode cX1_moveAway 31 = .ok (.return_, 1) := by decide +kernel
set_option maxRecDepth 20000 in
theorem ggX1_tellAddress_X1_isLost : GoodIn wsX1_tellAddress wsX1_isLost := goodIn_r _ [8, 2, 56, 57, 58, 59, 60, 61, 62, 63, 64, 65, 66, 67, 68, 69, 70] (by decide +kernel) (by decide +kernel)
set_option maxRecDepth 20000 in
theorem gX1_tellAddress_X1_isLost : GoodIn wsX1_tellAddress (wsV RX1 83 RX1 yX1_isLost wsX1_isLost) := goodIn_app (goodIn_of _ (by decide +kernel)) ggX1_tellAddress_X1_isLost
set_option maxRecDepth 20000 in
theorem ggX1_tellAddress_X1_isLongWay : GoodIn wsX1_tellAddress wsX1_isLongWay := goodIn_r _ [12, 2, 4, 5, 6, 7, 8, 56, 57, 58, 59, 60, 61, 62, 63, 64, 65, 66, 67, 68, 69, 70] (by decide +kernel) (by decide +kernel)
set_option maxRecDepth 20000 in
theorem gX1_tellAddress_X1_isLongWay : GoodIn wsX1_tellAddress (wsV RX1 148 RX1 yX1_isLongWay wsX1_isLongWay) := goodIn_app (goodIn_of _ (by decide +kernel)) ggX1_tellAddress_X1_isLongWay
set_option maxRecDepth 20000 in
theorem ggX1_tellAddress_X1_lendableTo : GoodIn wsX1_tellAddress wsX1_lendableTo := goodIn_r _ [16, 17, 18, 19, 20, 21, 22, 7, 23, 24, 25, 26, 27, 28, 29, 30, 31, 32, 33, 34, 35, 36, 37, 38, 39, 40, 41, 42, 56, 57, 58, 59, 60, 61, 62, 63, 64, 65, 66, 67, 68, 69, 70] (by decide +kernel) (by decide +kernel)
set_option maxRecDepth 20000 in
theorem gX1_tellAddress_X1_lendableTo : GoodIn wsX1_tellAddress (wsV RX1 118 RX1 yX1_lendableTo wsX1_lendableTo) := goodIn_app (goodIn_of _ (by decide +kernel)) ggX1_tellAddress_X1_lendableTo
set_option maxRecDepth 20000 in
theorem ggX1_tellAddress_X1_stepsTo : GoodIn wsX1_tellAddress wsX1_stepsTo := goodIn_r _ [46, 2, 30, 47, 17, 18, 19, 48, 49, 50, 51, 52, 53, 54, 31, 32, 55, 56, 57, 58, 59, 60, 61, 62, 63, 64, 65, 66, 67, 68, 69, 70] (by decide +kernel) (by decide +kernel)
set_option maxRecDepth 20000 in
theorem gX1_tellAddress_X1_stepsTo : GoodIn wsX1_tellAddress (wsV RX1 145 RX1 yX1_stepsTo wsX1_stepsTo) := goodIn_app (goodIn_of _ (by decide +kernel)) ggX1_tellAddress_X1_stepsTo
theorem dX1_tellAddress_0 : decode cX1_tellAddress 0 = .ok (.iload_n 2, 1) := by decide +kernel
theorem dX1_tellAddress_1 : decode cX1_tellAddress 1 = .ok (.tableswitch 112 0 5 #[39, 59, 66, 80, 86, 105], 39) := by decide +kernel
theorem dX1_tellAddress_40 : decode cX1_tellAddress 40 = .ok (.aload_n 0, 1) := by decide +kernel
theorem dX1_tellAddress_41 : decode cX1_tellAddress 41 = .ok (.iload_n 1, 1) := by decide +kernel
theorem dX1_tellAddress_42 : decode cX1_tellAddress 42 = .ok (.invokevirtual 83, 3) := by decide +kernel
theorem dX1_tellAddress_45 : decode cX1_tellAddress 45 = .ok (.ifCond .eq 8, 3) := by decide +kernel
theorem dX1_tellAddress_48 : decode cX1_tellAddress 48 = .ok (.bipush (-5), 2) := by decide +kernel
theorem dX1_tellAddress_50 : decode cX1_tellAddress 50 = .ok (.goto 9, 3) := by decide +kernel
theorem dX1_tellAddress_53 : decode cX1_tellAddress 53 = .ok (.aload_n 0, 1) := by decide +kernel
theorem dX1_tellAddress_54 : decode cX1_tellAddress 54 = .ok (.getfield 29, 3) := by decide +kernel
theorem dX1_tellAddress_57 : decode cX1_tellAddress 57 = .ok (.iload_n 1, 1) := by decide +kernel
theorem dX1_tellAddress_58 : decode cX1_tellAddress 58 = .ok (.iaload, 1) := by decide +kernel
theorem dX1_tellAddress_59 : decode cX1_tellAddress 59 = .ok (.ireturn, 1) := by decide +kernel
theorem dX1_tellAddress_60 : decode cX1_tellAddress 60 = .ok (.aload_n 0, 1) := by decide +kernel
theorem dX1_tellAddress_61 : decode cX1_tellAddress 61 = .ok (.getfield 35, 3) := by decide +kernel
theorem dX1_tellAddress_64 : decode cX1_tellAddress 64 = .ok (.iload_n 1, 1) := by decide +kernel
theorem dX1_tellAddress_65 : decode cX1_tellAddress 65 = .ok (.iaload, 1) := by decide +kernel
theorem dX1_tellAddress_66 : decode cX1_tellAddress 66 = .ok (.ireturn, 1) := by decide +kernel
theorem dX1_tellAddress_67 : decode cX1_tellAddress 67 = .ok (.aload_n 0, 1) := by decide +kernel
theorem dX1_tellAddress_68 : decode cX1_tellAddress 68 = .ok (.iload_n 1, 1) := by decide +kernel
theorem dX1_tellAddress_69 : decode cX1_tellAddress 69 = .ok (.invokevirtual 148, 3) := by decide +kernel
theorem dX1_tellAddress_72 : decode cX1_tellAddress 72 = .ok (.ifCond .eq 7, 3) := by decide +kernel
theorem dX1_tellAddress_75 : decode cX1_tellAddress 75 = .ok (.iconst 1, 1) := by decide +kernel
theorem dX1_tellAddress_76 : decode cX1_tellAddress 76 = .ok (.goto 4, 3) := by decide +kernel
theorem dX1_tellAddress_79 : decode cX1_tellAddress 79 = .ok (.iconst 0, 1) := by decide +kernel
theorem dX1_tellAddress_80 : decode cX1_tellAddress 80 = .ok (.ireturn, 1) := by decide +kernel
theorem dX1_tellAddress_81 : decode cX1_tellAddress 81 = .ok (.aload_n 0, 1) := by decide +kernel
theorem dX1_tellAddress_82 : decode cX1_tellAddress 82 = .ok (.iload_n 1, 1) := by decide +kernel
theorem dX1_tellAddress_83 : decode cX1_tellAddress 83 = .ok (.invokevirtual 118, 3) := by decide +kernel
theorem dX1_tellAddress_86 : decode cX1_tellAddress 86 = .ok (.ireturn, 1) := by decide +kernel
theorem dX1_tellAddress_87 : decode cX1_tellAddress 87 = .ok (.aload_n 0, 1) := by decide +kernel
theorem dX1_tellAddress_88 : decode cX1_tellAddress 88 = .ok (.iload_n 1, 1) := by decide +kernel
theorem dX1_tellAddress_89 : decode cX1_tellAddress 89 = .ok (.invokevirtual 83, 3) := by decide +kernel
theorem dX1_tellAddress_92 : decode cX1_tellAddress 92 = .ok (.ifCond .eq 8, 3) := by decide +kernel
theorem dX1_tellAddress_95 : decode cX1_tellAddress 95 = .ok (.bipush (-5), 2) := by decide +kernel
theorem dX1_tellAddress_97 : decode cX1_tellAddress 97 = .ok (.goto 8, 3) := by decide +kernel
theorem dX1_tellAddress_100 : decode cX1_tellAddress 100 = .ok (.aload_n 0, 1) := by decide +kernel
theorem dX1_tellAddress_101 : decode cX1_tellAddress 101 = .ok (.iload_n 1, 1) := by decide +kernel
theorem dX1_tellAddress_102 : decode cX1_tellAddress 102 = .ok (.invokevirtual 145, 3) := by decide +kernel
theorem dX1_tellAddress_105 : decode cX1_tellAddress 105 = .ok (.ireturn, 1) := by decide +kernel
theorem dX1_tellAddress_106 : decode cX1_tellAddress 106 = .ok (.aload_n 0, 1) := by decide +kernel
theorem dX1_tellAddress_107 : decode cX1_tellAddress 107 = .ok (.getfield 32, 3) := by decide +kernel
theorem dX1_tellAddress_110 : decode cX1_tellAddress 110 = .ok (.iload_n 1, 1) := by decide +kernel
theorem dX1_tellAddress_111 : decode cX1_tellAddress 111 = .ok (.iaload, 1) := by decide +kernel
theorem dX1_tellAddress_112 : decode cX1_tellAddress 112 = .ok (.ireturn, 1) := by decide +kernel
theorem dX1_tellAddress_113 : decode cX1_tellAddress 113 = .ok (.bipush (-2), 2) := by decide +kernel
theorem dX1_tellAddress_115 : decode cX1_tellAddress 115 = .ok (.ireturn, 1) := by decide +kernel
set_option maxRecDepth 20000 in
theorem ggX1_tellSector_X1_gradeOf : GoodIn wsX1_tellSector wsX1_gradeOf := goodIn_r _ [7, 8, 9, 10, 6, 11, 1, 12, 13, 14, 15, 16, 34, 35, 36, 37, 38, 39, 40, 41, 42, 43, 44, 45, 46, 47, 48] (by decide +kernel) (by decide +kernel)
set_option maxRecDepth 20000 in
theorem gX1_tellSector_X1_gradeOf : GoodIn wsX1_tellSector (wsV RX1 154 RX1 yX1_gradeOf wsX1_gradeOf) := goodIn_app (goodIn_of _ (by decide +kernel)) ggX1_tellSector_X1_gradeOf
set_option maxRecDepth 20000 in
theorem ggX1_tellSector_X1_isAddress : GoodIn wsX1_tellSector wsX1_isAddress := goodIn_r _ [20, 21, 22, 23, 24, 25, 26, 27, 28, 34, 35, 36, 37, 38, 39, 40, 41, 42, 43, 44, 45, 46, 47, 48] (by decide +kernel) (by decide +kernel)
set_option maxRecDepth 20000 in
theorem gX1_tellSector_X1_isAddress : GoodIn wsX1_tellSector (wsV RX1 69 RX1 yX1_isAddress wsX1_isAddress) := goodIn_app (goodIn_of _ (by decide +kernel)) ggX1_tellSector_X1_isAddress
set_option maxRecDepth 20000 in
theorem ggX1_tellSector_X1_isFree : GoodIn wsX1_tellSector wsX1_isFree := goodIn_r _ [32, 21, 2, 33, 27, 23, 28, 25, 26, 8, 9, 10, 6, 11, 1, 12, 34, 35, 36, 37, 38, 39, 40, 41, 42, 43, 44, 45, 46, 47, 48] (by decide +kernel) (by decide +kernel)
set_option maxRecDepth 20000 in
theorem gX1_tellSector_X1_isFree : GoodIn wsX1_tellSector (wsV RX1 92 RX1 yX1_isFree wsX1_isFree) := goodIn_app (goodIn_of _ (by decide +kernel)) ggX1_tellSector_X1_isFree
theorem dX1_tellSector_0 : decode cX1_tellSector 0 = .ok (.iload_n 2, 1) := by decide +kernel
theorem dX1_tellSector_1 : decode cX1_tellSector 1 = .ok (.tableswitch 83 0 4 #[35, 42, 48, 62, 69], 35) := by decide +kernel
theorem dX1_tellSector_36 : decode cX1_tellSector 36 = .ok (.aload_n 0, 1) := by decide +kernel
theorem dX1_tellSector_37 : decode cX1_tellSector 37 = .ok (.getfield 26, 3) := by decide +kernel
theorem dX1_tellSector_40 : decode cX1_tellSector 40 = .ok (.iload_n 1, 1) := by decide +kernel
theorem dX1_tellSector_41 : decode cX1_tellSector 41 = .ok (.iaload, 1) := by decide +kernel
theorem dX1_tellSector_42 : decode cX1_tellSector 42 = .ok (.ireturn, 1) := by decide +kernel
theorem dX1_tellSector_43 : decode cX1_tellSector 43 = .ok (.aload_n 0, 1) := by decide +kernel
theorem dX1_tellSector_44 : decode cX1_tellSector 44 = .ok (.iload_n 1, 1) := by decide +kernel
theorem dX1_tellSector_45 : decode cX1_tellSector 45 = .ok (.invokevirtual 154, 3) := by decide +kernel
theorem dX1_tellSector_48 : decode cX1_tellSector 48 = .ok (.ireturn, 1) := by decide +kernel
theorem dX1_tellSector_49 : decode cX1_tellSector 49 = .ok (.aload_n 0, 1) := by decide +kernel
theorem dX1_tellSector_50 : decode cX1_tellSector 50 = .ok (.iload_n 1, 1) := by decide +kernel
theorem dX1_tellSector_51 : decode cX1_tellSector 51 = .ok (.invokevirtual 69, 3) := by decide +kernel
theorem dX1_tellSector_54 : decode cX1_tellSector 54 = .ok (.ifCond .eq 7, 3) := by decide +kernel
theorem dX1_tellSector_57 : decode cX1_tellSector 57 = .ok (.iconst 0, 1) := by decide +kernel
theorem dX1_tellSector_58 : decode cX1_tellSector 58 = .ok (.goto 4, 3) := by decide +kernel
theorem dX1_tellSector_61 : decode cX1_tellSector 61 = .ok (.iconst 1, 1) := by decide +kernel
theorem dX1_tellSector_62 : decode cX1_tellSector 62 = .ok (.ireturn, 1) := by decide +kernel
theorem dX1_tellSector_63 : decode cX1_tellSector 63 = .ok (.aload_n 0, 1) := by decide +kernel
theorem dX1_tellSector_64 : decode cX1_tellSector 64 = .ok (.getfield 38, 3) := by decide +kernel
theorem dX1_tellSector_67 : decode cX1_tellSector 67 = .ok (.iload_n 1, 1) := by decide +kernel
theorem dX1_tellSector_68 : decode cX1_tellSector 68 = .ok (.iaload, 1) := by decide +kernel
theorem dX1_tellSector_69 : decode cX1_tellSector 69 = .ok (.ireturn, 1) := by decide +kernel
theorem dX1_tellSector_70 : decode cX1_tellSector 70 = .ok (.aload_n 0, 1) := by decide +kernel
theorem dX1_tellSector_71 : decode cX1_tellSector 71 = .ok (.iload_n 1, 1) := by decide +kernel
theorem dX1_tellSector_72 : decode cX1_tellSector 72 = .ok (.invokevirtual 92, 3) := by decide +kernel
theorem dX1_tellSector_75 : decode cX1_tellSector 75 = .ok (.ifCond .eq 7, 3) := by decide +kernel
theorem dX1_tellSector_78 : decode cX1_tellSector 78 = .ok (.iconst 1, 1) := by decide +kernel
theorem dX1_tellSector_79 : decode cX1_tellSector 79 = .ok (.goto 4, 3) := by decide +kernel
theorem dX1_tellSector_82 : decode cX1_tellSector 82 = .ok (.iconst 0, 1) := by decide +kernel
theorem dX1_tellSector_83 : decode cX1_tellSector 83 = .ok (.ireturn, 1) := by decide +kernel
theorem dX1_tellSector_84 : decode cX1_tellSector 84 = .ok (.bipush (-2), 2) := by decide +kernel
theorem dX1_tellSector_86 : decode cX1_tellSector 86 = .ok (.ireturn, 1) := by decide +kernel
set_option maxRecDepth 20000 in
theorem ggX1_tellHead_X1_freeOf : GoodIn wsX1_tellHead wsX1_freeOf := goodIn_r _ [10, 11, 12, 13, 9, 14, 2, 4, 3, 15, 16, 17, 18, 19, 20, 21, 22, 23, 24, 25, 54, 55, 56, 57, 58, 59, 60, 61, 62, 63, 64, 65, 66, 67, 68] (by decide +kernel) (by decide +kernel)
set_option maxRecDepth 20000 in
theorem gX1_tellHead_X1_freeOf : GoodIn wsX1_tellHead (wsV RX1 98 RX1 yX1_freeOf wsX1_freeOf) := goodIn_app (goodIn_of _ (by decide +kernel)) ggX1_tellHead_X1_freeOf
set_option maxRecDepth 20000 in
theorem ggX1_tellHead_X1_leadingElsewhere : GoodIn wsX1_tellHead wsX1_leadingElsewhere := goodIn_r _ [29, 15, 16, 17] (by decide +kernel) (by decide +kernel)
set_option maxRecDepth 20000 in
theorem gX1_tellHead_X1_leadingElsewhere : GoodIn wsX1_tellHead (wsV RX1 157 RX1 yX1_leadingElsewhere wsX1_leadingElsewhere) := goodIn_app (goodIn_of _ (by decide +kernel)) ggX1_tellHead_X1_leadingElsewhere
set_option maxRecDepth 20000 in
theorem ggX1_tellHead_X1_lostOf : GoodIn wsX1_tellHead wsX1_lostOf := goodIn_r _ [33, 2, 34, 35, 36, 9, 37, 5, 54, 55, 56, 57, 58, 59, 60, 61, 62, 63, 64, 65, 66, 67, 68] (by decide +kernel) (by decide +kernel)
set_option maxRecDepth 20000 in
theorem gX1_tellHead_X1_lostOf : GoodIn wsX1_tellHead (wsV RX1 133 RX1 yX1_lostOf wsX1_lostOf) := goodIn_app (goodIn_of _ (by decide +kernel)) ggX1_tellHead_X1_lostOf
set_option maxRecDepth 20000 in
theorem ggX1_tellHead_X1_wearOf : GoodIn wsX1_tellHead wsX1_wearOf := goodIn_r _ [41, 24, 54, 55, 56, 57, 58, 59, 60, 61, 62, 63, 64, 65, 66, 67, 68] (by decide +kernel) (by decide +kernel)
set_option maxRecDepth 20000 in
theorem gX1_tellHead_X1_wearOf : GoodIn wsX1_tellHead (wsV RX1 105 RX1 yX1_wearOf wsX1_wearOf) := goodIn_app (goodIn_of _ (by decide +kernel)) ggX1_tellHead_X1_wearOf
set_option maxRecDepth 20000 in
theorem ggX1_tellHead_X1_gradedOf : GoodIn wsX1_tellHead wsX1_gradedOf := goodIn_r _ [45, 46, 47, 48, 9, 49, 20, 21, 22, 23, 24, 25, 50, 51, 52, 53, 54, 55, 56, 57, 58, 59, 60, 61, 62, 63, 64, 65, 66, 67, 68] (by decide +kernel) (by decide +kernel)
set_option maxRecDepth 20000 in
theorem gX1_tellHead_X1_gradedOf : GoodIn wsX1_tellHead (wsV RX1 161 RX1 yX1_gradedOf wsX1_gradedOf) := goodIn_app (goodIn_of _ (by decide +kernel)) ggX1_tellHead_X1_gradedOf
theorem dX1_tellHead_0 : decode cX1_tellHead 0 = .ok (.iload_n 2, 1) := by decide +kernel
theorem dX1_tellHead_1 : decode cX1_tellHead 1 = .ok (.tableswitch 136 0 9 #[55, 62, 69, 75, 90, 100, 110, 116, 122, 129], 55) := by decide +kernel
theorem dX1_tellHead_56 : decode cX1_tellHead 56 = .ok (.aload_n 0, 1) := by decide +kernel
theorem dX1_tellHead_57 : decode cX1_tellHead 57 = .ok (.getfield 15, 3) := by decide +kernel
theorem dX1_tellHead_60 : decode cX1_tellHead 60 = .ok (.iload_n 1, 1) := by decide +kernel
theorem dX1_tellHead_61 : decode cX1_tellHead 61 = .ok (.iaload, 1) := by decide +kernel
theorem dX1_tellHead_62 : decode cX1_tellHead 62 = .ok (.ireturn, 1) := by decide +kernel
theorem dX1_tellHead_63 : decode cX1_tellHead 63 = .ok (.aload_n 0, 1) := by decide +kernel
theorem dX1_tellHead_64 : decode cX1_tellHead 64 = .ok (.getfield 19, 3) := by decide +kernel
theorem dX1_tellHead_67 : decode cX1_tellHead 67 = .ok (.iload_n 1, 1) := by decide +kernel
theorem dX1_tellHead_68 : decode cX1_tellHead 68 = .ok (.iaload, 1) := by decide +kernel
theorem dX1_tellHead_69 : decode cX1_tellHead 69 = .ok (.ireturn, 1) := by decide +kernel
theorem dX1_tellHead_70 : decode cX1_tellHead 70 = .ok (.aload_n 0, 1) := by decide +kernel
theorem dX1_tellHead_71 : decode cX1_tellHead 71 = .ok (.iload_n 1, 1) := by decide +kernel
theorem dX1_tellHead_72 : decode cX1_tellHead 72 = .ok (.invokevirtual 98, 3) := by decide +kernel
theorem dX1_tellHead_75 : decode cX1_tellHead 75 = .ok (.ireturn, 1) := by decide +kernel
theorem dX1_tellHead_76 : decode cX1_tellHead 76 = .ok (.aload_n 0, 1) := by decide +kernel
theorem dX1_tellHead_77 : decode cX1_tellHead 77 = .ok (.getfield 22, 3) := by decide +kernel
theorem dX1_tellHead_80 : decode cX1_tellHead 80 = .ok (.iload_n 1, 1) := by decide +kernel
theorem dX1_tellHead_81 : decode cX1_tellHead 81 = .ok (.baload, 1) := by decide +kernel
theorem dX1_tellHead_82 : decode cX1_tellHead 82 = .ok (.ifCond .eq 7, 3) := by decide +kernel
theorem dX1_tellHead_85 : decode cX1_tellHead 85 = .ok (.iconst 1, 1) := by decide +kernel
theorem dX1_tellHead_86 : decode cX1_tellHead 86 = .ok (.goto 4, 3) := by decide +kernel
theorem dX1_tellHead_89 : decode cX1_tellHead 89 = .ok (.iconst 0, 1) := by decide +kernel
theorem dX1_tellHead_90 : decode cX1_tellHead 90 = .ok (.ireturn, 1) := by decide +kernel
theorem dX1_tellHead_91 : decode cX1_tellHead 91 = .ok (.aload_n 0, 1) := by decide +kernel
theorem dX1_tellHead_92 : decode cX1_tellHead 92 = .ok (.aload_n 0, 1) := by decide +kernel
theorem dX1_tellHead_93 : decode cX1_tellHead 93 = .ok (.getfield 38, 3) := by decide +kernel
theorem dX1_tellHead_96 : decode cX1_tellHead 96 = .ok (.iload_n 1, 1) := by decide +kernel
theorem dX1_tellHead_97 : decode cX1_tellHead 97 = .ok (.invokevirtual 157, 3) := by decide +kernel
theorem dX1_tellHead_100 : decode cX1_tellHead 100 = .ok (.ireturn, 1) := by decide +kernel
theorem dX1_tellHead_101 : decode cX1_tellHead 101 = .ok (.aload_n 0, 1) := by decide +kernel
theorem dX1_tellHead_102 : decode cX1_tellHead 102 = .ok (.aload_n 0, 1) := by decide +kernel
theorem dX1_tellHead_103 : decode cX1_tellHead 103 = .ok (.getfield 35, 3) := by decide +kernel
theorem dX1_tellHead_106 : decode cX1_tellHead 106 = .ok (.iload_n 1, 1) := by decide +kernel
theorem dX1_tellHead_107 : decode cX1_tellHead 107 = .ok (.invokevirtual 157, 3) := by decide +kernel
theorem dX1_tellHead_110 : decode cX1_tellHead 110 = .ok (.ireturn, 1) := by decide +kernel
theorem dX1_tellHead_111 : decode cX1_tellHead 111 = .ok (.aload_n 0, 1) := by decide +kernel
theorem dX1_tellHead_112 : decode cX1_tellHead 112 = .ok (.iload_n 1, 1) := by decide +kernel
theorem dX1_tellHead_113 : decode cX1_tellHead 113 = .ok (.invokevirtual 133, 3) := by decide +kernel
theorem dX1_tellHead_116 : decode cX1_tellHead 116 = .ok (.ireturn, 1) := by decide +kernel
theorem dX1_tellHead_117 : decode cX1_tellHead 117 = .ok (.aload_n 0, 1) := by decide +kernel
theorem dX1_tellHead_118 : decode cX1_tellHead 118 = .ok (.iload_n 1, 1) := by decide +kernel
theorem dX1_tellHead_119 : decode cX1_tellHead 119 = .ok (.invokevirtual 105, 3) := by decide +kernel
theorem dX1_tellHead_122 : decode cX1_tellHead 122 = .ok (.ireturn, 1) := by decide +kernel
theorem dX1_tellHead_123 : decode cX1_tellHead 123 = .ok (.aload_n 0, 1) := by decide +kernel
theorem dX1_tellHead_124 : decode cX1_tellHead 124 = .ok (.iload_n 1, 1) := by decide +kernel
theorem dX1_tellHead_125 : decode cX1_tellHead 125 = .ok (.iconst 1, 1) := by decide +kernel
theorem dX1_tellHead_126 : decode cX1_tellHead 126 = .ok (.invokevirtual 161, 3) := by decide +kernel
theorem dX1_tellHead_129 : decode cX1_tellHead 129 = .ok (.ireturn, 1) := by decide +kernel
theorem dX1_tellHead_130 : decode cX1_tellHead 130 = .ok (.aload_n 0, 1) := by decide +kernel
theorem dX1_tellHead_131 : decode cX1_tellHead 131 = .ok (.iload_n 1, 1) := by decide +kernel
theorem dX1_tellHead_132 : decode cX1_tellHead 132 = .ok (.iconst 2, 1) := by decide +kernel
theorem dX1_tellHead_133 : decode cX1_tellHead 133 = .ok (.invokevirtual 161, 3) := by decide +kernel
theorem dX1_tellHead_136 : decode cX1_tellHead 136 = .ok (.ireturn, 1) := by decide +kernel
theorem dX1_tellHead_137 : decode cX1_tellHead 137 = .ok (.bipush (-2), 2) := by decide +kernel
theorem dX1_tellHead_139 : decode cX1_tellHead 139 = .ok (.ireturn, 1) := by decide +kernel
set_option maxRecDepth 20000 in
theorem ggX1_tellWhole_X1_overHeads : GoodIn wsX1_tellWhole wsX1_overHeads := goodIn_r _ [12, 13, 14, 15, 11, 16, 17, 18, 19, 20, 21, 22, 23, 24, 25, 26, 27, 28, 29, 30, 31, 32, 33, 34, 35, 36, 37, 38, 39, 1, 40, 41, 42, 43, 44, 45, 46, 47, 48, 49, 50, 51, 52, 53, 54, 55, 56, 57, 58, 59, 60, 61, 62, 63, 64, 65, 66, 67, 82, 83, 84, 85, 86, 87, 88, 89, 90, 91, 92, 93, 94, 95, 96] (by decide +kernel) (by decide +kernel)
set_option maxRecDepth 20000 in
theorem gX1_tellWhole_X1_overHeads : GoodIn wsX1_tellWhole (wsV RX1 164 RX1 yX1_overHeads wsX1_overHeads) := goodIn_app (goodIn_of _ (by decide +kernel)) ggX1_tellWhole_X1_overHeads
set_option maxRecDepth 20000 in
theorem ggX1_tellWhole_X1_longWayCount : GoodIn wsX1_tellWhole wsX1_longWayCount := goodIn_r _ [71, 72, 73, 74, 11, 75, 18, 76, 31, 77, 33, 34, 30, 32, 78, 79, 80, 81, 21, 48, 49, 50, 51, 82, 83, 84, 85, 86, 87, 88, 89, 90, 91, 92, 93, 94, 95, 96] (by decide +kernel) (by decide +kernel)
set_option maxRecDepth 20000 in
theorem gX1_tellWhole_X1_longWayCount : GoodIn wsX1_tellWhole (wsV RX1 167 RX1 yX1_longWayCount wsX1_longWayCount) := goodIn_app (goodIn_of _ (by decide +kernel)) ggX1_tellWhole_X1_longWayCount
set_option maxRecDepth 20000 in
theorem ggX1_tellWhole_X3_placeOf : GoodIn wsX1_tellWhole wsX3_placeOf := goodIn_r _ [34] (by decide +kernel) (by decide +kernel)
set_option maxRecDepth 20000 in
theorem gX1_tellWhole_X3_placeOf_n76 : GoodIn wsX1_tellWhole (wsX3_placeOf) := ggX1_tellWhole_X3_placeOf
set_option maxRecDepth 20000 in
theorem ggX1_tellWhole_X3_headOf : GoodIn wsX1_tellWhole wsX3_headOf := goodIn_r _ [32] (by decide +kernel) (by decide +kernel)
set_option maxRecDepth 20000 in
theorem gX1_tellWhole_X3_headOf_n80 : GoodIn wsX1_tellWhole (wsX3_headOf) := ggX1_tellWhole_X3_headOf
theorem dX1_tellWhole_0 : decode cX1_tellWhole 0 = .ok (.iload_n 1, 1) := by decide +kernel
theorem dX1_tellWhole_1 : decode cX1_tellWhole 1 = .ok (.tableswitch 136 0 11 #[63, 68, 77, 84, 89, 95, 103, 111, 116, 121, 126, 131], 63) := by decide +kernel
theorem dX1_tellWhole_64 : decode cX1_tellWhole 64 = .ok (.aload_n 0, 1) := by decide +kernel
theorem dX1_tellWhole_65 : decode cX1_tellWhole 65 = .ok (.getfield 9, 3) := by decide +kernel
theorem dX1_tellWhole_68 : decode cX1_tellWhole 68 = .ok (.ireturn, 1) := by decide +kernel
theorem dX1_tellWhole_69 : decode cX1_tellWhole 69 = .ok (.bipush 64, 2) := by decide +kernel
theorem dX1_tellWhole_71 : decode cX1_tellWhole 71 = .ok (.aload_n 0, 1) := by decide +kernel
theorem dX1_tellWhole_72 : decode cX1_tellWhole 72 = .ok (.iconst 1, 1) := by decide +kernel
theorem dX1_tellWhole_73 : decode cX1_tellWhole 73 = .ok (.invokevirtual 164, 3) := by decide +kernel
theorem dX1_tellWhole_76 : decode cX1_tellWhole 76 = .ok (.isub, 1) := by decide +kernel
theorem dX1_tellWhole_77 : decode cX1_tellWhole 77 = .ok (.ireturn, 1) := by decide +kernel
theorem dX1_tellWhole_78 : decode cX1_tellWhole 78 = .ok (.aload_n 0, 1) := by decide +kernel
theorem dX1_tellWhole_79 : decode cX1_tellWhole 79 = .ok (.bipush 6, 2) := by decide +kernel
theorem dX1_tellWhole_81 : decode cX1_tellWhole 81 = .ok (.invokevirtual 164, 3) := by decide +kernel
theorem dX1_tellWhole_84 : decode cX1_tellWhole 84 = .ok (.ireturn, 1) := by decide +kernel
theorem dX1_tellWhole_85 : decode cX1_tellWhole 85 = .ok (.aload_n 0, 1) := by decide +kernel
theorem dX1_tellWhole_86 : decode cX1_tellWhole 86 = .ok (.invokevirtual 167, 3) := by decide +kernel
theorem dX1_tellWhole_89 : decode cX1_tellWhole 89 = .ok (.ireturn, 1) := by decide +kernel
theorem dX1_tellWhole_90 : decode cX1_tellWhole 90 = .ok (.aload_n 0, 1) := by decide +kernel
theorem dX1_tellWhole_91 : decode cX1_tellWhole 91 = .ok (.iconst 2, 1) := by decide +kernel
theorem dX1_tellWhole_92 : decode cX1_tellWhole 92 = .ok (.invokevirtual 164, 3) := by decide +kernel
theorem dX1_tellWhole_95 : decode cX1_tellWhole 95 = .ok (.ireturn, 1) := by decide +kernel
theorem dX1_tellWhole_96 : decode cX1_tellWhole 96 = .ok (.aload_n 0, 1) := by decide +kernel
theorem dX1_tellWhole_97 : decode cX1_tellWhole 97 = .ok (.getfield 41, 3) := by decide +kernel
theorem dX1_tellWhole_100 : decode cX1_tellWhole 100 = .ok (.invokestatic 76, 3) := by decide +kernel
theorem dX1_tellWhole_103 : decode cX1_tellWhole 103 = .ok (.ireturn, 1) := by decide +kernel
theorem dX1_tellWhole_104 : decode cX1_tellWhole 104 = .ok (.aload_n 0, 1) := by decide +kernel
theorem dX1_tellWhole_105 : decode cX1_tellWhole 105 = .ok (.getfield 41, 3) := by decide +kernel
theorem dX1_tellWhole_108 : decode cX1_tellWhole 108 = .ok (.invokestatic 80, 3) := by decide +kernel
theorem dX1_tellWhole_111 : decode cX1_tellWhole 111 = .ok (.ireturn, 1) := by decide +kernel
theorem dX1_tellWhole_112 : decode cX1_tellWhole 112 = .ok (.aload_n 0, 1) := by decide +kernel
theorem dX1_tellWhole_113 : decode cX1_tellWhole 113 = .ok (.getfield 44, 3) := by decide +kernel
theorem dX1_tellWhole_116 : decode cX1_tellWhole 116 = .ok (.ireturn, 1) := by decide +kernel
theorem dX1_tellWhole_117 : decode cX1_tellWhole 117 = .ok (.aload_n 0, 1) := by decide +kernel
theorem dX1_tellWhole_118 : decode cX1_tellWhole 118 = .ok (.getfield 47, 3) := by decide +kernel
theorem dX1_tellWhole_121 : decode cX1_tellWhole 121 = .ok (.ireturn, 1) := by decide +kernel
theorem dX1_tellWhole_122 : decode cX1_tellWhole 122 = .ok (.aload_n 0, 1) := by decide +kernel
theorem dX1_tellWhole_123 : decode cX1_tellWhole 123 = .ok (.getfield 50, 3) := by decide +kernel
theorem dX1_tellWhole_126 : decode cX1_tellWhole 126 = .ok (.ireturn, 1) := by decide +kernel
theorem dX1_tellWhole_127 : decode cX1_tellWhole 127 = .ok (.aload_n 0, 1) := by decide +kernel
theorem dX1_tellWhole_128 : decode cX1_tellWhole 128 = .ok (.getfield 53, 3) := by decide +kernel
theorem dX1_tellWhole_131 : decode cX1_tellWhole 131 = .ok (.ireturn, 1) := by decide +kernel
theorem dX1_tellWhole_132 : decode cX1_tellWhole 132 = .ok (.aload_n 0, 1) := by decide +kernel
theorem dX1_tellWhole_133 : decode cX1_tellWhole 133 = .ok (.getfield 56, 3) := by decide +kernel
theorem dX1_tellWhole_136 : decode cX1_tellWhole 136 = .ok (.ireturn, 1) := by decide +kernel
theorem dX1_tellWhole_137 : decode cX1_tellWhole 137 = .ok (.bipush (-2), 2) := by decide +kernel
theorem dX1_tellWhole_139 : decode cX1_tellWhole 139 = .ok (.ireturn, 1) := by decide +kernel
set_option maxRecDepth 20000 in
theorem ggX1_readsUntilChange_X1_isAddress : GoodIn wsX1_readsUntilChange wsX1_isAddress := goodIn_r _ [9, 10, 11, 12, 13, 14, 15, 16, 17, 44, 45, 46, 47, 48, 49, 50, 51, 52, 53, 54, 55, 56, 57, 58] (by decide +kernel) (by decide +kernel)
set_option maxRecDepth 20000 in
theorem gX1_readsUntilChange_X1_isAddress : GoodIn wsX1_readsUntilChange (wsV RX1 69 RX1 yX1_isAddress wsX1_isAddress) := goodIn_app (goodIn_of _ (by decide +kernel)) ggX1_readsUntilChange_X1_isAddress
set_option maxRecDepth 20000 in
theorem ggX1_readsUntilChange_X1_isLost : GoodIn wsX1_readsUntilChange wsX1_isLost := goodIn_r _ [21, 1, 44, 45, 46, 47, 48, 49, 50, 51, 52, 53, 54, 55, 56, 57, 58] (by decide +kernel) (by decide +kernel)
set_option maxRecDepth 20000 in
theorem gX1_readsUntilChange_X1_isLost : GoodIn wsX1_readsUntilChange (wsV RX1 83 RX1 yX1_isLost wsX1_isLost) := goodIn_app (goodIn_of _ (by decide +kernel)) ggX1_readsUntilChange_X1_isLost
set_option maxRecDepth 20000 in
theorem ggX1_readsUntilChange_X1_lendableTo : GoodIn wsX1_readsUntilChange wsX1_lendableTo := goodIn_r _ [25, 16, 12, 17, 26, 27, 28, 8, 29, 30, 31, 32, 33, 10, 34, 35, 14, 15, 36, 37, 38, 39, 3, 2, 40, 41, 42, 43, 44, 45, 46, 47, 48, 49, 50, 51, 52, 53, 54, 55, 56, 57, 58] (by decide +kernel) (by decide +kernel)
set_option maxRecDepth 20000 in
theorem gX1_readsUntilChange_X1_lendableTo : GoodIn wsX1_readsUntilChange (wsV RX1 118 RX1 yX1_lendableTo wsX1_lendableTo) := goodIn_app (goodIn_of _ (by decide +kernel)) ggX1_readsUntilChange_X1_lendableTo
set_option maxRecDepth 20000 in
theorem ggX1_readsUntilChange_X3_headOf : GoodIn wsX1_readsUntilChange wsX3_headOf := goodIn_r _ [17] (by decide +kernel) (by decide +kernel)
set_option maxRecDepth 20000 in
theorem gX1_readsUntilChange_X3_headOf_n80 : GoodIn wsX1_readsUntilChange (wsX3_headOf) := ggX1_readsUntilChange_X3_headOf
theorem dX1_readsUntilChange_0 : decode cX1_readsUntilChange 0 = .ok (.aload_n 0, 1) := by decide +kernel
theorem dX1_readsUntilChange_1 : decode cX1_readsUntilChange 1 = .ok (.iload_n 1, 1) := by decide +kernel
theorem dX1_readsUntilChange_2 : decode cX1_readsUntilChange 2 = .ok (.invokevirtual 69, 3) := by decide +kernel
theorem dX1_readsUntilChange_5 : decode cX1_readsUntilChange 5 = .ok (.ifCond .ne 5, 3) := by decide +kernel
theorem dX1_readsUntilChange_8 : decode cX1_readsUntilChange 8 = .ok (.iconst (-1), 1) := by decide +kernel
theorem dX1_readsUntilChange_9 : decode cX1_readsUntilChange 9 = .ok (.ireturn, 1) := by decide +kernel
theorem dX1_readsUntilChange_10 : decode cX1_readsUntilChange 10 = .ok (.aload_n 0, 1) := by decide +kernel
theorem dX1_readsUntilChange_11 : decode cX1_readsUntilChange 11 = .ok (.iload_n 1, 1) := by decide +kernel
theorem dX1_readsUntilChange_12 : decode cX1_readsUntilChange 12 = .ok (.invokevirtual 83, 3) := by decide +kernel
theorem dX1_readsUntilChange_15 : decode cX1_readsUntilChange 15 = .ok (.ifCond .eq 6, 3) := by decide +kernel
theorem dX1_readsUntilChange_18 : decode cX1_readsUntilChange 18 = .ok (.bipush (-4), 2) := by decide +kernel
theorem dX1_readsUntilChange_20 : decode cX1_readsUntilChange 20 = .ok (.ireturn, 1) := by decide +kernel
theorem dX1_readsUntilChange_21 : decode cX1_readsUntilChange 21 = .ok (.aload_n 0, 1) := by decide +kernel
theorem dX1_readsUntilChange_22 : decode cX1_readsUntilChange 22 = .ok (.getfield 35, 3) := by decide +kernel
theorem dX1_readsUntilChange_25 : decode cX1_readsUntilChange 25 = .ok (.iload_n 1, 1) := by decide +kernel
theorem dX1_readsUntilChange_26 : decode cX1_readsUntilChange 26 = .ok (.iaload, 1) := by decide +kernel
theorem dX1_readsUntilChange_27 : decode cX1_readsUntilChange 27 = .ok (.istore_n 2, 1) := by decide +kernel
theorem dX1_readsUntilChange_28 : decode cX1_readsUntilChange 28 = .ok (.aload_n 0, 1) := by decide +kernel
theorem dX1_readsUntilChange_29 : decode cX1_readsUntilChange 29 = .ok (.iload_n 1, 1) := by decide +kernel
theorem dX1_readsUntilChange_30 : decode cX1_readsUntilChange 30 = .ok (.invokevirtual 118, 3) := by decide +kernel
theorem dX1_readsUntilChange_33 : decode cX1_readsUntilChange 33 = .ok (.bipush (-5), 2) := by decide +kernel
theorem dX1_readsUntilChange_35 : decode cX1_readsUntilChange 35 = .ok (.if_icmp .eq 10, 3) := by decide +kernel
theorem dX1_readsUntilChange_38 : decode cX1_readsUntilChange 38 = .ok (.aload_n 0, 1) := by decide +kernel
theorem dX1_readsUntilChange_39 : decode cX1_readsUntilChange 39 = .ok (.getfield 9, 3) := by decide +kernel
theorem dX1_readsUntilChange_42 : decode cX1_readsUntilChange 42 = .ok (.goto 9, 3) := by decide +kernel
theorem dX1_readsUntilChange_45 : decode cX1_readsUntilChange 45 = .ok (.iconst 2, 1) := by decide +kernel
theorem dX1_readsUntilChange_46 : decode cX1_readsUntilChange 46 = .ok (.aload_n 0, 1) := by decide +kernel
theorem dX1_readsUntilChange_47 : decode cX1_readsUntilChange 47 = .ok (.getfield 9, 3) := by decide +kernel
theorem dX1_readsUntilChange_50 : decode cX1_readsUntilChange 50 = .ok (.imul, 1) := by decide +kernel
theorem dX1_readsUntilChange_51 : decode cX1_readsUntilChange 51 = .ok (.istore_n 3, 1) := by decide +kernel
theorem dX1_readsUntilChange_52 : decode cX1_readsUntilChange 52 = .ok (.aload_n 0, 1) := by decide +kernel
theorem dX1_readsUntilChange_53 : decode cX1_readsUntilChange 53 = .ok (.getfield 26, 3) := by decide +kernel
theorem dX1_readsUntilChange_56 : decode cX1_readsUntilChange 56 = .ok (.iload_n 2, 1) := by decide +kernel
theorem dX1_readsUntilChange_57 : decode cX1_readsUntilChange 57 = .ok (.iaload, 1) := by decide +kernel
theorem dX1_readsUntilChange_58 : decode cX1_readsUntilChange 58 = .ok (.istore 4, 2) := by decide +kernel
theorem dX1_readsUntilChange_60 : decode cX1_readsUntilChange 60 = .ok (.iconst 1, 1) := by decide +kernel
theorem dX1_readsUntilChange_61 : decode cX1_readsUntilChange 61 = .ok (.istore 5, 2) := by decide +kernel
theorem dX1_readsUntilChange_63 : decode cX1_readsUntilChange 63 = .ok (.iload 5, 2) := by decide +kernel
theorem dX1_readsUntilChange_65 : decode cX1_readsUntilChange 65 = .ok (.sipush 2000, 3) := by decide +kernel
theorem dX1_readsUntilChange_68 : decode cX1_readsUntilChange 68 = .ok (.if_icmp .gt 32, 3) := by decide +kernel
theorem dX1_readsUntilChange_71 : decode cX1_readsUntilChange 71 = .ok (.iload 4, 2) := by decide +kernel
theorem dX1_readsUntilChange_73 : decode cX1_readsUntilChange 73 = .ok (.aload_n 0, 1) := by decide +kernel
theorem dX1_readsUntilChange_74 : decode cX1_readsUntilChange 74 = .ok (.getfield 15, 3) := by decide +kernel
theorem dX1_readsUntilChange_77 : decode cX1_readsUntilChange 77 = .ok (.iload_n 2, 1) := by decide +kernel
theorem dX1_readsUntilChange_78 : decode cX1_readsUntilChange 78 = .ok (.invokestatic 80, 3) := by decide +kernel
theorem dX1_readsUntilChange_81 : decode cX1_readsUntilChange 81 = .ok (.iaload, 1) := by decide +kernel
theorem dX1_readsUntilChange_82 : decode cX1_readsUntilChange 82 = .ok (.iadd, 1) := by decide +kernel
theorem dX1_readsUntilChange_83 : decode cX1_readsUntilChange 83 = .ok (.istore 4, 2) := by decide +kernel
theorem dX1_readsUntilChange_85 : decode cX1_readsUntilChange 85 = .ok (.iload 4, 2) := by decide +kernel
theorem dX1_readsUntilChange_87 : decode cX1_readsUntilChange 87 = .ok (.iload_n 3, 1) := by decide +kernel
theorem dX1_readsUntilChange_88 : decode cX1_readsUntilChange 88 = .ok (.if_icmp .lt 6, 3) := by decide +kernel
theorem dX1_readsUntilChange_91 : decode cX1_readsUntilChange 91 = .ok (.iload 5, 2) := by decide +kernel
theorem dX1_readsUntilChange_93 : decode cX1_readsUntilChange 93 = .ok (.ireturn, 1) := by decide +kernel
theorem dX1_readsUntilChange_94 : decode cX1_readsUntilChange 94 = .ok (.iinc 5 1, 3) := by decide +kernel
theorem dX1_readsUntilChange_97 : decode cX1_readsUntilChange 97 = .ok (.goto (-34), 3) := by decide +kernel
theorem dX1_readsUntilChange_100 : decode cX1_readsUntilChange 100 = .ok (.bipush (-5), 2) := by decide +kernel
theorem dX1_readsUntilChange_102 : decode cX1_readsUntilChange 102 = .ok (.ireturn, 1) := by decide +kernel
set_option maxRecDepth 20000 in
theorem ggX1_addressOfRank_X1_hasRank : GoodIn wsX1_addressOfRank wsX1_hasRank := goodIn_r _ [5, 6, 7, 8, 4, 9, 10, 11, 12, 13, 14, 15, 16, 17, 18, 19, 20, 21, 22, 28, 29, 30, 31, 32, 33, 34, 35, 36, 37, 38, 39, 40, 41, 42] (by decide +kernel) (by decide +kernel)
set_option maxRecDepth 20000 in
theorem gX1_addressOfRank_X1_hasRank : GoodIn wsX1_addressOfRank (wsV RX1 171 RX1 yX1_hasRank wsX1_hasRank) := goodIn_app (goodIn_of _ (by decide +kernel)) ggX1_addressOfRank_X1_hasRank
set_option maxRecDepth 20000 in
theorem ggX1_addressOfRank_X1_rankOf : GoodIn wsX1_addressOfRank wsX1_rankOf := goodIn_r _ [26, 27, 22, 1, 2, 3, 4, 5, 6, 7, 8, 9, 10, 11, 12, 13, 14, 15, 16, 17, 18, 19, 20, 21, 28, 29, 30, 31, 32, 33, 34, 35, 36, 37, 38, 39, 40, 41, 42] (by decide +kernel) (by decide +kernel)
set_option maxRecDepth 20000 in
theorem gX1_addressOfRank_X1_rankOf : GoodIn wsX1_addressOfRank (wsV RX1 174 RX1 yX1_rankOf wsX1_rankOf) := goodIn_app (goodIn_of _ (by decide +kernel)) ggX1_addressOfRank_X1_rankOf
theorem dX1_addressOfRank_0 : decode cX1_addressOfRank 0 = .ok (.iconst 0, 1) := by decide +kernel
theorem dX1_addressOfRank_1 : decode cX1_addressOfRank 1 = .ok (.istore_n 2, 1) := by decide +kernel
theorem dX1_addressOfRank_2 : decode cX1_addressOfRank 2 = .ok (.iload_n 2, 1) := by decide +kernel
theorem dX1_addressOfRank_3 : decode cX1_addressOfRank 3 = .ok (.bipush 64, 2) := by decide +kernel
theorem dX1_addressOfRank_5 : decode cX1_addressOfRank 5 = .ok (.if_icmp .ge 28, 3) := by decide +kernel
theorem dX1_addressOfRank_8 : decode cX1_addressOfRank 8 = .ok (.aload_n 0, 1) := by decide +kernel
theorem dX1_addressOfRank_9 : decode cX1_addressOfRank 9 = .ok (.iload_n 2, 1) := by decide +kernel
theorem dX1_addressOfRank_10 : decode cX1_addressOfRank 10 = .ok (.invokevirtual 171, 3) := by decide +kernel
theorem dX1_addressOfRank_13 : decode cX1_addressOfRank 13 = .ok (.ifCond .eq 14, 3) := by decide +kernel
theorem dX1_addressOfRank_16 : decode cX1_addressOfRank 16 = .ok (.aload_n 0, 1) := by decide +kernel
theorem dX1_addressOfRank_17 : decode cX1_addressOfRank 17 = .ok (.iload_n 2, 1) := by decide +kernel
theorem dX1_addressOfRank_18 : decode cX1_addressOfRank 18 = .ok (.invokevirtual 174, 3) := by decide +kernel
theorem dX1_addressOfRank_21 : decode cX1_addressOfRank 21 = .ok (.iload_n 1, 1) := by decide +kernel
theorem dX1_addressOfRank_22 : decode cX1_addressOfRank 22 = .ok (.if_icmp .ne 5, 3) := by decide +kernel
theorem dX1_addressOfRank_25 : decode cX1_addressOfRank 25 = .ok (.iload_n 2, 1) := by decide +kernel
theorem dX1_addressOfRank_26 : decode cX1_addressOfRank 26 = .ok (.ireturn, 1) := by decide +kernel
theorem dX1_addressOfRank_27 : decode cX1_addressOfRank 27 = .ok (.iinc 2 1, 3) := by decide +kernel
theorem dX1_addressOfRank_30 : decode cX1_addressOfRank 30 = .ok (.goto (-28), 3) := by decide +kernel
theorem dX1_addressOfRank_33 : decode cX1_addressOfRank 33 = .ok (.bipush (-5), 2) := by decide +kernel
theorem dX1_addressOfRank_35 : decode cX1_addressOfRank 35 = .ok (.ireturn, 1) := by decide +kernel
set_option maxRecDepth 20000 in
theorem ggX1_hasRank_X1_isAddress : GoodIn wsX1_hasRank wsX1_isAddress := goodIn_r _ [5, 6, 7, 8, 9, 10, 11, 12, 13, 19, 20, 21, 22, 23, 24, 25, 26, 27, 28, 29, 30, 31, 32, 33] (by decide +kernel) (by decide +kernel)
set_option maxRecDepth 20000 in
theorem gX1_hasRank_X1_isAddress : GoodIn wsX1_hasRank (wsV RX1 69 RX1 yX1_isAddress wsX1_isAddress) := goodIn_app (goodIn_of _ (by decide +kernel)) ggX1_hasRank_X1_isAddress
set_option maxRecDepth 20000 in
theorem ggX1_hasRank_X1_isLost : GoodIn wsX1_hasRank wsX1_isLost := goodIn_r _ [17, 18, 19, 20, 21, 22, 23, 24, 25, 26, 27, 28, 29, 30, 31, 32, 33] (by decide +kernel) (by decide +kernel)
set_option maxRecDepth 20000 in
theorem gX1_hasRank_X1_isLost : GoodIn wsX1_hasRank (wsV RX1 83 RX1 yX1_isLost wsX1_isLost) := goodIn_app (goodIn_of _ (by decide +kernel)) ggX1_hasRank_X1_isLost
theorem dX1_hasRank_0 : decode cX1_hasRank 0 = .ok (.aload_n 0, 1) := by decide +kernel
theorem dX1_hasRank_1 : decode cX1_hasRank 1 = .ok (.iload_n 1, 1) := by decide +kernel
theorem dX1_hasRank_2 : decode cX1_hasRank 2 = .ok (.invokevirtual 69, 3) := by decide +kernel
theorem dX1_hasRank_5 : decode cX1_hasRank 5 = .ok (.ifCond .eq 15, 3) := by decide +kernel
theorem dX1_hasRank_8 : decode cX1_hasRank 8 = .ok (.aload_n 0, 1) := by decide +kernel
theorem dX1_hasRank_9 : decode cX1_hasRank 9 = .ok (.iload_n 1, 1) := by decide +kernel
theorem dX1_hasRank_10 : decode cX1_hasRank 10 = .ok (.invokevirtual 83, 3) := by decide +kernel
theorem dX1_hasRank_13 : decode cX1_hasRank 13 = .ok (.ifCond .ne 7, 3) := by decide +kernel
theorem dX1_hasRank_16 : decode cX1_hasRank 16 = .ok (.iconst 1, 1) := by decide +kernel
theorem dX1_hasRank_17 : decode cX1_hasRank 17 = .ok (.goto 4, 3) := by decide +kernel
theorem dX1_hasRank_20 : decode cX1_hasRank 20 = .ok (.iconst 0, 1) := by decide +kernel
theorem dX1_hasRank_21 : decode cX1_hasRank 21 = .ok (.ireturn, 1) := by decide +kernel
set_option maxRecDepth 20000 in
theorem ggX1_rankOf_X1_hasRank : GoodIn wsX1_rankOf wsX1_hasRank := goodIn_r _ [7, 8, 9, 10, 6, 11, 12, 13, 14, 15, 16, 17, 18, 19, 20, 21, 22, 23, 2, 24, 25, 26, 27, 28, 29, 30, 31, 32, 33, 34, 35, 36, 37, 38] (by decide +kernel) (by decide +kernel)
set_option maxRecDepth 20000 in
theorem gX1_rankOf_X1_hasRank : GoodIn wsX1_rankOf (wsV RX1 171 RX1 yX1_hasRank wsX1_hasRank) := goodIn_app (goodIn_of _ (by decide +kernel)) ggX1_rankOf_X1_hasRank
theorem dX1_rankOf_0 : decode cX1_rankOf 0 = .ok (.aload_n 0, 1) := by decide +kernel
theorem dX1_rankOf_1 : decode cX1_rankOf 1 = .ok (.getfield 26, 3) := by decide +kernel
theorem dX1_rankOf_4 : decode cX1_rankOf 4 = .ok (.aload_n 0, 1) := by decide +kernel
theorem dX1_rankOf_5 : decode cX1_rankOf 5 = .ok (.getfield 35, 3) := by decide +kernel
theorem dX1_rankOf_8 : decode cX1_rankOf 8 = .ok (.iload_n 1, 1) := by decide +kernel
theorem dX1_rankOf_9 : decode cX1_rankOf 9 = .ok (.iaload, 1) := by decide +kernel
theorem dX1_rankOf_10 : decode cX1_rankOf 10 = .ok (.iaload, 1) := by decide +kernel
theorem dX1_rankOf_11 : decode cX1_rankOf 11 = .ok (.istore_n 2, 1) := by decide +kernel
theorem dX1_rankOf_12 : decode cX1_rankOf 12 = .ok (.iconst 0, 1) := by decide +kernel
theorem dX1_rankOf_13 : decode cX1_rankOf 13 = .ok (.istore_n 3, 1) := by decide +kernel
theorem dX1_rankOf_14 : decode cX1_rankOf 14 = .ok (.iconst 0, 1) := by decide +kernel
theorem dX1_rankOf_15 : decode cX1_rankOf 15 = .ok (.istore 4, 2) := by decide +kernel
theorem dX1_rankOf_17 : decode cX1_rankOf 17 = .ok (.iload 4, 2) := by decide +kernel
theorem dX1_rankOf_19 : decode cX1_rankOf 19 = .ok (.bipush 64, 2) := by decide +kernel
theorem dX1_rankOf_21 : decode cX1_rankOf 21 = .ok (.if_icmp .ge 53, 3) := by decide +kernel
theorem dX1_rankOf_24 : decode cX1_rankOf 24 = .ok (.aload_n 0, 1) := by decide +kernel
theorem dX1_rankOf_25 : decode cX1_rankOf 25 = .ok (.iload 4, 2) := by decide +kernel
theorem dX1_rankOf_27 : decode cX1_rankOf 27 = .ok (.invokevirtual 171, 3) := by decide +kernel
theorem dX1_rankOf_30 : decode cX1_rankOf 30 = .ok (.ifCond .eq 38, 3) := by decide +kernel
theorem dX1_rankOf_33 : decode cX1_rankOf 33 = .ok (.aload_n 0, 1) := by decide +kernel
theorem dX1_rankOf_34 : decode cX1_rankOf 34 = .ok (.getfield 26, 3) := by decide +kernel
theorem dX1_rankOf_37 : decode cX1_rankOf 37 = .ok (.aload_n 0, 1) := by decide +kernel
theorem dX1_rankOf_38 : decode cX1_rankOf 38 = .ok (.getfield 35, 3) := by decide +kernel
theorem dX1_rankOf_41 : decode cX1_rankOf 41 = .ok (.iload 4, 2) := by decide +kernel
theorem dX1_rankOf_43 : decode cX1_rankOf 43 = .ok (.iaload, 1) := by decide +kernel
theorem dX1_rankOf_44 : decode cX1_rankOf 44 = .ok (.iaload, 1) := by decide +kernel
theorem dX1_rankOf_45 : decode cX1_rankOf 45 = .ok (.istore 5, 2) := by decide +kernel
theorem dX1_rankOf_47 : decode cX1_rankOf 47 = .ok (.iload 5, 2) := by decide +kernel
theorem dX1_rankOf_49 : decode cX1_rankOf 49 = .ok (.iload_n 2, 1) := by decide +kernel
theorem dX1_rankOf_50 : decode cX1_rankOf 50 = .ok (.if_icmp .gt 15, 3) := by decide +kernel
theorem dX1_rankOf_53 : decode cX1_rankOf 53 = .ok (.iload 5, 2) := by decide +kernel
theorem dX1_rankOf_55 : decode cX1_rankOf 55 = .ok (.iload_n 2, 1) := by decide +kernel
theorem dX1_rankOf_56 : decode cX1_rankOf 56 = .ok (.if_icmp .ne 12, 3) := by decide +kernel
theorem dX1_rankOf_59 : decode cX1_rankOf 59 = .ok (.iload 4, 2) := by decide +kernel
theorem dX1_rankOf_61 : decode cX1_rankOf 61 = .ok (.iload_n 1, 1) := by decide +kernel
theorem dX1_rankOf_62 : decode cX1_rankOf 62 = .ok (.if_icmp .ge 6, 3) := by decide +kernel
theorem dX1_rankOf_65 : decode cX1_rankOf 65 = .ok (.iinc 3 1, 3) := by decide +kernel
theorem dX1_rankOf_68 : decode cX1_rankOf 68 = .ok (.iinc 4 1, 3) := by decide +kernel
theorem dX1_rankOf_71 : decode cX1_rankOf 71 = .ok (.goto (-54), 3) := by decide +kernel
theorem dX1_rankOf_74 : decode cX1_rankOf 74 = .ok (.iload_n 3, 1) := by decide +kernel
theorem dX1_rankOf_75 : decode cX1_rankOf 75 = .ok (.ireturn, 1) := by decide +kernel
set_option maxRecDepth 20000 in
theorem ggX1_leadingElsewhere_X3_headOf : GoodIn wsX1_leadingElsewhere wsX3_headOf := goodIn_r _ [3] (by decide +kernel) (by decide +kernel)
set_option maxRecDepth 20000 in
theorem gX1_leadingElsewhere_X3_headOf_n80 : GoodIn wsX1_leadingElsewhere (wsX3_headOf) := ggX1_leadingElsewhere_X3_headOf
theorem dX1_leadingElsewhere_0 : decode cX1_leadingElsewhere 0 = .ok (.iconst 0, 1) := by decide +kernel
theorem dX1_leadingElsewhere_1 : decode cX1_leadingElsewhere 1 = .ok (.istore_n 3, 1) := by decide +kernel
theorem dX1_leadingElsewhere_2 : decode cX1_leadingElsewhere 2 = .ok (.iconst 0, 1) := by decide +kernel
theorem dX1_leadingElsewhere_3 : decode cX1_leadingElsewhere 3 = .ok (.istore 4, 2) := by decide +kernel
theorem dX1_leadingElsewhere_5 : decode cX1_leadingElsewhere 5 = .ok (.iload 4, 2) := by decide +kernel
theorem dX1_leadingElsewhere_7 : decode cX1_leadingElsewhere 7 = .ok (.bipush 16, 2) := by decide +kernel
theorem dX1_leadingElsewhere_9 : decode cX1_leadingElsewhere 9 = .ok (.if_icmp .ge 39, 3) := by decide +kernel
theorem dX1_leadingElsewhere_12 : decode cX1_leadingElsewhere 12 = .ok (.aload_n 1, 1) := by decide +kernel
theorem dX1_leadingElsewhere_13 : decode cX1_leadingElsewhere 13 = .ok (.iload_n 2, 1) := by decide +kernel
theorem dX1_leadingElsewhere_14 : decode cX1_leadingElsewhere 14 = .ok (.bipush 16, 2) := by decide +kernel
theorem dX1_leadingElsewhere_16 : decode cX1_leadingElsewhere 16 = .ok (.imul, 1) := by decide +kernel
theorem dX1_leadingElsewhere_17 : decode cX1_leadingElsewhere 17 = .ok (.iload 4, 2) := by decide +kernel
theorem dX1_leadingElsewhere_19 : decode cX1_leadingElsewhere 19 = .ok (.iadd, 1) := by decide +kernel
theorem dX1_leadingElsewhere_20 : decode cX1_leadingElsewhere 20 = .ok (.iaload, 1) := by decide +kernel
theorem dX1_leadingElsewhere_21 : decode cX1_leadingElsewhere 21 = .ok (.istore 5, 2) := by decide +kernel
theorem dX1_leadingElsewhere_23 : decode cX1_leadingElsewhere 23 = .ok (.iload 5, 2) := by decide +kernel
theorem dX1_leadingElsewhere_25 : decode cX1_leadingElsewhere 25 = .ok (.bipush (-5), 2) := by decide +kernel
theorem dX1_leadingElsewhere_27 : decode cX1_leadingElsewhere 27 = .ok (.if_icmp .eq 15, 3) := by decide +kernel
theorem dX1_leadingElsewhere_30 : decode cX1_leadingElsewhere 30 = .ok (.iload 5, 2) := by decide +kernel
theorem dX1_leadingElsewhere_32 : decode cX1_leadingElsewhere 32 = .ok (.invokestatic 80, 3) := by decide +kernel
theorem dX1_leadingElsewhere_35 : decode cX1_leadingElsewhere 35 = .ok (.iload_n 2, 1) := by decide +kernel
theorem dX1_leadingElsewhere_36 : decode cX1_leadingElsewhere 36 = .ok (.if_icmp .eq 6, 3) := by decide +kernel
theorem dX1_leadingElsewhere_39 : decode cX1_leadingElsewhere 39 = .ok (.iinc 3 1, 3) := by decide +kernel
theorem dX1_leadingElsewhere_42 : decode cX1_leadingElsewhere 42 = .ok (.iinc 4 1, 3) := by decide +kernel
theorem dX1_leadingElsewhere_45 : decode cX1_leadingElsewhere 45 = .ok (.goto (-40), 3) := by decide +kernel
theorem dX1_leadingElsewhere_48 : decode cX1_leadingElsewhere 48 = .ok (.iload_n 3, 1) := by decide +kernel
theorem dX1_leadingElsewhere_49 : decode cX1_leadingElsewhere 49 = .ok (.ireturn, 1) := by decide +kernel
set_option maxRecDepth 20000 in
theorem ggX1_lostOf_X1_isLost : GoodIn wsX1_lostOf wsX1_isLost := goodIn_r _ [6, 7, 8, 9, 10, 11, 12, 13, 14, 15, 16, 17, 18, 19, 20, 21, 22] (by decide +kernel) (by decide +kernel)
set_option maxRecDepth 20000 in
theorem gX1_lostOf_X1_isLost : GoodIn wsX1_lostOf (wsV RX1 83 RX1 yX1_isLost wsX1_isLost) := goodIn_app (goodIn_of _ (by decide +kernel)) ggX1_lostOf_X1_isLost
theorem dX1_lostOf_0 : decode cX1_lostOf 0 = .ok (.iconst 0, 1) := by decide +kernel
theorem dX1_lostOf_1 : decode cX1_lostOf 1 = .ok (.istore_n 2, 1) := by decide +kernel
theorem dX1_lostOf_2 : decode cX1_lostOf 2 = .ok (.iconst 0, 1) := by decide +kernel
theorem dX1_lostOf_3 : decode cX1_lostOf 3 = .ok (.istore_n 3, 1) := by decide +kernel
theorem dX1_lostOf_4 : decode cX1_lostOf 4 = .ok (.iload_n 3, 1) := by decide +kernel
theorem dX1_lostOf_5 : decode cX1_lostOf 5 = .ok (.bipush 16, 2) := by decide +kernel
theorem dX1_lostOf_7 : decode cX1_lostOf 7 = .ok (.aload_n 0, 1) := by decide +kernel
theorem dX1_lostOf_8 : decode cX1_lostOf 8 = .ok (.getfield 19, 3) := by decide +kernel
theorem dX1_lostOf_11 : decode cX1_lostOf 11 = .ok (.iload_n 1, 1) := by decide +kernel
theorem dX1_lostOf_12 : decode cX1_lostOf 12 = .ok (.iaload, 1) := by decide +kernel
theorem dX1_lostOf_13 : decode cX1_lostOf 13 = .ok (.isub, 1) := by decide +kernel
theorem dX1_lostOf_14 : decode cX1_lostOf 14 = .ok (.if_icmp .ge 25, 3) := by decide +kernel
theorem dX1_lostOf_17 : decode cX1_lostOf 17 = .ok (.aload_n 0, 1) := by decide +kernel
theorem dX1_lostOf_18 : decode cX1_lostOf 18 = .ok (.iload_n 1, 1) := by decide +kernel
theorem dX1_lostOf_19 : decode cX1_lostOf 19 = .ok (.bipush 16, 2) := by decide +kernel
theorem dX1_lostOf_21 : decode cX1_lostOf 21 = .ok (.imul, 1) := by decide +kernel
theorem dX1_lostOf_22 : decode cX1_lostOf 22 = .ok (.iload_n 3, 1) := by decide +kernel
theorem dX1_lostOf_23 : decode cX1_lostOf 23 = .ok (.iadd, 1) := by decide +kernel
theorem dX1_lostOf_24 : decode cX1_lostOf 24 = .ok (.invokevirtual 83, 3) := by decide +kernel
theorem dX1_lostOf_27 : decode cX1_lostOf 27 = .ok (.ifCond .eq 6, 3) := by decide +kernel
theorem dX1_lostOf_30 : decode cX1_lostOf 30 = .ok (.iinc 2 1, 3) := by decide +kernel
theorem dX1_lostOf_33 : decode cX1_lostOf 33 = .ok (.iinc 3 1, 3) := by decide +kernel
theorem dX1_lostOf_36 : decode cX1_lostOf 36 = .ok (.goto (-32), 3) := by decide +kernel
theorem dX1_lostOf_39 : decode cX1_lostOf 39 = .ok (.iload_n 2, 1) := by decide +kernel
theorem dX1_lostOf_40 : decode cX1_lostOf 40 = .ok (.ireturn, 1) := by decide +kernel
theorem dX1_wearOf_0 : decode cX1_wearOf 0 = .ok (.iconst 0, 1) := by decide +kernel
theorem dX1_wearOf_1 : decode cX1_wearOf 1 = .ok (.istore_n 2, 1) := by decide +kernel
theorem dX1_wearOf_2 : decode cX1_wearOf 2 = .ok (.iconst 0, 1) := by decide +kernel
theorem dX1_wearOf_3 : decode cX1_wearOf 3 = .ok (.istore_n 3, 1) := by decide +kernel
theorem dX1_wearOf_4 : decode cX1_wearOf 4 = .ok (.iload_n 3, 1) := by decide +kernel
theorem dX1_wearOf_5 : decode cX1_wearOf 5 = .ok (.bipush 16, 2) := by decide +kernel
theorem dX1_wearOf_7 : decode cX1_wearOf 7 = .ok (.if_icmp .ge 23, 3) := by decide +kernel
theorem dX1_wearOf_10 : decode cX1_wearOf 10 = .ok (.iload_n 2, 1) := by decide +kernel
theorem dX1_wearOf_11 : decode cX1_wearOf 11 = .ok (.aload_n 0, 1) := by decide +kernel
theorem dX1_wearOf_12 : decode cX1_wearOf 12 = .ok (.getfield 26, 3) := by decide +kernel
theorem dX1_wearOf_15 : decode cX1_wearOf 15 = .ok (.iload_n 1, 1) := by decide +kernel
theorem dX1_wearOf_16 : decode cX1_wearOf 16 = .ok (.bipush 16, 2) := by decide +kernel
theorem dX1_wearOf_18 : decode cX1_wearOf 18 = .ok (.imul, 1) := by decide +kernel
theorem dX1_wearOf_19 : decode cX1_wearOf 19 = .ok (.iload_n 3, 1) := by decide +kernel
theorem dX1_wearOf_20 : decode cX1_wearOf 20 = .ok (.iadd, 1) := by decide +kernel
theorem dX1_wearOf_21 : decode cX1_wearOf 21 = .ok (.iaload, 1) := by decide +kernel
theorem dX1_wearOf_22 : decode cX1_wearOf 22 = .ok (.iadd, 1) := by decide +kernel
theorem dX1_wearOf_23 : decode cX1_wearOf 23 = .ok (.istore_n 2, 1) := by decide +kernel
theorem dX1_wearOf_24 : decode cX1_wearOf 24 = .ok (.iinc 3 1, 3) := by decide +kernel
theorem dX1_wearOf_27 : decode cX1_wearOf 27 = .ok (.goto (-23), 3) := by decide +kernel
theorem dX1_wearOf_30 : decode cX1_wearOf 30 = .ok (.iload_n 2, 1) := by decide +kernel
theorem dX1_wearOf_31 : decode cX1_wearOf 31 = .ok (.ireturn, 1) := by decide +kernel
set_option maxRecDepth 20000 in
theorem ggX1_gradedOf_X1_gradeOf : GoodIn wsX1_gradedOf wsX1_gradeOf := goodIn_r _ [5, 6, 7, 8, 4, 9, 10, 11, 12, 13, 14, 15, 16, 17, 18, 19, 20, 21, 22, 23, 24, 25, 26, 27, 28, 29, 30] (by decide +kernel) (by decide +kernel)
set_option maxRecDepth 20000 in
theorem gX1_gradedOf_X1_gradeOf : GoodIn wsX1_gradedOf (wsV RX1 154 RX1 yX1_gradeOf wsX1_gradeOf) := goodIn_app (goodIn_of _ (by decide +kernel)) ggX1_gradedOf_X1_gradeOf
theorem dX1_gradedOf_0 : decode cX1_gradedOf 0 = .ok (.iconst 0, 1) := by decide +kernel
theorem dX1_gradedOf_1 : decode cX1_gradedOf 1 = .ok (.istore_n 3, 1) := by decide +kernel
theorem dX1_gradedOf_2 : decode cX1_gradedOf 2 = .ok (.iconst 0, 1) := by decide +kernel
theorem dX1_gradedOf_3 : decode cX1_gradedOf 3 = .ok (.istore 4, 2) := by decide +kernel
theorem dX1_gradedOf_5 : decode cX1_gradedOf 5 = .ok (.iload 4, 2) := by decide +kernel
theorem dX1_gradedOf_7 : decode cX1_gradedOf 7 = .ok (.bipush 16, 2) := by decide +kernel
theorem dX1_gradedOf_9 : decode cX1_gradedOf 9 = .ok (.if_icmp .ge 27, 3) := by decide +kernel
theorem dX1_gradedOf_12 : decode cX1_gradedOf 12 = .ok (.aload_n 0, 1) := by decide +kernel
theorem dX1_gradedOf_13 : decode cX1_gradedOf 13 = .ok (.iload_n 1, 1) := by decide +kernel
theorem dX1_gradedOf_14 : decode cX1_gradedOf 14 = .ok (.bipush 16, 2) := by decide +kernel
theorem dX1_gradedOf_16 : decode cX1_gradedOf 16 = .ok (.imul, 1) := by decide +kernel
theorem dX1_gradedOf_17 : decode cX1_gradedOf 17 = .ok (.iload 4, 2) := by decide +kernel
theorem dX1_gradedOf_19 : decode cX1_gradedOf 19 = .ok (.iadd, 1) := by decide +kernel
theorem dX1_gradedOf_20 : decode cX1_gradedOf 20 = .ok (.invokevirtual 154, 3) := by decide +kernel
theorem dX1_gradedOf_23 : decode cX1_gradedOf 23 = .ok (.iload_n 2, 1) := by decide +kernel
theorem dX1_gradedOf_24 : decode cX1_gradedOf 24 = .ok (.if_icmp .ne 6, 3) := by decide +kernel
theorem dX1_gradedOf_27 : decode cX1_gradedOf 27 = .ok (.iinc 3 1, 3) := by decide +kernel
theorem dX1_gradedOf_30 : decode cX1_gradedOf 30 = .ok (.iinc 4 1, 3) := by decide +kernel
theorem dX1_gradedOf_33 : decode cX1_gradedOf 33 = .ok (.goto (-28), 3) := by decide +kernel
theorem dX1_gradedOf_36 : decode cX1_gradedOf 36 = .ok (.iload_n 3, 1) := by decide +kernel
theorem dX1_gradedOf_37 : decode cX1_gradedOf 37 = .ok (.ireturn, 1) := by decide +kernel
set_option maxRecDepth 20000 in
theorem ggX1_overHeads_X1_tellHead : GoodIn wsX1_overHeads wsX1_tellHead := goodIn_r _ [5, 6, 7, 8, 9, 10, 11, 12, 13, 4, 14, 15, 16, 17, 18, 19, 20, 21, 22, 23, 24, 25, 26, 27, 28, 29, 30, 31, 32, 33, 34, 35, 36, 37, 38, 39, 40, 41, 42, 43, 44, 45, 46, 47, 48, 49, 50, 51, 52, 53, 54, 55, 56, 57, 58, 59, 60, 61, 62, 63, 64, 65, 66, 67, 68, 69, 70, 71, 72] (by decide +kernel) (by decide +kernel)
set_option maxRecDepth 20000 in
theorem gX1_overHeads_X1_tellHead : GoodIn wsX1_overHeads (wsV RX1 177 RX1 yX1_tellHead wsX1_tellHead) := goodIn_app (goodIn_of _ (by decide +kernel)) ggX1_overHeads_X1_tellHead
theorem dX1_overHeads_0 : decode cX1_overHeads 0 = .ok (.iconst 0, 1) := by decide +kernel
theorem dX1_overHeads_1 : decode cX1_overHeads 1 = .ok (.istore_n 2, 1) := by decide +kernel
theorem dX1_overHeads_2 : decode cX1_overHeads 2 = .ok (.iconst 0, 1) := by decide +kernel
theorem dX1_overHeads_3 : decode cX1_overHeads 3 = .ok (.istore_n 3, 1) := by decide +kernel
theorem dX1_overHeads_4 : decode cX1_overHeads 4 = .ok (.iload_n 3, 1) := by decide +kernel
theorem dX1_overHeads_5 : decode cX1_overHeads 5 = .ok (.iconst 4, 1) := by decide +kernel
theorem dX1_overHeads_6 : decode cX1_overHeads 6 = .ok (.if_icmp .ge 18, 3) := by decide +kernel
theorem dX1_overHeads_9 : decode cX1_overHeads 9 = .ok (.iload_n 2, 1) := by decide +kernel
theorem dX1_overHeads_10 : decode cX1_overHeads 10 = .ok (.aload_n 0, 1) := by decide +kernel
theorem dX1_overHeads_11 : decode cX1_overHeads 11 = .ok (.iload_n 3, 1) := by decide +kernel
theorem dX1_overHeads_12 : decode cX1_overHeads 12 = .ok (.iload_n 1, 1) := by decide +kernel
theorem dX1_overHeads_13 : decode cX1_overHeads 13 = .ok (.invokevirtual 177, 3) := by decide +kernel
theorem dX1_overHeads_16 : decode cX1_overHeads 16 = .ok (.iadd, 1) := by decide +kernel
theorem dX1_overHeads_17 : decode cX1_overHeads 17 = .ok (.istore_n 2, 1) := by decide +kernel
theorem dX1_overHeads_18 : decode cX1_overHeads 18 = .ok (.iinc 3 1, 3) := by decide +kernel
theorem dX1_overHeads_21 : decode cX1_overHeads 21 = .ok (.goto (-17), 3) := by decide +kernel
theorem dX1_overHeads_24 : decode cX1_overHeads 24 = .ok (.iload_n 2, 1) := by decide +kernel
theorem dX1_overHeads_25 : decode cX1_overHeads 25 = .ok (.ireturn, 1) := by decide +kernel
set_option maxRecDepth 20000 in
theorem ggX1_longWayCount_X1_isAddress : GoodIn wsX1_longWayCount wsX1_isAddress := goodIn_r _ [5, 6, 7, 8, 9, 10, 11, 12, 13, 23, 24, 25, 26, 27, 28, 29, 30, 31, 32, 33, 34, 35, 36, 37] (by decide +kernel) (by decide +kernel)
set_option maxRecDepth 20000 in
theorem gX1_longWayCount_X1_isAddress : GoodIn wsX1_longWayCount (wsV RX1 69 RX1 yX1_isAddress wsX1_isAddress) := goodIn_app (goodIn_of _ (by decide +kernel)) ggX1_longWayCount_X1_isAddress
set_option maxRecDepth 20000 in
theorem ggX1_longWayCount_X1_isLongWay : GoodIn wsX1_longWayCount wsX1_isLongWay := goodIn_r _ [17, 18, 19, 20, 21, 4, 22, 23, 24, 25, 26, 27, 28, 29, 30, 31, 32, 33, 34, 35, 36, 37] (by decide +kernel) (by decide +kernel)
set_option maxRecDepth 20000 in
theorem gX1_longWayCount_X1_isLongWay : GoodIn wsX1_longWayCount (wsV RX1 148 RX1 yX1_isLongWay wsX1_isLongWay) := goodIn_app (goodIn_of _ (by decide +kernel)) ggX1_longWayCount_X1_isLongWay
theorem dX1_longWayCount_0 : decode cX1_longWayCount 0 = .ok (.iconst 0, 1) := by decide +kernel
theorem dX1_longWayCount_1 : decode cX1_longWayCount 1 = .ok (.istore_n 1, 1) := by decide +kernel
theorem dX1_longWayCount_2 : decode cX1_longWayCount 2 = .ok (.iconst 0, 1) := by decide +kernel
theorem dX1_longWayCount_3 : decode cX1_longWayCount 3 = .ok (.istore_n 2, 1) := by decide +kernel
theorem dX1_longWayCount_4 : decode cX1_longWayCount 4 = .ok (.iload_n 2, 1) := by decide +kernel
theorem dX1_longWayCount_5 : decode cX1_longWayCount 5 = .ok (.bipush 64, 2) := by decide +kernel
theorem dX1_longWayCount_7 : decode cX1_longWayCount 7 = .ok (.if_icmp .ge 28, 3) := by decide +kernel
theorem dX1_longWayCount_10 : decode cX1_longWayCount 10 = .ok (.aload_n 0, 1) := by decide +kernel
theorem dX1_longWayCount_11 : decode cX1_longWayCount 11 = .ok (.iload_n 2, 1) := by decide +kernel
theorem dX1_longWayCount_12 : decode cX1_longWayCount 12 = .ok (.invokevirtual 69, 3) := by decide +kernel
theorem dX1_longWayCount_15 : decode cX1_longWayCount 15 = .ok (.ifCond .eq 14, 3) := by decide +kernel
theorem dX1_longWayCount_18 : decode cX1_longWayCount 18 = .ok (.aload_n 0, 1) := by decide +kernel
theorem dX1_longWayCount_19 : decode cX1_longWayCount 19 = .ok (.iload_n 2, 1) := by decide +kernel
theorem dX1_longWayCount_20 : decode cX1_longWayCount 20 = .ok (.invokevirtual 148, 3) := by decide +kernel
theorem dX1_longWayCount_23 : decode cX1_longWayCount 23 = .ok (.ifCond .eq 6, 3) := by decide +kernel
theorem dX1_longWayCount_26 : decode cX1_longWayCount 26 = .ok (.iinc 1 1, 3) := by decide +kernel
theorem dX1_longWayCount_29 : decode cX1_longWayCount 29 = .ok (.iinc 2 1, 3) := by decide +kernel
theorem dX1_longWayCount_32 : decode cX1_longWayCount 32 = .ok (.goto (-28), 3) := by decide +kernel
theorem dX1_longWayCount_35 : decode cX1_longWayCount 35 = .ok (.iload_n 1, 1) := by decide +kernel
theorem dX1_longWayCount_36 : decode cX1_longWayCount 36 = .ok (.ireturn, 1) := by decide +kernel
set_option maxRecDepth 20000 in
theorem ggX2_init_X1_init : GoodIn wsX2_init wsX1_init := goodIn_r _ [12, 13, 2, 3, 14, 15, 16, 17, 18, 19, 20, 21, 22, 23, 24, 25, 26, 27, 28, 29, 30, 31, 32, 33, 9, 34, 35, 36, 37, 38, 39, 40, 41, 42, 43, 44, 45, 49, 50, 51, 52, 53, 54, 55, 56, 57, 58, 59, 60, 61, 62, 63] (by decide +kernel) (by decide +kernel)
set_option maxRecDepth 20000 in
theorem gX2_init_X1_init : GoodIn wsX2_init (wsX1_init) := ggX2_init_X1_init
theorem dX2_init_0 : decode cX2_init 0 = .ok (.aload_n 0, 1) := by decide +kernel
theorem dX2_init_1 : decode cX2_init 1 = .ok (.invokespecial 3, 3) := by decide +kernel
theorem dX2_init_4 : decode cX2_init 4 = .ok (.aload_n 0, 1) := by decide +kernel
theorem dX2_init_5 : decode cX2_init 5 = .ok (.iconst 4, 1) := by decide +kernel
theorem dX2_init_6 : decode cX2_init 6 = .ok (.anewarray 9, 3) := by decide +kernel
theorem dX2_init_9 : decode cX2_init 9 = .ok (.putfield 11, 3) := by decide +kernel
theorem dX2_init_12 : decode cX2_init 12 = .ok (.aload_n 0, 1) := by decide +kernel
theorem dX2_init_13 : decode cX2_init 13 = .ok (.iconst 0, 1) := by decide +kernel
theorem dX2_init_14 : decode cX2_init 14 = .ok (.putfield 17, 3) := by decide +kernel
theorem dX2_init_17 : decode cX2_init 17 = .ok (.aload_n 0, 1) := by decide +kernel
theorem dX2_init_18 : decode cX2_init 18 = .ok (.iconst 0, 1) := by decide +kernel
theorem dX2_init_19 : decode cX2_init 19 = .ok (.putfield 21, 3) := by decide +kernel
theorem dX2_init_22 : decode cX2_init 22 = .ok (.iconst 0, 1) := by decide +kernel
theorem dX2_init_23 : decode cX2_init 23 = .ok (.istore_n 1, 1) := by decide +kernel
theorem dX2_init_24 : decode cX2_init 24 = .ok (.iload_n 1, 1) := by decide +kernel
theorem dX2_init_25 : decode cX2_init 25 = .ok (.iconst 4, 1) := by decide +kernel
theorem dX2_init_26 : decode cX2_init 26 = .ok (.if_icmp .ge 22, 3) := by decide +kernel
theorem dX2_init_29 : decode cX2_init 29 = .ok (.aload_n 0, 1) := by decide +kernel
theorem dX2_init_30 : decode cX2_init 30 = .ok (.getfield 11, 3) := by decide +kernel
theorem dX2_init_33 : decode cX2_init 33 = .ok (.iload_n 1, 1) := by decide +kernel
theorem dX2_init_34 : decode cX2_init 34 = .ok (.new 9, 3) := by decide +kernel
theorem dX2_init_37 : decode cX2_init 37 = .ok (.dup, 1) := by decide +kernel
theorem dX2_init_38 : decode cX2_init 38 = .ok (.invokespecial 24, 3) := by decide +kernel
theorem dX2_init_41 : decode cX2_init 41 = .ok (.aastore, 1) := by decide +kernel
theorem dX2_init_42 : decode cX2_init 42 = .ok (.iinc 1 1, 3) := by decide +kernel
theorem dX2_init_45 : decode cX2_init 45 = .ok (.goto (-21), 3) := by decide +kernel
theorem dX2_init_48 : decode cX2_init 48 = .ok (.return_, 1) := by decide +kernel
theorem dX2_states_0 : decode cX2_states 0 = .ok (.aload_n 0, 1) := by decide +kernel
theorem dX2_states_1 : decode cX2_states 1 = .ok (.getfield 21, 3) := by decide +kernel
theorem dX2_states_4 : decode cX2_states 4 = .ok (.ireturn, 1) := by decide +kernel
set_option maxRecDepth 20000 in
theorem ggX2_record_X1_takeOver : GoodIn wsX2_record wsX1_takeOver := goodIn_r _ [8, 9, 10, 11, 12, 13, 14, 15, 16, 17, 18, 19, 20, 21, 22, 23, 24, 25, 26, 27, 31, 32, 33, 34, 35, 36, 37, 38, 39, 40, 41, 42, 43, 44, 45] (by decide +kernel) (by decide +kernel)
set_option maxRecDepth 20000 in
theorem gX2_record_X1_takeOver : GoodIn wsX2_record (wsV RX2 25 RX1 yX1_takeOver wsX1_takeOver) := goodIn_app (goodIn_of _ (by decide +kernel)) ggX2_record_X1_takeOver
theorem dX2_record_0 : decode cX2_record 0 = .ok (.aload_n 0, 1) := by decide +kernel
theorem dX2_record_1 : decode cX2_record 1 = .ok (.getfield 21, 3) := by decide +kernel
theorem dX2_record_4 : decode cX2_record 4 = .ok (.iconst 4, 1) := by decide +kernel
theorem dX2_record_5 : decode cX2_record 5 = .ok (.if_icmp .ne 25, 3) := by decide +kernel
theorem dX2_record_8 : decode cX2_record 8 = .ok (.aload_n 0, 1) := by decide +kernel
theorem dX2_record_9 : decode cX2_record 9 = .ok (.aload_n 0, 1) := by decide +kernel
theorem dX2_record_10 : decode cX2_record 10 = .ok (.getfield 17, 3) := by decide +kernel
theorem dX2_record_13 : decode cX2_record 13 = .ok (.iconst 1, 1) := by decide +kernel
theorem dX2_record_14 : decode cX2_record 14 = .ok (.iadd, 1) := by decide +kernel
theorem dX2_record_15 : decode cX2_record 15 = .ok (.iconst 4, 1) := by decide +kernel
theorem dX2_record_16 : decode cX2_record 16 = .ok (.irem, 1) := by decide +kernel
theorem dX2_record_17 : decode cX2_record 17 = .ok (.putfield 17, 3) := by decide +kernel
theorem dX2_record_20 : decode cX2_record 20 = .ok (.aload_n 0, 1) := by decide +kernel
theorem dX2_record_21 : decode cX2_record 21 = .ok (.dup, 1) := by decide +kernel
theorem dX2_record_22 : decode cX2_record 22 = .ok (.getfield 21, 3) := by decide +kernel
theorem dX2_record_25 : decode cX2_record 25 = .ok (.iconst 1, 1) := by decide +kernel
theorem dX2_record_26 : decode cX2_record 26 = .ok (.isub, 1) := by decide +kernel
theorem dX2_record_27 : decode cX2_record 27 = .ok (.putfield 21, 3) := by decide +kernel
theorem dX2_record_30 : decode cX2_record 30 = .ok (.aload_n 0, 1) := by decide +kernel
theorem dX2_record_31 : decode cX2_record 31 = .ok (.getfield 11, 3) := by decide +kernel
theorem dX2_record_34 : decode cX2_record 34 = .ok (.aload_n 0, 1) := by decide +kernel
theorem dX2_record_35 : decode cX2_record 35 = .ok (.getfield 17, 3) := by decide +kernel
theorem dX2_record_38 : decode cX2_record 38 = .ok (.aload_n 0, 1) := by decide +kernel
theorem dX2_record_39 : decode cX2_record 39 = .ok (.getfield 21, 3) := by decide +kernel
theorem dX2_record_42 : decode cX2_record 42 = .ok (.iadd, 1) := by decide +kernel
theorem dX2_record_43 : decode cX2_record 43 = .ok (.iconst 4, 1) := by decide +kernel
theorem dX2_record_44 : decode cX2_record 44 = .ok (.irem, 1) := by decide +kernel
theorem dX2_record_45 : decode cX2_record 45 = .ok (.aaload, 1) := by decide +kernel
theorem dX2_record_46 : decode cX2_record 46 = .ok (.aload_n 1, 1) := by decide +kernel
theorem dX2_record_47 : decode cX2_record 47 = .ok (.invokevirtual 25, 3) := by decide +kernel
theorem dX2_record_50 : decode cX2_record 50 = .ok (.aload_n 0, 1) := by decide +kernel
theorem dX2_record_51 : decode cX2_record 51 = .ok (.dup, 1) := by decide +kernel
theorem dX2_record_52 : decode cX2_record 52 = .ok (.getfield 21, 3) := by decide +kernel
theorem dX2_record_55 : decode cX2_record 55 = .ok (.iconst 1, 1) := by decide +kernel
theorem dX2_record_56 : decode cX2_record 56 = .ok (.iadd, 1) := by decide +kernel
theorem dX2_record_57 : decode cX2_record 57 = .ok (.putfield 21, 3) := by decide +kernel
theorem dX2_record_60 : decode cX2_record 60 = .ok (.return_, 1) := by decide +kernel
set_option maxRecDepth 20000 in
theorem ggX2_takeBack_X1_takeOver : GoodIn wsX2_takeBack wsX1_takeOver := goodIn_r _ [8, 9, 10, 11, 12, 13, 14, 15, 16, 17, 18, 19, 20, 21, 22, 23, 24, 25, 26, 27, 31, 32, 33, 34, 35, 36, 37, 38, 39, 40, 41, 42, 43, 44, 45] (by decide +kernel) (by decide +kernel)
set_option maxRecDepth 20000 in
theorem gX2_takeBack_X1_takeOver : GoodIn wsX2_takeBack (wsV RX2 25 RX1 yX1_takeOver wsX1_takeOver) := goodIn_app (goodIn_of _ (by decide +kernel)) ggX2_takeBack_X1_takeOver
theorem dX2_takeBack_0 : decode cX2_takeBack 0 = .ok (.aload_n 0, 1) := by decide +kernel
theorem dX2_takeBack_1 : decode cX2_takeBack 1 = .ok (.getfield 21, 3) := by decide +kernel
theorem dX2_takeBack_4 : decode cX2_takeBack 4 = .ok (.ifCond .le 33, 3) := by decide +kernel
theorem dX2_takeBack_7 : decode cX2_takeBack 7 = .ok (.aload_n 0, 1) := by decide +kernel
theorem dX2_takeBack_8 : decode cX2_takeBack 8 = .ok (.dup, 1) := by decide +kernel
theorem dX2_takeBack_9 : decode cX2_takeBack 9 = .ok (.getfield 21, 3) := by decide +kernel
theorem dX2_takeBack_12 : decode cX2_takeBack 12 = .ok (.iconst 1, 1) := by decide +kernel
theorem dX2_takeBack_13 : decode cX2_takeBack 13 = .ok (.isub, 1) := by decide +kernel
theorem dX2_takeBack_14 : decode cX2_takeBack 14 = .ok (.putfield 21, 3) := by decide +kernel
theorem dX2_takeBack_17 : decode cX2_takeBack 17 = .ok (.aload_n 1, 1) := by decide +kernel
theorem dX2_takeBack_18 : decode cX2_takeBack 18 = .ok (.aload_n 0, 1) := by decide +kernel
theorem dX2_takeBack_19 : decode cX2_takeBack 19 = .ok (.getfield 11, 3) := by decide +kernel
theorem dX2_takeBack_22 : decode cX2_takeBack 22 = .ok (.aload_n 0, 1) := by decide +kernel
theorem dX2_takeBack_23 : decode cX2_takeBack 23 = .ok (.getfield 17, 3) := by decide +kernel
theorem dX2_takeBack_26 : decode cX2_takeBack 26 = .ok (.aload_n 0, 1) := by decide +kernel
theorem dX2_takeBack_27 : decode cX2_takeBack 27 = .ok (.getfield 21, 3) := by decide +kernel
theorem dX2_takeBack_30 : decode cX2_takeBack 30 = .ok (.iadd, 1) := by decide +kernel
theorem dX2_takeBack_31 : decode cX2_takeBack 31 = .ok (.iconst 4, 1) := by decide +kernel
theorem dX2_takeBack_32 : decode cX2_takeBack 32 = .ok (.irem, 1) := by decide +kernel
theorem dX2_takeBack_33 : decode cX2_takeBack 33 = .ok (.aaload, 1) := by decide +kernel
theorem dX2_takeBack_34 : decode cX2_takeBack 34 = .ok (.invokevirtual 25, 3) := by decide +kernel
theorem dX2_takeBack_37 : decode cX2_takeBack 37 = .ok (.return_, 1) := by decide +kernel
set_option maxRecDepth 20000 in
theorem ggX3_init_X1_init : GoodIn wsX3_init wsX1_init := goodIn_r _ [21, 22, 2, 3, 23, 24, 25, 26, 27, 28, 29, 30, 31, 32, 33, 34, 35, 36, 37, 38, 39, 40, 41, 42, 6, 43, 44, 45, 46, 47, 48, 49, 50, 51, 52, 53, 54, 73, 74, 75, 76, 77, 78, 79, 80, 81, 82, 83, 84, 85, 86, 87] (by decide +kernel) (by decide +kernel)
set_option maxRecDepth 20000 in
theorem gX3_init_X1_init : GoodIn wsX3_init (wsX1_init) := ggX3_init_X1_init
set_option maxRecDepth 20000 in
theorem ggX3_init_X2_init : GoodIn wsX3_init wsX2_init := goodIn_r _ [57, 58, 2, 3, 59, 60, 61, 62, 5, 6, 63, 20, 21, 22, 23, 24, 25, 26, 27, 28, 29, 30, 31, 32, 33, 34, 35, 36, 37, 38, 39, 40, 41, 42, 43, 44, 45, 46, 47, 48, 49, 50, 51, 52, 53, 54, 94, 95, 96, 73, 74, 75, 76, 77, 78, 79, 80, 81, 82, 83, 84, 85, 86, 87] (by decide +kernel) (by decide +kernel)
set_option maxRecDepth 20000 in
theorem gX3_init_X2_init : GoodIn wsX3_init (wsX2_init) := ggX3_init_X2_init
set_option maxRecDepth 20000 in
theorem ggX3_init_X0_init : GoodIn wsX3_init wsX0_init := goodIn_r _ [65, 66, 2, 3, 24, 67, 68, 69, 70, 71, 72, 97, 98, 99, 100, 101, 102] (by decide +kernel) (by decide +kernel)
set_option maxRecDepth 20000 in
theorem gX3_init_X0_init_n31 : GoodIn wsX3_init (wsX0_init) := ggX3_init_X0_init
theorem dX3_init_0 : decode cX3_init 0 = .ok (.aload_n 0, 1) := by decide +kernel
theorem dX3_init_1 : decode cX3_init 1 = .ok (.invokespecial 3, 3) := by decide +kernel
theorem dX3_init_4 : decode cX3_init 4 = .ok (.aload_n 0, 1) := by decide +kernel
theorem dX3_init_5 : decode cX3_init 5 = .ok (.new 9, 3) := by decide +kernel
theorem dX3_init_8 : decode cX3_init 8 = .ok (.dup, 1) := by decide +kernel
theorem dX3_init_9 : decode cX3_init 9 = .ok (.invokespecial 11, 3) := by decide +kernel
theorem dX3_init_12 : decode cX3_init 12 = .ok (.putfield 12, 3) := by decide +kernel
theorem dX3_init_15 : decode cX3_init 15 = .ok (.aload_n 0, 1) := by decide +kernel
theorem dX3_init_16 : decode cX3_init 16 = .ok (.new 9, 3) := by decide +kernel
theorem dX3_init_19 : decode cX3_init 19 = .ok (.dup, 1) := by decide +kernel
theorem dX3_init_20 : decode cX3_init 20 = .ok (.invokespecial 11, 3) := by decide +kernel
theorem dX3_init_23 : decode cX3_init 23 = .ok (.putfield 16, 3) := by decide +kernel
theorem dX3_init_26 : decode cX3_init 26 = .ok (.aload_n 0, 1) := by decide +kernel
theorem dX3_init_27 : decode cX3_init 27 = .ok (.new 9, 3) := by decide +kernel
theorem dX3_init_30 : decode cX3_init 30 = .ok (.dup, 1) := by decide +kernel
theorem dX3_init_31 : decode cX3_init 31 = .ok (.invokespecial 11, 3) := by decide +kernel
theorem dX3_init_34 : decode cX3_init 34 = .ok (.putfield 19, 3) := by decide +kernel
theorem dX3_init_37 : decode cX3_init 37 = .ok (.aload_n 0, 1) := by decide +kernel
theorem dX3_init_38 : decode cX3_init 38 = .ok (.new 22, 3) := by decide +kernel
theorem dX3_init_41 : decode cX3_init 41 = .ok (.dup, 1) := by decide +kernel
theorem dX3_init_42 : decode cX3_init 42 = .ok (.invokespecial 24, 3) := by decide +kernel
theorem dX3_init_45 : decode cX3_init 45 = .ok (.putfield 25, 3) := by decide +kernel
theorem dX3_init_48 : decode cX3_init 48 = .ok (.aload_n 0, 1) := by decide +kernel
theorem dX3_init_49 : decode cX3_init 49 = .ok (.new 29, 3) := by decide +kernel
theorem dX3_init_52 : decode cX3_init 52 = .ok (.dup, 1) := by decide +kernel
theorem dX3_init_53 : decode cX3_init 53 = .ok (.invokespecial 31, 3) := by decide +kernel
theorem dX3_init_56 : decode cX3_init 56 = .ok (.putfield 32, 3) := by decide +kernel
theorem dX3_init_59 : decode cX3_init 59 = .ok (.aload_n 0, 1) := by decide +kernel
theorem dX3_init_60 : decode cX3_init 60 = .ok (.iconst 0, 1) := by decide +kernel
theorem dX3_init_61 : decode cX3_init 61 = .ok (.putfield 36, 3) := by decide +kernel
theorem dX3_init_64 : decode cX3_init 64 = .ok (.return_, 1) := by decide +kernel
set_option maxRecDepth 20000 in
theorem ggX3_setLimit_X3_startTrial : GoodIn wsX3_setLimit wsX3_startTrial := goodIn_r _ [6, 1, 7, 8, 9, 10, 11, 12, 13, 14, 15, 16, 17, 18, 19, 20, 21, 22, 23, 24, 25, 26, 27, 28, 29, 30, 31, 50, 51, 52, 53, 54, 55, 56, 57, 58, 59, 60, 61, 62, 63, 64, 65, 66, 67, 68, 69, 70] (by decide +kernel) (by decide +kernel)
set_option maxRecDepth 20000 in
theorem gX3_setLimit_X3_startTrial : GoodIn wsX3_setLimit (wsV RX3 40 RX3 yX3_startTrial wsX3_startTrial) := goodIn_app (goodIn_of _ (by decide +kernel)) ggX3_setLimit_X3_startTrial
set_option maxRecDepth 20000 in
theorem ggX3_setLimit_X1_changeLimit : GoodIn wsX3_setLimit wsX1_changeLimit := goodIn_r _ [35, 13, 56, 57, 58, 59, 60, 61, 62, 63, 64, 65, 66, 67, 68, 69, 70] (by decide +kernel) (by decide +kernel)
set_option maxRecDepth 20000 in
theorem gX3_setLimit_X1_changeLimit : GoodIn wsX3_setLimit (wsV RX3 43 RX1 yX1_changeLimit wsX1_changeLimit) := goodIn_app (goodIn_of _ (by decide +kernel)) ggX3_setLimit_X1_changeLimit
set_option maxRecDepth 20000 in
theorem ggX3_setLimit_X3_settle : GoodIn wsX3_setLimit wsX3_settle := goodIn_r _ [39, 40, 7, 1, 41, 42, 43, 44, 45, 46, 47, 48, 49, 9, 10, 11, 12, 13, 14, 15, 16, 17, 18, 19, 20, 21, 22, 23, 24, 25, 26, 27, 28, 29, 30, 31, 8, 50, 51, 52, 53, 54, 55, 71, 72, 73, 56, 57, 58, 59, 60, 61, 62, 63, 64, 65, 66, 67, 68, 69, 70] (by decide +kernel) (by decide +kernel)
set_option maxRecDepth 20000 in
theorem gX3_setLimit_X3_settle : GoodIn wsX3_setLimit (wsV RX3 47 RX3 yX3_settle wsX3_settle) := goodIn_app (goodIn_of _ (by decide +kernel)) ggX3_setLimit_X3_settle
theorem dX3_setLimit_0 : decode cX3_setLimit 0 = .ok (.aload_n 0, 1) := by decide +kernel
theorem dX3_setLimit_1 : decode cX3_setLimit 1 = .ok (.invokevirtual 40, 3) := by decide +kernel
theorem dX3_setLimit_4 : decode cX3_setLimit 4 = .ok (.aload_n 0, 1) := by decide +kernel
theorem dX3_setLimit_5 : decode cX3_setLimit 5 = .ok (.aload_n 0, 1) := by decide +kernel
theorem dX3_setLimit_6 : decode cX3_setLimit 6 = .ok (.getfield 16, 3) := by decide +kernel
theorem dX3_setLimit_9 : decode cX3_setLimit 9 = .ok (.iload_n 1, 1) := by decide +kernel
theorem dX3_setLimit_10 : decode cX3_setLimit 10 = .ok (.invokevirtual 43, 3) := by decide +kernel
theorem dX3_setLimit_13 : decode cX3_setLimit 13 = .ok (.invokevirtual 47, 3) := by decide +kernel
theorem dX3_setLimit_16 : decode cX3_setLimit 16 = .ok (.ireturn, 1) := by decide +kernel
set_option maxRecDepth 20000 in
theorem ggX3_setHead_X3_isHead : GoodIn wsX3_setHead wsX3_isHead := goodIn_r _ [5] (by decide +kernel) (by decide +kernel)
set_option maxRecDepth 20000 in
theorem gX3_setHead_X3_isHead : GoodIn wsX3_setHead (va_wsS RX3 50 yX3_isHead wsX3_isHead) := goodIn_app (goodIn_of _ (by decide +kernel)) ggX3_setHead_X3_isHead
set_option maxRecDepth 20000 in
theorem ggX3_setHead_X3_startTrial : GoodIn wsX3_setHead wsX3_startTrial := goodIn_r _ [9, 1, 10, 11, 12, 13, 14, 15, 16, 17, 18, 19, 20, 21, 22, 23, 24, 25, 26, 27, 28, 29, 30, 31, 32, 33, 34, 75, 76, 77, 78, 79, 80, 81, 82, 83, 84, 85, 86, 87, 88, 89, 90, 91, 92, 93, 94, 95] (by decide +kernel) (by decide +kernel)
set_option maxRecDepth 20000 in
theorem gX3_setHead_X3_startTrial : GoodIn wsX3_setHead (wsV RX3 40 RX3 yX3_startTrial wsX3_startTrial) := goodIn_app (goodIn_of _ (by decide +kernel)) ggX3_setHead_X3_startTrial
set_option maxRecDepth 20000 in
theorem ggX3_setHead_X1_changeAgeing : GoodIn wsX3_setHead wsX1_changeAgeing := goodIn_r _ [38, 17, 81, 82, 83, 84, 85, 86, 87, 88, 89, 90, 91, 92, 93, 94, 95] (by decide +kernel) (by decide +kernel)
set_option maxRecDepth 20000 in
theorem gX3_setHead_X1_changeAgeing : GoodIn wsX3_setHead (wsV RX3 54 RX1 yX1_changeAgeing wsX1_changeAgeing) := goodIn_app (goodIn_of _ (by decide +kernel)) ggX3_setHead_X1_changeAgeing
set_option maxRecDepth 20000 in
theorem ggX3_setHead_X1_changeSpares : GoodIn wsX3_setHead wsX1_changeSpares := goodIn_r _ [42, 23, 22, 43, 44, 45, 14, 46, 24, 47, 48, 49, 50, 27, 28, 51, 52, 53, 54, 55, 4, 56, 57, 58, 59, 60, 81, 82, 83, 84, 85, 86, 87, 88, 89, 90, 91, 92, 93, 94, 95] (by decide +kernel) (by decide +kernel)
set_option maxRecDepth 20000 in
theorem gX3_setHead_X1_changeSpares : GoodIn wsX3_setHead (wsV RX3 58 RX1 yX1_changeSpares wsX1_changeSpares) := goodIn_app (goodIn_of _ (by decide +kernel)) ggX3_setHead_X1_changeSpares
set_option maxRecDepth 20000 in
theorem ggX3_setHead_X3_settle : GoodIn wsX3_setHead wsX3_settle := goodIn_r _ [64, 65, 10, 1, 66, 67, 68, 69, 70, 71, 72, 73, 74, 12, 13, 14, 15, 16, 17, 18, 19, 20, 21, 22, 23, 24, 25, 26, 27, 28, 29, 30, 31, 32, 33, 34, 11, 75, 76, 77, 78, 79, 80, 96, 97, 98, 81, 82, 83, 84, 85, 86, 87, 88, 89, 90, 91, 92, 93, 94, 95] (by decide +kernel) (by decide +kernel)
set_option maxRecDepth 20000 in
theorem gX3_setHead_X3_settle : GoodIn wsX3_setHead (wsV RX3 47 RX3 yX3_settle wsX3_settle) := goodIn_app (goodIn_of _ (by decide +kernel)) ggX3_setHead_X3_settle
theorem dX3_setHead_0 : decode cX3_setHead 0 = .ok (.iload_n 1, 1) := by decide +kernel
theorem dX3_setHead_1 : decode cX3_setHead 1 = .ok (.invokestatic 50, 3) := by decide +kernel
theorem dX3_setHead_4 : decode cX3_setHead 4 = .ok (.ifCond .ne 5, 3) := by decide +kernel
theorem dX3_setHead_7 : decode cX3_setHead 7 = .ok (.iconst (-1), 1) := by decide +kernel
theorem dX3_setHead_8 : decode cX3_setHead 8 = .ok (.ireturn, 1) := by decide +kernel
theorem dX3_setHead_9 : decode cX3_setHead 9 = .ok (.aload_n 0, 1) := by decide +kernel
theorem dX3_setHead_10 : decode cX3_setHead 10 = .ok (.invokevirtual 40, 3) := by decide +kernel
theorem dX3_setHead_13 : decode cX3_setHead 13 = .ok (.aload_n 0, 1) := by decide +kernel
theorem dX3_setHead_14 : decode cX3_setHead 14 = .ok (.iload_n 2, 1) := by decide +kernel
theorem dX3_setHead_15 : decode cX3_setHead 15 = .ok (.ifCond .eq 15, 3) := by decide +kernel
theorem dX3_setHead_18 : decode cX3_setHead 18 = .ok (.aload_n 0, 1) := by decide +kernel
theorem dX3_setHead_19 : decode cX3_setHead 19 = .ok (.getfield 16, 3) := by decide +kernel
theorem dX3_setHead_22 : decode cX3_setHead 22 = .ok (.iload_n 1, 1) := by decide +kernel
theorem dX3_setHead_23 : decode cX3_setHead 23 = .ok (.iload_n 3, 1) := by decide +kernel
theorem dX3_setHead_24 : decode cX3_setHead 24 = .ok (.invokevirtual 54, 3) := by decide +kernel
theorem dX3_setHead_27 : decode cX3_setHead 27 = .ok (.goto 12, 3) := by decide +kernel
theorem dX3_setHead_30 : decode cX3_setHead 30 = .ok (.aload_n 0, 1) := by decide +kernel
theorem dX3_setHead_31 : decode cX3_setHead 31 = .ok (.getfield 16, 3) := by decide +kernel
theorem dX3_setHead_34 : decode cX3_setHead 34 = .ok (.iload_n 1, 1) := by decide +kernel
theorem dX3_setHead_35 : decode cX3_setHead 35 = .ok (.iload_n 3, 1) := by decide +kernel
theorem dX3_setHead_36 : decode cX3_setHead 36 = .ok (.invokevirtual 58, 3) := by decide +kernel
theorem dX3_setHead_39 : decode cX3_setHead 39 = .ok (.invokevirtual 47, 3) := by decide +kernel
theorem dX3_setHead_42 : decode cX3_setHead 42 = .ok (.ireturn, 1) := by decide +kernel
set_option maxRecDepth 20000 in
theorem ggX3_read_X3_startTrial : GoodIn wsX3_read wsX3_startTrial := goodIn_r _ [6, 1, 7, 8, 9, 10, 11, 12, 13, 14, 15, 16, 17, 18, 19, 20, 21, 22, 23, 24, 25, 26, 27, 28, 29, 30, 31, 132, 133, 134, 135, 136, 137, 138, 139, 140, 141, 142, 143, 144, 145, 146, 147, 148, 149, 150, 151, 152] (by decide +kernel) (by decide +kernel)
set_option maxRecDepth 20000 in
theorem gX3_read_X3_startTrial : GoodIn wsX3_read (wsV RX3 40 RX3 yX3_startTrial wsX3_startTrial) := goodIn_app (goodIn_of _ (by decide +kernel)) ggX3_read_X3_startTrial
set_option maxRecDepth 20000 in
theorem ggX3_read_X1_readAt : GoodIn wsX3_read wsX1_readAt := goodIn_r _ [35, 24, 30, 22, 36, 37, 38, 11, 39, 19, 40, 5, 41, 42, 43, 44, 45, 46, 47, 48, 49, 50, 51, 52, 53, 27, 26, 54, 55, 56, 57, 20, 58, 59, 60, 61, 62, 63, 64, 65, 66, 67, 68, 69, 21, 14, 70, 71, 72, 73, 28, 23, 74, 75, 76, 77, 13, 78, 79, 80, 81, 82, 83, 84, 85, 86, 87, 88, 89, 25, 90, 91, 92, 93, 94, 95, 96, 97, 98, 99, 100, 101, 102, 103, 104, 105, 106, 107, 108, 109, 110, 111, 112, 113, 114, 115, 116, 117, 29, 138, 139, 140, 141, 142, 143, 144, 145, 146, 147, 148, 149, 150, 151, 152] (by decide +kernel) (by decide +kernel)
set_option maxRecDepth 20000 in
theorem gX3_read_X1_readAt : GoodIn wsX3_read (wsV RX3 61 RX1 yX1_readAt wsX1_readAt) := goodIn_app (goodIn_of _ (by decide +kernel)) ggX3_read_X1_readAt
set_option maxRecDepth 20000 in
theorem ggX3_read_X3_settle : GoodIn wsX3_read wsX3_settle := goodIn_r _ [121, 122, 7, 1, 123, 124, 125, 126, 127, 128, 129, 130, 131, 9, 10, 11, 12, 13, 14, 15, 16, 17, 18, 19, 20, 21, 22, 23, 24, 25, 26, 27, 28, 29, 30, 31, 8, 132, 133, 134, 135, 136, 137, 153, 154, 155, 138, 139, 140, 141, 142, 143, 144, 145, 146, 147, 148, 149, 150, 151, 152] (by decide +kernel) (by decide +kernel)
set_option maxRecDepth 20000 in
theorem gX3_read_X3_settle : GoodIn wsX3_read (wsV RX3 47 RX3 yX3_settle wsX3_settle) := goodIn_app (goodIn_of _ (by decide +kernel)) ggX3_read_X3_settle
theorem dX3_read_0 : decode cX3_read 0 = .ok (.aload_n 0, 1) := by decide +kernel
theorem dX3_read_1 : decode cX3_read 1 = .ok (.invokevirtual 40, 3) := by decide +kernel
theorem dX3_read_4 : decode cX3_read 4 = .ok (.aload_n 0, 1) := by decide +kernel
theorem dX3_read_5 : decode cX3_read 5 = .ok (.aload_n 0, 1) := by decide +kernel
theorem dX3_read_6 : decode cX3_read 6 = .ok (.getfield 16, 3) := by decide +kernel
theorem dX3_read_9 : decode cX3_read 9 = .ok (.iload_n 1, 1) := by decide +kernel
theorem dX3_read_10 : decode cX3_read 10 = .ok (.invokevirtual 61, 3) := by decide +kernel
theorem dX3_read_13 : decode cX3_read 13 = .ok (.invokevirtual 47, 3) := by decide +kernel
theorem dX3_read_16 : decode cX3_read 16 = .ok (.ireturn, 1) := by decide +kernel
set_option maxRecDepth 20000 in
theorem ggX3_write_X3_startTrial : GoodIn wsX3_write wsX3_startTrial := goodIn_r _ [6, 1, 7, 8, 9, 10, 11, 12, 13, 14, 15, 16, 17, 18, 19, 20, 21, 22, 23, 24, 25, 26, 27, 28, 29, 30, 31, 128, 129, 130, 131, 132, 133, 134, 135, 136, 137, 138, 139, 140, 141, 142, 143, 144, 145, 146, 147, 148] (by decide +kernel) (by decide +kernel)
set_option maxRecDepth 20000 in
theorem gX3_write_X3_startTrial : GoodIn wsX3_write (wsV RX3 40 RX3 yX3_startTrial wsX3_startTrial) := goodIn_app (goodIn_of _ (by decide +kernel)) ggX3_write_X3_startTrial
set_option maxRecDepth 20000 in
theorem ggX3_write_X1_writeAt : GoodIn wsX3_write wsX1_writeAt := goodIn_r _ [35, 24, 22, 31, 36, 37, 38, 11, 39, 19, 40, 5, 41, 42, 43, 44, 45, 46, 47, 48, 49, 50, 51, 52, 53, 54, 55, 56, 57, 58, 59, 60, 61, 25, 20, 62, 63, 64, 65, 21, 13, 66, 67, 68, 69, 70, 71, 72, 73, 74, 75, 76, 77, 78, 79, 80, 81, 27, 26, 82, 83, 84, 85, 86, 87, 88, 89, 90, 91, 92, 93, 94, 95, 96, 97, 14, 98, 99, 100, 101, 28, 23, 102, 103, 104, 105, 106, 107, 108, 109, 110, 111, 112, 113, 29, 134, 135, 136, 137, 138, 139, 140, 141, 142, 143, 144, 145, 146, 147, 148] (by decide +kernel) (by decide +kernel)
set_option maxRecDepth 20000 in
theorem gX3_write_X1_writeAt : GoodIn wsX3_write (wsV RX3 64 RX1 yX1_writeAt wsX1_writeAt) := goodIn_app (goodIn_of _ (by decide +kernel)) ggX3_write_X1_writeAt
set_option maxRecDepth 20000 in
theorem ggX3_write_X3_settle : GoodIn wsX3_write wsX3_settle := goodIn_r _ [117, 118, 7, 1, 119, 120, 121, 122, 123, 124, 125, 126, 127, 9, 10, 11, 12, 13, 14, 15, 16, 17, 18, 19, 20, 21, 22, 23, 24, 25, 26, 27, 28, 29, 30, 31, 8, 128, 129, 130, 131, 132, 133, 149, 150, 151, 134, 135, 136, 137, 138, 139, 140, 141, 142, 143, 144, 145, 146, 147, 148] (by decide +kernel) (by decide +kernel)
set_option maxRecDepth 20000 in
theorem gX3_write_X3_settle : GoodIn wsX3_write (wsV RX3 47 RX3 yX3_settle wsX3_settle) := goodIn_app (goodIn_of _ (by decide +kernel)) ggX3_write_X3_settle
theorem dX3_write_0 : decode cX3_write 0 = .ok (.aload_n 0, 1) := by decide +kernel
theorem dX3_write_1 : decode cX3_write 1 = .ok (.invokevirtual 40, 3) := by decide +kernel
theorem dX3_write_4 : decode cX3_write 4 = .ok (.aload_n 0, 1) := by decide +kernel
theorem dX3_write_5 : decode cX3_write 5 = .ok (.aload_n 0, 1) := by decide +kernel
theorem dX3_write_6 : decode cX3_write 6 = .ok (.getfield 16, 3) := by decide +kernel
theorem dX3_write_9 : decode cX3_write 9 = .ok (.iload_n 1, 1) := by decide +kernel
theorem dX3_write_10 : decode cX3_write 10 = .ok (.iload_n 2, 1) := by decide +kernel
theorem dX3_write_11 : decode cX3_write 11 = .ok (.invokevirtual 64, 3) := by decide +kernel
theorem dX3_write_14 : decode cX3_write 14 = .ok (.invokevirtual 47, 3) := by decide +kernel
theorem dX3_write_17 : decode cX3_write 17 = .ok (.ireturn, 1) := by decide +kernel
set_option maxRecDepth 20000 in
theorem ggX3_copy_X1_isAddress : GoodIn wsX3_copy wsX1_isAddress := goodIn_r _ [7, 8, 9, 10, 11, 12, 13, 14, 15, 147, 148, 149, 150, 151, 152, 153, 154, 155, 156, 157, 158, 159, 160, 161] (by decide +kernel) (by decide +kernel)
set_option maxRecDepth 20000 in
theorem gX3_copy_X1_isAddress : GoodIn wsX3_copy (wsV RX3 67 RX1 yX1_isAddress wsX1_isAddress) := goodIn_app (goodIn_of _ (by decide +kernel)) ggX3_copy_X1_isAddress
set_option maxRecDepth 20000 in
theorem ggX3_copy_X3_startTrial : GoodIn wsX3_copy wsX3_startTrial := goodIn_r _ [19, 2, 1, 20, 21, 22, 6, 23, 24, 25, 26, 27, 28, 29, 8, 30, 31, 32, 33, 34, 35, 36, 37, 38, 39, 40, 41, 141, 142, 143, 144, 145, 146, 147, 148, 149, 150, 151, 152, 153, 154, 155, 156, 157, 158, 159, 160, 161] (by decide +kernel) (by decide +kernel)
set_option maxRecDepth 20000 in
theorem gX3_copy_X3_startTrial : GoodIn wsX3_copy (wsV RX3 40 RX3 yX3_startTrial wsX3_startTrial) := goodIn_app (goodIn_of _ (by decide +kernel)) ggX3_copy_X3_startTrial
set_option maxRecDepth 20000 in
theorem ggX3_copy_X1_copyRow : GoodIn wsX3_copy wsX1_copyRow := goodIn_r _ [45, 46, 47, 48, 6, 49, 34, 40, 32, 50, 4, 5, 7, 8, 9, 10, 11, 12, 13, 14, 15, 51, 52, 53, 54, 55, 56, 57, 58, 37, 36, 59, 60, 61, 62, 30, 63, 64, 65, 66, 67, 68, 69, 70, 71, 72, 73, 74, 31, 25, 75, 76, 77, 78, 38, 33, 79, 80, 81, 82, 24, 83, 84, 85, 86, 87, 88, 89, 90, 91, 92, 93, 94, 35, 95, 96, 97, 98, 99, 100, 101, 102, 103, 104, 105, 106, 107, 108, 109, 110, 111, 112, 113, 114, 115, 116, 117, 118, 119, 120, 121, 122, 39, 123, 124, 125, 126, 41, 147, 148, 149, 150, 151, 152, 153, 154, 155, 156, 157, 158, 159, 160, 161] (by decide +kernel) (by decide +kernel)
set_option maxRecDepth 20000 in
theorem gX3_copy_X1_copyRow : GoodIn wsX3_copy (wsV RX3 70 RX1 yX1_copyRow wsX1_copyRow) := goodIn_app (goodIn_of _ (by decide +kernel)) ggX3_copy_X1_copyRow
set_option maxRecDepth 20000 in
theorem ggX3_copy_X3_settle : GoodIn wsX3_copy wsX3_settle := goodIn_r _ [130, 131, 1, 2, 132, 133, 134, 135, 136, 137, 138, 139, 140, 21, 22, 6, 23, 24, 25, 26, 27, 28, 29, 8, 30, 31, 32, 33, 34, 35, 36, 37, 38, 39, 40, 41, 20, 141, 142, 143, 144, 145, 146, 162, 163, 164, 147, 148, 149, 150, 151, 152, 153, 154, 155, 156, 157, 158, 159, 160, 161] (by decide +kernel) (by decide +kernel)
set_option maxRecDepth 20000 in
theorem gX3_copy_X3_settle : GoodIn wsX3_copy (wsV RX3 47 RX3 yX3_settle wsX3_settle) := goodIn_app (goodIn_of _ (by decide +kernel)) ggX3_copy_X3_settle
theorem dX3_copy_0 : decode cX3_copy 0 = .ok (.aload_n 0, 1) := by decide +kernel
theorem dX3_copy_1 : decode cX3_copy 1 = .ok (.getfield 12, 3) := by decide +kernel
theorem dX3_copy_4 : decode cX3_copy 4 = .ok (.iload_n 1, 1) := by decide +kernel
theorem dX3_copy_5 : decode cX3_copy 5 = .ok (.invokevirtual 67, 3) := by decide +kernel
theorem dX3_copy_8 : decode cX3_copy 8 = .ok (.ifCond .eq 14, 3) := by decide +kernel
theorem dX3_copy_11 : decode cX3_copy 11 = .ok (.aload_n 0, 1) := by decide +kernel
theorem dX3_copy_12 : decode cX3_copy 12 = .ok (.getfield 12, 3) := by decide +kernel
theorem dX3_copy_15 : decode cX3_copy 15 = .ok (.iload_n 2, 1) := by decide +kernel
theorem dX3_copy_16 : decode cX3_copy 16 = .ok (.invokevirtual 67, 3) := by decide +kernel
theorem dX3_copy_19 : decode cX3_copy 19 = .ok (.ifCond .ne 5, 3) := by decide +kernel
theorem dX3_copy_22 : decode cX3_copy 22 = .ok (.iconst (-1), 1) := by decide +kernel
theorem dX3_copy_23 : decode cX3_copy 23 = .ok (.ireturn, 1) := by decide +kernel
theorem dX3_copy_24 : decode cX3_copy 24 = .ok (.iload_n 3, 1) := by decide +kernel
theorem dX3_copy_25 : decode cX3_copy 25 = .ok (.iconst 1, 1) := by decide +kernel
theorem dX3_copy_26 : decode cX3_copy 26 = .ok (.if_icmp .lt 9, 3) := by decide +kernel
theorem dX3_copy_29 : decode cX3_copy 29 = .ok (.iload_n 3, 1) := by decide +kernel
theorem dX3_copy_30 : decode cX3_copy 30 = .ok (.bipush 16, 2) := by decide +kernel
theorem dX3_copy_32 : decode cX3_copy 32 = .ok (.if_icmp .le 6, 3) := by decide +kernel
theorem dX3_copy_35 : decode cX3_copy 35 = .ok (.bipush (-2), 2) := by decide +kernel
theorem dX3_copy_37 : decode cX3_copy 37 = .ok (.ireturn, 1) := by decide +kernel
theorem dX3_copy_38 : decode cX3_copy 38 = .ok (.aload_n 0, 1) := by decide +kernel
theorem dX3_copy_39 : decode cX3_copy 39 = .ok (.invokevirtual 40, 3) := by decide +kernel
theorem dX3_copy_42 : decode cX3_copy 42 = .ok (.aload_n 0, 1) := by decide +kernel
theorem dX3_copy_43 : decode cX3_copy 43 = .ok (.getfield 16, 3) := by decide +kernel
theorem dX3_copy_46 : decode cX3_copy 46 = .ok (.iload_n 1, 1) := by decide +kernel
theorem dX3_copy_47 : decode cX3_copy 47 = .ok (.iload_n 2, 1) := by decide +kernel
theorem dX3_copy_48 : decode cX3_copy 48 = .ok (.iload_n 3, 1) := by decide +kernel
theorem dX3_copy_49 : decode cX3_copy 49 = .ok (.invokevirtual 70, 3) := by decide +kernel
theorem dX3_copy_52 : decode cX3_copy 52 = .ok (.istore 4, 2) := by decide +kernel
theorem dX3_copy_54 : decode cX3_copy 54 = .ok (.iload 4, 2) := by decide +kernel
theorem dX3_copy_56 : decode cX3_copy 56 = .ok (.ifCond .ne 6, 3) := by decide +kernel
theorem dX3_copy_59 : decode cX3_copy 59 = .ok (.bipush (-5), 2) := by decide +kernel
theorem dX3_copy_61 : decode cX3_copy 61 = .ok (.ireturn, 1) := by decide +kernel
theorem dX3_copy_62 : decode cX3_copy 62 = .ok (.iload 4, 2) := by decide +kernel
theorem dX3_copy_64 : decode cX3_copy 64 = .ok (.iload_n 3, 1) := by decide +kernel
theorem dX3_copy_65 : decode cX3_copy 65 = .ok (.if_icmp .ge 19, 3) := by decide +kernel
theorem dX3_copy_68 : decode cX3_copy 68 = .ok (.aload_n 0, 1) := by decide +kernel
theorem dX3_copy_69 : decode cX3_copy 69 = .ok (.invokevirtual 40, 3) := by decide +kernel
theorem dX3_copy_72 : decode cX3_copy 72 = .ok (.aload_n 0, 1) := by decide +kernel
theorem dX3_copy_73 : decode cX3_copy 73 = .ok (.getfield 16, 3) := by decide +kernel
theorem dX3_copy_76 : decode cX3_copy 76 = .ok (.iload_n 1, 1) := by decide +kernel
theorem dX3_copy_77 : decode cX3_copy 77 = .ok (.iload_n 2, 1) := by decide +kernel
theorem dX3_copy_78 : decode cX3_copy 78 = .ok (.iload 4, 2) := by decide +kernel
theorem dX3_copy_80 : decode cX3_copy 80 = .ok (.invokevirtual 70, 3) := by decide +kernel
theorem dX3_copy_83 : decode cX3_copy 83 = .ok (.pop, 1) := by decide +kernel
theorem dX3_copy_84 : decode cX3_copy 84 = .ok (.aload_n 0, 1) := by decide +kernel
theorem dX3_copy_85 : decode cX3_copy 85 = .ok (.iload 4, 2) := by decide +kernel
theorem dX3_copy_87 : decode cX3_copy 87 = .ok (.invokevirtual 47, 3) := by decide +kernel
theorem dX3_copy_90 : decode cX3_copy 90 = .ok (.ireturn, 1) := by decide +kernel
set_option maxRecDepth 20000 in
theorem ggX3_test_X3_isHead : GoodIn wsX3_test wsX3_isHead := goodIn_r _ [5] (by decide +kernel) (by decide +kernel)
set_option maxRecDepth 20000 in
theorem gX3_test_X3_isHead : GoodIn wsX3_test (va_wsS RX3 50 yX3_isHead wsX3_isHead) := goodIn_app (goodIn_of _ (by decide +kernel)) ggX3_test_X3_isHead
set_option maxRecDepth 20000 in
theorem ggX3_test_X3_startTrial : GoodIn wsX3_test wsX3_startTrial := goodIn_r _ [9, 1, 10, 11, 12, 13, 14, 15, 16, 17, 18, 19, 20, 21, 22, 23, 24, 25, 26, 27, 28, 29, 30, 31, 32, 33, 34, 143, 144, 145, 146, 147, 148, 149, 150, 151, 152, 153, 154, 155, 156, 157, 158, 159, 160, 161, 162, 163] (by decide +kernel) (by decide +kernel)
set_option maxRecDepth 20000 in
theorem gX3_test_X3_startTrial : GoodIn wsX3_test (wsV RX3 40 RX3 yX3_startTrial wsX3_startTrial) := goodIn_app (goodIn_of _ (by decide +kernel)) ggX3_test_X3_startTrial
set_option maxRecDepth 20000 in
theorem ggX3_test_X1_testHead : GoodIn wsX3_test wsX1_testHead := goodIn_r _ [38, 22, 31, 39, 40, 41, 14, 42, 43, 44, 45, 46, 27, 47, 48, 49, 50, 33, 25, 51, 52, 53, 54, 55, 4, 56, 57, 58, 59, 60, 61, 62, 63, 64, 30, 29, 65, 66, 67, 68, 23, 69, 70, 71, 72, 73, 74, 75, 76, 77, 78, 79, 80, 24, 17, 81, 82, 83, 84, 26, 85, 86, 87, 88, 16, 89, 90, 91, 92, 93, 94, 95, 96, 97, 98, 99, 100, 28, 101, 102, 103, 104, 105, 106, 107, 108, 109, 110, 111, 112, 113, 114, 115, 116, 117, 118, 119, 120, 121, 122, 123, 124, 125, 126, 127, 128, 32, 149, 150, 151, 152, 153, 154, 155, 156, 157, 158, 159, 160, 161, 162, 163] (by decide +kernel) (by decide +kernel)
set_option maxRecDepth 20000 in
theorem gX3_test_X1_testHead : GoodIn wsX3_test (wsV RX3 74 RX1 yX1_testHead wsX1_testHead) := goodIn_app (goodIn_of _ (by decide +kernel)) ggX3_test_X1_testHead
set_option maxRecDepth 20000 in
theorem ggX3_test_X3_settle : GoodIn wsX3_test wsX3_settle := goodIn_r _ [132, 133, 10, 1, 134, 135, 136, 137, 138, 139, 140, 141, 142, 12, 13, 14, 15, 16, 17, 18, 19, 20, 21, 22, 23, 24, 25, 26, 27, 28, 29, 30, 31, 32, 33, 34, 11, 143, 144, 145, 146, 147, 148, 164, 165, 166, 149, 150, 151, 152, 153, 154, 155, 156, 157, 158, 159, 160, 161, 162, 163] (by decide +kernel) (by decide +kernel)
set_option maxRecDepth 20000 in
theorem gX3_test_X3_settle : GoodIn wsX3_test (wsV RX3 47 RX3 yX3_settle wsX3_settle) := goodIn_app (goodIn_of _ (by decide +kernel)) ggX3_test_X3_settle
theorem dX3_test_0 : decode cX3_test 0 = .ok (.iload_n 1, 1) := by decide +kernel
theorem dX3_test_1 : decode cX3_test 1 = .ok (.invokestatic 50, 3) := by decide +kernel
theorem dX3_test_4 : decode cX3_test 4 = .ok (.ifCond .ne 5, 3) := by decide +kernel
theorem dX3_test_7 : decode cX3_test 7 = .ok (.iconst (-1), 1) := by decide +kernel
theorem dX3_test_8 : decode cX3_test 8 = .ok (.ireturn, 1) := by decide +kernel
theorem dX3_test_9 : decode cX3_test 9 = .ok (.aload_n 0, 1) := by decide +kernel
theorem dX3_test_10 : decode cX3_test 10 = .ok (.invokevirtual 40, 3) := by decide +kernel
end
section
theorem dX3_test_13 : decode cX3_test 13 = .ok (.aload_n 0, 1) := by decide +kernel
theorem dX3_test_14 : decode cX3_test 14 = .ok (.aload_n 0, 1) := by decide +kernel
theorem dX3_test_15 : decode cX3_test 15 = .ok (.getfield 16, 3) := by decide +kernel
theorem dX3_test_18 : decode cX3_test 18 = .ok (.iload_n 1, 1) := by decide +kernel
theorem dX3_test_19 : decode cX3_test 19 = .ok (.invokevirtual 74, 3) := by decide +kernel
theorem dX3_test_22 : decode cX3_test 22 = .ok (.invokevirtual 47, 3) := by decide +kernel
theorem dX3_test_25 : decode cX3_test 25 = .ok (.ireturn, 1) := by decide +kernel
set_option maxRecDepth 20000 in
theorem ggX3_perform_X0_parse : GoodIn wsX3_perform wsX0_parse := goodIn_r _ [7, 8, 9, 10, 11, 12, 6, 13, 14, 15, 16, 17, 18, 19, 20, 21, 22, 23, 24, 25, 26, 27, 28, 29, 30, 31, 32, 33, 34, 35, 36, 37, 190, 191, 192, 193, 194, 195] (by decide +kernel) (by decide +kernel)
set_option maxRecDepth 20000 in
theorem gX3_perform_X0_parse : GoodIn wsX3_perform (wsV RX3 77 RX0 yX0_parse wsX0_parse) := goodIn_app (goodIn_of _ (by decide +kernel)) ggX3_perform_X0_parse
set_option maxRecDepth 20000 in
theorem ggX3_perform_X3_startTrial : GoodIn wsX3_perform wsX3_startTrial := goodIn_r _ [42, 2, 43, 44, 45, 46, 47, 48, 49, 50, 51, 52, 53, 54, 55, 56, 57, 58, 59, 60, 61, 62, 63, 64, 65, 66, 67, 184, 185, 186, 187, 188, 189, 196, 197, 198, 199, 200, 201, 202, 203, 204, 205, 206, 207, 208, 209, 210] (by decide +kernel) (by decide +kernel)
set_option maxRecDepth 20000 in
theorem gX3_perform_X3_startTrial : GoodIn wsX3_perform (wsV RX3 40 RX3 yX3_startTrial wsX3_startTrial) := goodIn_app (goodIn_of _ (by decide +kernel)) ggX3_perform_X3_startTrial
set_option maxRecDepth 20000 in
theorem ggX3_perform_X0_commandCount : GoodIn wsX3_perform wsX0_commandCount := goodIn_r _ [71, 9, 190, 191, 192, 193, 194, 195] (by decide +kernel) (by decide +kernel)
set_option maxRecDepth 20000 in
theorem gX3_perform_X0_commandCount : GoodIn wsX3_perform (wsV RX3 81 RX0 yX0_commandCount wsX0_commandCount) := goodIn_app (goodIn_of _ (by decide +kernel)) ggX3_perform_X0_commandCount
set_option maxRecDepth 20000 in
theorem ggX3_perform_X0_commandSector : GoodIn wsX3_perform wsX0_commandSector := goodIn_r _ [75, 36, 190, 191, 192, 193, 194, 195] (by decide +kernel) (by decide +kernel)
set_option maxRecDepth 20000 in
theorem gX3_perform_X0_commandSector : GoodIn wsX3_perform (wsV RX3 84 RX0 yX0_commandSector wsX0_commandSector) := goodIn_app (goodIn_of _ (by decide +kernel)) ggX3_perform_X0_commandSector
set_option maxRecDepth 20000 in
theorem ggX3_perform_X0_commandValue : GoodIn wsX3_perform wsX0_commandValue := goodIn_r _ [79, 37, 190, 191, 192, 193, 194, 195] (by decide +kernel) (by decide +kernel)
set_option maxRecDepth 20000 in
theorem gX3_perform_X0_commandValue : GoodIn wsX3_perform (wsV RX3 87 RX0 yX0_commandValue wsX0_commandValue) := goodIn_app (goodIn_of _ (by decide +kernel)) ggX3_perform_X0_commandValue
set_option maxRecDepth 20000 in
theorem ggX3_perform_X1_readAt : GoodIn wsX3_perform wsX1_readAt := goodIn_r _ [83, 60, 66, 58, 84, 85, 86, 47, 87, 55, 88, 41, 89, 90, 91, 92, 93, 94, 95, 96, 97, 98, 99, 100, 101, 63, 62, 102, 103, 104, 105, 56, 106, 107, 108, 109, 110, 111, 112, 113, 114, 115, 116, 117, 57, 50, 118, 119, 120, 121, 64, 59, 122, 123, 124, 125, 49, 126, 127, 128, 129, 130, 131, 132, 133, 134, 135, 136, 137, 61, 138, 139, 140, 141, 142, 143, 144, 145, 146, 147, 148, 149, 150, 151, 152, 153, 154, 155, 156, 157, 158, 159, 160, 161, 162, 163, 164, 165, 65, 196, 197, 198, 199, 200, 201, 202, 203, 204, 205, 206, 207, 208, 209, 210] (by decide +kernel) (by decide +kernel)
set_option maxRecDepth 20000 in
theorem gX3_perform_X1_readAt : GoodIn wsX3_perform (wsV RX3 61 RX1 yX1_readAt wsX1_readAt) := goodIn_app (goodIn_of _ (by decide +kernel)) ggX3_perform_X1_readAt
set_option maxRecDepth 20000 in
theorem ggX3_perform_X1_writeAt : GoodIn wsX3_perform wsX1_writeAt := goodIn_r _ [169, 60, 58, 67, 84, 85, 86, 47, 87, 55, 88, 41, 89, 90, 91, 92, 93, 94, 95, 96, 97, 126, 127, 128, 129, 130, 131, 132, 133, 134, 135, 136, 137, 61, 56, 122, 123, 124, 125, 57, 49, 138, 139, 140, 141, 142, 143, 144, 145, 146, 147, 148, 149, 98, 99, 100, 101, 63, 62, 102, 103, 104, 105, 106, 107, 108, 109, 110, 111, 112, 113, 154, 155, 156, 157, 50, 118, 119, 120, 121, 64, 59, 150, 151, 152, 153, 158, 159, 160, 161, 162, 163, 164, 165, 65, 196, 197, 198, 199, 200, 201, 202, 203, 204, 205, 206, 207, 208, 209, 210] (by decide +kernel) (by decide +kernel)
set_option maxRecDepth 20000 in
theorem gX3_perform_X1_writeAt : GoodIn wsX3_perform (wsV RX3 64 RX1 yX1_writeAt wsX1_writeAt) := goodIn_app (goodIn_of _ (by decide +kernel)) ggX3_perform_X1_writeAt
set_option maxRecDepth 20000 in
theorem ggX3_perform_X3_settle : GoodIn wsX3_perform wsX3_settle := goodIn_r _ [173, 174, 43, 2, 175, 176, 177, 178, 179, 180, 181, 182, 183, 45, 46, 47, 48, 49, 50, 51, 52, 53, 54, 55, 56, 57, 58, 59, 60, 61, 62, 63, 64, 65, 66, 67, 44, 184, 185, 186, 187, 188, 189, 211, 212, 213, 196, 197, 198, 199, 200, 201, 202, 203, 204, 205, 206, 207, 208, 209, 210] (by decide +kernel) (by decide +kernel)
set_option maxRecDepth 20000 in
theorem gX3_perform_X3_settle : GoodIn wsX3_perform (wsV RX3 47 RX3 yX3_settle wsX3_settle) := goodIn_app (goodIn_of _ (by decide +kernel)) ggX3_perform_X3_settle
theorem dX3_perform_0 : decode cX3_perform 0 = .ok (.aload_n 0, 1) := by decide +kernel
theorem dX3_perform_1 : decode cX3_perform 1 = .ok (.getfield 32, 3) := by decide +kernel
theorem dX3_perform_4 : decode cX3_perform 4 = .ok (.invokevirtual 77, 3) := by decide +kernel
theorem dX3_perform_7 : decode cX3_perform 7 = .ok (.istore_n 1, 1) := by decide +kernel
theorem dX3_perform_8 : decode cX3_perform 8 = .ok (.iload_n 1, 1) := by decide +kernel
theorem dX3_perform_9 : decode cX3_perform 9 = .ok (.bipush (-5), 2) := by decide +kernel
theorem dX3_perform_11 : decode cX3_perform 11 = .ok (.if_icmp .eq 8, 3) := by decide +kernel
theorem dX3_perform_14 : decode cX3_perform 14 = .ok (.bipush (-100), 2) := by decide +kernel
theorem dX3_perform_16 : decode cX3_perform 16 = .ok (.iload_n 1, 1) := by decide +kernel
theorem dX3_perform_17 : decode cX3_perform 17 = .ok (.isub, 1) := by decide +kernel
theorem dX3_perform_18 : decode cX3_perform 18 = .ok (.ireturn, 1) := by decide +kernel
theorem dX3_perform_19 : decode cX3_perform 19 = .ok (.aload_n 0, 1) := by decide +kernel
theorem dX3_perform_20 : decode cX3_perform 20 = .ok (.invokevirtual 40, 3) := by decide +kernel
theorem dX3_perform_23 : decode cX3_perform 23 = .ok (.iconst 0, 1) := by decide +kernel
theorem dX3_perform_24 : decode cX3_perform 24 = .ok (.istore_n 2, 1) := by decide +kernel
theorem dX3_perform_25 : decode cX3_perform 25 = .ok (.iload_n 2, 1) := by decide +kernel
theorem dX3_perform_26 : decode cX3_perform 26 = .ok (.aload_n 0, 1) := by decide +kernel
theorem dX3_perform_27 : decode cX3_perform 27 = .ok (.getfield 32, 3) := by decide +kernel
theorem dX3_perform_30 : decode cX3_perform 30 = .ok (.invokevirtual 81, 3) := by decide +kernel
theorem dX3_perform_33 : decode cX3_perform 33 = .ok (.if_icmp .ge 66, 3) := by decide +kernel
theorem dX3_perform_36 : decode cX3_perform 36 = .ok (.aload_n 0, 1) := by decide +kernel
theorem dX3_perform_37 : decode cX3_perform 37 = .ok (.getfield 32, 3) := by decide +kernel
theorem dX3_perform_40 : decode cX3_perform 40 = .ok (.iload_n 2, 1) := by decide +kernel
theorem dX3_perform_41 : decode cX3_perform 41 = .ok (.invokevirtual 84, 3) := by decide +kernel
theorem dX3_perform_44 : decode cX3_perform 44 = .ok (.istore_n 3, 1) := by decide +kernel
theorem dX3_perform_45 : decode cX3_perform 45 = .ok (.aload_n 0, 1) := by decide +kernel
theorem dX3_perform_46 : decode cX3_perform 46 = .ok (.getfield 32, 3) := by decide +kernel
theorem dX3_perform_49 : decode cX3_perform 49 = .ok (.iload_n 2, 1) := by decide +kernel
theorem dX3_perform_50 : decode cX3_perform 50 = .ok (.invokevirtual 87, 3) := by decide +kernel
theorem dX3_perform_53 : decode cX3_perform 53 = .ok (.istore 4, 2) := by decide +kernel
theorem dX3_perform_55 : decode cX3_perform 55 = .ok (.iload 4, 2) := by decide +kernel
theorem dX3_perform_57 : decode cX3_perform 57 = .ok (.bipush (-5), 2) := by decide +kernel
theorem dX3_perform_59 : decode cX3_perform 59 = .ok (.if_icmp .ne 14, 3) := by decide +kernel
theorem dX3_perform_62 : decode cX3_perform 62 = .ok (.aload_n 0, 1) := by decide +kernel
theorem dX3_perform_63 : decode cX3_perform 63 = .ok (.getfield 16, 3) := by decide +kernel
theorem dX3_perform_66 : decode cX3_perform 66 = .ok (.iload_n 3, 1) := by decide +kernel
theorem dX3_perform_67 : decode cX3_perform 67 = .ok (.invokevirtual 61, 3) := by decide +kernel
theorem dX3_perform_70 : decode cX3_perform 70 = .ok (.goto 13, 3) := by decide +kernel
theorem dX3_perform_73 : decode cX3_perform 73 = .ok (.aload_n 0, 1) := by decide +kernel
theorem dX3_perform_74 : decode cX3_perform 74 = .ok (.getfield 16, 3) := by decide +kernel
theorem dX3_perform_77 : decode cX3_perform 77 = .ok (.iload_n 3, 1) := by decide +kernel
theorem dX3_perform_78 : decode cX3_perform 78 = .ok (.iload 4, 2) := by decide +kernel
theorem dX3_perform_80 : decode cX3_perform 80 = .ok (.invokevirtual 64, 3) := by decide +kernel
theorem dX3_perform_83 : decode cX3_perform 83 = .ok (.istore 5, 2) := by decide +kernel
theorem dX3_perform_85 : decode cX3_perform 85 = .ok (.iload 5, 2) := by decide +kernel
theorem dX3_perform_87 : decode cX3_perform 87 = .ok (.ifCond .ge 6, 3) := by decide +kernel
theorem dX3_perform_90 : decode cX3_perform 90 = .ok (.iload 5, 2) := by decide +kernel
theorem dX3_perform_92 : decode cX3_perform 92 = .ok (.ireturn, 1) := by decide +kernel
theorem dX3_perform_93 : decode cX3_perform 93 = .ok (.iinc 2 1, 3) := by decide +kernel
theorem dX3_perform_96 : decode cX3_perform 96 = .ok (.goto (-71), 3) := by decide +kernel
theorem dX3_perform_99 : decode cX3_perform 99 = .ok (.aload_n 0, 1) := by decide +kernel
theorem dX3_perform_100 : decode cX3_perform 100 = .ok (.aload_n 0, 1) := by decide +kernel
theorem dX3_perform_101 : decode cX3_perform 101 = .ok (.getfield 32, 3) := by decide +kernel
theorem dX3_perform_104 : decode cX3_perform 104 = .ok (.invokevirtual 81, 3) := by decide +kernel
theorem dX3_perform_107 : decode cX3_perform 107 = .ok (.invokevirtual 47, 3) := by decide +kernel
theorem dX3_perform_110 : decode cX3_perform 110 = .ok (.ireturn, 1) := by decide +kernel
set_option maxRecDepth 20000 in
theorem ggX3_giveBack_X3_startTrial : GoodIn wsX3_giveBack wsX3_startTrial := goodIn_r _ [6, 1, 7, 8, 9, 10, 11, 12, 13, 14, 15, 16, 17, 18, 19, 20, 21, 22, 23, 24, 25, 26, 27, 28, 29, 30, 31, 104, 105, 106, 107, 108, 109, 110, 111, 112, 113, 114, 115, 116, 117, 118, 119, 120, 121, 122, 123, 124] (by decide +kernel) (by decide +kernel)
set_option maxRecDepth 20000 in
theorem gX3_giveBack_X3_startTrial : GoodIn wsX3_giveBack (wsV RX3 40 RX3 yX3_startTrial wsX3_startTrial) := goodIn_app (goodIn_of _ (by decide +kernel)) ggX3_giveBack_X3_startTrial
set_option maxRecDepth 20000 in
theorem ggX3_giveBack_X1_giveBackAt : GoodIn wsX3_giveBack wsX1_giveBackAt := goodIn_r _ [35, 20, 24, 36, 37, 38, 11, 39, 19, 40, 5, 41, 42, 43, 44, 45, 46, 47, 48, 49, 50, 51, 52, 53, 54, 55, 56, 57, 21, 13, 58, 59, 60, 61, 27, 26, 62, 63, 64, 65, 66, 67, 68, 69, 70, 71, 72, 73, 74, 75, 76, 77, 78, 79, 80, 81, 14, 82, 83, 84, 85, 25, 86, 87, 88, 89, 110, 111, 112, 113, 114, 115, 116, 117, 118, 119, 120, 121, 122, 123, 124] (by decide +kernel) (by decide +kernel)
set_option maxRecDepth 20000 in
theorem gX3_giveBack_X1_giveBackAt : GoodIn wsX3_giveBack (wsV RX3 90 RX1 yX1_giveBackAt wsX1_giveBackAt) := goodIn_app (goodIn_of _ (by decide +kernel)) ggX3_giveBack_X1_giveBackAt
set_option maxRecDepth 20000 in
theorem ggX3_giveBack_X3_settle : GoodIn wsX3_giveBack wsX3_settle := goodIn_r _ [93, 94, 7, 1, 95, 96, 97, 98, 99, 100, 101, 102, 103, 9, 10, 11, 12, 13, 14, 15, 16, 17, 18, 19, 20, 21, 22, 23, 24, 25, 26, 27, 28, 29, 30, 31, 8, 104, 105, 106, 107, 108, 109, 125, 126, 127, 110, 111, 112, 113, 114, 115, 116, 117, 118, 119, 120, 121, 122, 123, 124] (by decide +kernel) (by decide +kernel)
set_option maxRecDepth 20000 in
theorem gX3_giveBack_X3_settle : GoodIn wsX3_giveBack (wsV RX3 47 RX3 yX3_settle wsX3_settle) := goodIn_app (goodIn_of _ (by decide +kernel)) ggX3_giveBack_X3_settle
theorem dX3_giveBack_0 : decode cX3_giveBack 0 = .ok (.aload_n 0, 1) := by decide +kernel
theorem dX3_giveBack_1 : decode cX3_giveBack 1 = .ok (.invokevirtual 40, 3) := by decide +kernel
theorem dX3_giveBack_4 : decode cX3_giveBack 4 = .ok (.aload_n 0, 1) := by decide +kernel
theorem dX3_giveBack_5 : decode cX3_giveBack 5 = .ok (.aload_n 0, 1) := by decide +kernel
theorem dX3_giveBack_6 : decode cX3_giveBack 6 = .ok (.getfield 16, 3) := by decide +kernel
theorem dX3_giveBack_9 : decode cX3_giveBack 9 = .ok (.iload_n 1, 1) := by decide +kernel
theorem dX3_giveBack_10 : decode cX3_giveBack 10 = .ok (.invokevirtual 90, 3) := by decide +kernel
theorem dX3_giveBack_13 : decode cX3_giveBack 13 = .ok (.invokevirtual 47, 3) := by decide +kernel
theorem dX3_giveBack_16 : decode cX3_giveBack 16 = .ok (.ireturn, 1) := by decide +kernel
set_option maxRecDepth 20000 in
theorem ggX3_giveUp_X3_isHead : GoodIn wsX3_giveUp wsX3_isHead := goodIn_r _ [6] (by decide +kernel) (by decide +kernel)
set_option maxRecDepth 20000 in
theorem gX3_giveUp_X3_isHead : GoodIn wsX3_giveUp (va_wsS RX3 50 yX3_isHead wsX3_isHead) := goodIn_app (goodIn_of _ (by decide +kernel)) ggX3_giveUp_X3_isHead
set_option maxRecDepth 20000 in
theorem ggX3_giveUp_X1_othersAreGivenUp : GoodIn wsX3_giveUp wsX1_othersAreGivenUp := goodIn_r _ [11, 12, 121, 122, 123, 124, 125, 126, 127, 128, 129, 130, 131, 132, 133, 134, 135] (by decide +kernel) (by decide +kernel)
set_option maxRecDepth 20000 in
theorem gX3_giveUp_X1_othersAreGivenUp : GoodIn wsX3_giveUp (wsV RX3 93 RX1 yX1_othersAreGivenUp wsX1_othersAreGivenUp) := goodIn_app (goodIn_of _ (by decide +kernel)) ggX3_giveUp_X1_othersAreGivenUp
set_option maxRecDepth 20000 in
theorem ggX3_giveUp_X1_isGivenUp : GoodIn wsX3_giveUp wsX1_isGivenUp := goodIn_r _ [16, 12, 121, 122, 123, 124, 125, 126, 127, 128, 129, 130, 131, 132, 133, 134, 135] (by decide +kernel) (by decide +kernel)
set_option maxRecDepth 20000 in
theorem gX3_giveUp_X1_isGivenUp : GoodIn wsX3_giveUp (wsV RX3 96 RX1 yX1_isGivenUp wsX1_isGivenUp) := goodIn_app (goodIn_of _ (by decide +kernel)) ggX3_giveUp_X1_isGivenUp
set_option maxRecDepth 20000 in
theorem ggX3_giveUp_X3_startTrial : GoodIn wsX3_giveUp wsX3_startTrial := goodIn_r _ [20, 2, 1, 21, 22, 23, 10, 24, 25, 26, 27, 28, 29, 30, 31, 12, 32, 33, 34, 35, 36, 37, 38, 39, 40, 41, 42, 115, 116, 117, 118, 119, 120, 121, 122, 123, 124, 125, 126, 127, 128, 129, 130, 131, 132, 133, 134, 135] (by decide +kernel) (by decide +kernel)
set_option maxRecDepth 20000 in
theorem gX3_giveUp_X3_startTrial : GoodIn wsX3_giveUp (wsV RX3 40 RX3 yX3_startTrial wsX3_startTrial) := goodIn_app (goodIn_of _ (by decide +kernel)) ggX3_giveUp_X3_startTrial
set_option maxRecDepth 20000 in
theorem ggX3_giveUp_X1_vacate : GoodIn wsX3_giveUp wsX1_vacate := goodIn_r _ [46, 40, 12, 35, 47, 48, 49, 10, 50, 31, 51, 5, 52, 53, 54, 55, 56, 57, 58, 59, 60, 61, 62, 63, 64, 65, 66, 67, 68, 69, 70, 71, 72, 73, 74, 75, 76, 36, 77, 78, 79, 80, 32, 25, 81, 82, 83, 84, 85, 86, 87, 88, 89, 90, 91, 92, 93, 94, 95, 96, 97, 98, 99, 100, 26, 121, 122, 123, 124, 125, 126, 127, 128, 129, 130, 131, 132, 133, 134, 135] (by decide +kernel) (by decide +kernel)
set_option maxRecDepth 20000 in
theorem gX3_giveUp_X1_vacate : GoodIn wsX3_giveUp (wsV RX3 99 RX1 yX1_vacate wsX1_vacate) := goodIn_app (goodIn_of _ (by decide +kernel)) ggX3_giveUp_X1_vacate
set_option maxRecDepth 20000 in
theorem ggX3_giveUp_X3_settle : GoodIn wsX3_giveUp wsX3_settle := goodIn_r _ [104, 105, 1, 2, 106, 107, 108, 109, 110, 111, 112, 113, 114, 22, 23, 10, 24, 25, 26, 27, 28, 29, 30, 31, 12, 32, 33, 34, 35, 36, 37, 38, 39, 40, 41, 42, 21, 115, 116, 117, 118, 119, 120, 136, 137, 138, 121, 122, 123, 124, 125, 126, 127, 128, 129, 130, 131, 132, 133, 134, 135] (by decide +kernel) (by decide +kernel)
set_option maxRecDepth 20000 in
theorem gX3_giveUp_X3_settle : GoodIn wsX3_giveUp (wsV RX3 47 RX3 yX3_settle wsX3_settle) := goodIn_app (goodIn_of _ (by decide +kernel)) ggX3_giveUp_X3_settle
theorem dX3_giveUp_0 : decode cX3_giveUp 0 = .ok (.iload_n 1, 1) := by decide +kernel
theorem dX3_giveUp_1 : decode cX3_giveUp 1 = .ok (.invokestatic 50, 3) := by decide +kernel
theorem dX3_giveUp_4 : decode cX3_giveUp 4 = .ok (.ifCond .ne 5, 3) := by decide +kernel
theorem dX3_giveUp_7 : decode cX3_giveUp 7 = .ok (.iconst (-1), 1) := by decide +kernel
theorem dX3_giveUp_8 : decode cX3_giveUp 8 = .ok (.ireturn, 1) := by decide +kernel
theorem dX3_giveUp_9 : decode cX3_giveUp 9 = .ok (.aload_n 0, 1) := by decide +kernel
theorem dX3_giveUp_10 : decode cX3_giveUp 10 = .ok (.getfield 12, 3) := by decide +kernel
theorem dX3_giveUp_13 : decode cX3_giveUp 13 = .ok (.iload_n 1, 1) := by decide +kernel
theorem dX3_giveUp_14 : decode cX3_giveUp 14 = .ok (.invokevirtual 93, 3) := by decide +kernel
theorem dX3_giveUp_17 : decode cX3_giveUp 17 = .ok (.ifCond .eq 6, 3) := by decide +kernel
theorem dX3_giveUp_20 : decode cX3_giveUp 20 = .ok (.bipush (-4), 2) := by decide +kernel
theorem dX3_giveUp_22 : decode cX3_giveUp 22 = .ok (.ireturn, 1) := by decide +kernel
theorem dX3_giveUp_23 : decode cX3_giveUp 23 = .ok (.aload_n 0, 1) := by decide +kernel
theorem dX3_giveUp_24 : decode cX3_giveUp 24 = .ok (.getfield 12, 3) := by decide +kernel
theorem dX3_giveUp_27 : decode cX3_giveUp 27 = .ok (.iload_n 1, 1) := by decide +kernel
theorem dX3_giveUp_28 : decode cX3_giveUp 28 = .ok (.invokevirtual 96, 3) := by decide +kernel
theorem dX3_giveUp_31 : decode cX3_giveUp 31 = .ok (.ifCond .eq 6, 3) := by decide +kernel
theorem dX3_giveUp_34 : decode cX3_giveUp 34 = .ok (.bipush (-5), 2) := by decide +kernel
theorem dX3_giveUp_36 : decode cX3_giveUp 36 = .ok (.ireturn, 1) := by decide +kernel
theorem dX3_giveUp_37 : decode cX3_giveUp 37 = .ok (.aload_n 0, 1) := by decide +kernel
theorem dX3_giveUp_38 : decode cX3_giveUp 38 = .ok (.invokevirtual 40, 3) := by decide +kernel
theorem dX3_giveUp_41 : decode cX3_giveUp 41 = .ok (.aload_n 0, 1) := by decide +kernel
theorem dX3_giveUp_42 : decode cX3_giveUp 42 = .ok (.aload_n 0, 1) := by decide +kernel
theorem dX3_giveUp_43 : decode cX3_giveUp 43 = .ok (.getfield 16, 3) := by decide +kernel
theorem dX3_giveUp_46 : decode cX3_giveUp 46 = .ok (.iload_n 1, 1) := by decide +kernel
theorem dX3_giveUp_47 : decode cX3_giveUp 47 = .ok (.invokevirtual 99, 3) := by decide +kernel
theorem dX3_giveUp_50 : decode cX3_giveUp 50 = .ok (.invokevirtual 47, 3) := by decide +kernel
theorem dX3_giveUp_53 : decode cX3_giveUp 53 = .ok (.ireturn, 1) := by decide +kernel
set_option maxRecDepth 20000 in
theorem ggX3_type_X0_append : GoodIn wsX3_type wsX0_append := goodIn_r _ [6, 7, 8, 15, 16, 17, 18, 19, 20] (by decide +kernel) (by decide +kernel)
set_option maxRecDepth 20000 in
theorem gX3_type_X0_append : GoodIn wsX3_type (wsV RX3 102 RX0 yX0_append wsX0_append) := goodIn_app (goodIn_of _ (by decide +kernel)) ggX3_type_X0_append
theorem dX3_type_0 : decode cX3_type 0 = .ok (.aload_n 0, 1) := by decide +kernel
theorem dX3_type_1 : decode cX3_type 1 = .ok (.getfield 32, 3) := by decide +kernel
theorem dX3_type_4 : decode cX3_type 4 = .ok (.iload_n 1, 1) := by decide +kernel
theorem dX3_type_5 : decode cX3_type 5 = .ok (.invokevirtual 102, 3) := by decide +kernel
theorem dX3_type_8 : decode cX3_type 8 = .ok (.ireturn, 1) := by decide +kernel
set_option maxRecDepth 20000 in
theorem ggX3_clearText_X0_empty : GoodIn wsX3_clearText wsX0_empty := goodIn_r _ [6, 7, 14, 15, 16, 17, 18, 19] (by decide +kernel) (by decide +kernel)
set_option maxRecDepth 20000 in
theorem gX3_clearText_X0_empty : GoodIn wsX3_clearText (wsV RX3 105 RX0 yX0_empty wsX0_empty) := goodIn_app (goodIn_of _ (by decide +kernel)) ggX3_clearText_X0_empty
theorem dX3_clearText_0 : decode cX3_clearText 0 = .ok (.aload_n 0, 1) := by decide +kernel
theorem dX3_clearText_1 : decode cX3_clearText 1 = .ok (.getfield 32, 3) := by decide +kernel
theorem dX3_clearText_4 : decode cX3_clearText 4 = .ok (.invokevirtual 105, 3) := by decide +kernel
theorem dX3_clearText_7 : decode cX3_clearText 7 = .ok (.ireturn, 1) := by decide +kernel
set_option maxRecDepth 20000 in
theorem ggX3_undo_X2_states : GoodIn wsX3_undo wsX2_states := goodIn_r _ [7, 8, 45, 46, 47] (by decide +kernel) (by decide +kernel)
set_option maxRecDepth 20000 in
theorem gX3_undo_X2_states : GoodIn wsX3_undo (wsV RX3 108 RX2 yX2_states wsX2_states) := goodIn_app (goodIn_of _ (by decide +kernel)) ggX3_undo_X2_states
set_option maxRecDepth 20000 in
theorem ggX3_undo_X2_takeBack : GoodIn wsX3_undo wsX2_takeBack := goodIn_r _ [12, 8, 13, 14, 15, 16, 17, 18, 19, 20, 21, 22, 23, 24, 25, 26, 27, 28, 29, 30, 31, 32, 33, 34, 35, 36, 37, 38, 45, 46, 47, 48, 49, 50, 51, 52, 53, 54, 55, 56, 57, 58, 59, 60, 61, 62] (by decide +kernel) (by decide +kernel)
set_option maxRecDepth 20000 in
theorem gX3_undo_X2_takeBack : GoodIn wsX3_undo (wsV RX3 111 RX2 yX2_takeBack wsX2_takeBack) := goodIn_app (goodIn_of _ (by decide +kernel)) ggX3_undo_X2_takeBack
theorem dX3_undo_0 : decode cX3_undo 0 = .ok (.aload_n 0, 1) := by decide +kernel
theorem dX3_undo_1 : decode cX3_undo 1 = .ok (.getfield 25, 3) := by decide +kernel
theorem dX3_undo_4 : decode cX3_undo 4 = .ok (.invokevirtual 108, 3) := by decide +kernel
theorem dX3_undo_7 : decode cX3_undo 7 = .ok (.ifCond .ne 6, 3) := by decide +kernel
theorem dX3_undo_10 : decode cX3_undo 10 = .ok (.bipush (-5), 2) := by decide +kernel
theorem dX3_undo_12 : decode cX3_undo 12 = .ok (.ireturn, 1) := by decide +kernel
theorem dX3_undo_13 : decode cX3_undo 13 = .ok (.aload_n 0, 1) := by decide +kernel
theorem dX3_undo_14 : decode cX3_undo 14 = .ok (.getfield 25, 3) := by decide +kernel
theorem dX3_undo_17 : decode cX3_undo 17 = .ok (.aload_n 0, 1) := by decide +kernel
theorem dX3_undo_18 : decode cX3_undo 18 = .ok (.getfield 12, 3) := by decide +kernel
theorem dX3_undo_21 : decode cX3_undo 21 = .ok (.invokevirtual 111, 3) := by decide +kernel
theorem dX3_undo_24 : decode cX3_undo 24 = .ok (.aload_n 0, 1) := by decide +kernel
theorem dX3_undo_25 : decode cX3_undo 25 = .ok (.getfield 25, 3) := by decide +kernel
theorem dX3_undo_28 : decode cX3_undo 28 = .ok (.invokevirtual 108, 3) := by decide +kernel
theorem dX3_undo_31 : decode cX3_undo 31 = .ok (.ireturn, 1) := by decide +kernel
set_option maxRecDepth 20000 in
theorem ggX3_keep_X1_takeOver : GoodIn wsX3_keep wsX1_takeOver := goodIn_r _ [8, 9, 10, 11, 12, 13, 14, 15, 16, 17, 18, 19, 20, 21, 22, 23, 24, 25, 26, 27, 38, 39, 40, 41, 42, 43, 44, 45, 46, 47, 48, 49, 50, 51, 52] (by decide +kernel) (by decide +kernel)
set_option maxRecDepth 20000 in
theorem gX3_keep_X1_takeOver : GoodIn wsX3_keep (wsV RX3 115 RX1 yX1_takeOver wsX1_takeOver) := goodIn_app (goodIn_of _ (by decide +kernel)) ggX3_keep_X1_takeOver
set_option maxRecDepth 20000 in
theorem ggX3_keep_X1_stepsSoFar : GoodIn wsX3_keep wsX1_stepsSoFar := goodIn_r _ [31, 23, 38, 39, 40, 41, 42, 43, 44, 45, 46, 47, 48, 49, 50, 51, 52] (by decide +kernel) (by decide +kernel)
set_option maxRecDepth 20000 in
theorem gX3_keep_X1_stepsSoFar : GoodIn wsX3_keep (wsV RX3 118 RX1 yX1_stepsSoFar wsX1_stepsSoFar) := goodIn_app (goodIn_of _ (by decide +kernel)) ggX3_keep_X1_stepsSoFar
theorem dX3_keep_0 : decode cX3_keep 0 = .ok (.aload_n 0, 1) := by decide +kernel
theorem dX3_keep_1 : decode cX3_keep 1 = .ok (.getfield 19, 3) := by decide +kernel
theorem dX3_keep_4 : decode cX3_keep 4 = .ok (.aload_n 0, 1) := by decide +kernel
theorem dX3_keep_5 : decode cX3_keep 5 = .ok (.getfield 12, 3) := by decide +kernel
theorem dX3_keep_8 : decode cX3_keep 8 = .ok (.invokevirtual 115, 3) := by decide +kernel
theorem dX3_keep_11 : decode cX3_keep 11 = .ok (.aload_n 0, 1) := by decide +kernel
theorem dX3_keep_12 : decode cX3_keep 12 = .ok (.iconst 1, 1) := by decide +kernel
theorem dX3_keep_13 : decode cX3_keep 13 = .ok (.putfield 36, 3) := by decide +kernel
theorem dX3_keep_16 : decode cX3_keep 16 = .ok (.aload_n 0, 1) := by decide +kernel
theorem dX3_keep_17 : decode cX3_keep 17 = .ok (.getfield 12, 3) := by decide +kernel
theorem dX3_keep_20 : decode cX3_keep 20 = .ok (.invokevirtual 118, 3) := by decide +kernel
theorem dX3_keep_23 : decode cX3_keep 23 = .ok (.ireturn, 1) := by decide +kernel
set_option maxRecDepth 20000 in
theorem ggX3_restore_X1_takeOver : GoodIn wsX3_restore wsX1_takeOver := goodIn_r _ [8, 9, 10, 11, 12, 13, 14, 15, 16, 17, 18, 19, 20, 21, 22, 23, 24, 25, 26, 27, 54, 55, 56, 57, 58, 59, 60, 61, 62, 63, 64, 65, 66, 67, 68] (by decide +kernel) (by decide +kernel)
set_option maxRecDepth 20000 in
theorem gX3_restore_X1_takeOver : GoodIn wsX3_restore (wsV RX3 115 RX1 yX1_takeOver wsX1_takeOver) := goodIn_app (goodIn_of _ (by decide +kernel)) ggX3_restore_X1_takeOver
set_option maxRecDepth 20000 in
theorem ggX3_restore_X1_stepsSoFar : GoodIn wsX3_restore wsX1_stepsSoFar := goodIn_r _ [31, 23, 54, 55, 56, 57, 58, 59, 60, 61, 62, 63, 64, 65, 66, 67, 68] (by decide +kernel) (by decide +kernel)
set_option maxRecDepth 20000 in
theorem gX3_restore_X1_stepsSoFar : GoodIn wsX3_restore (wsV RX3 118 RX1 yX1_stepsSoFar wsX1_stepsSoFar) := goodIn_app (goodIn_of _ (by decide +kernel)) ggX3_restore_X1_stepsSoFar
set_option maxRecDepth 20000 in
theorem ggX3_restore_X3_settle : GoodIn wsX3_restore wsX3_settle := goodIn_r _ [36, 37, 38, 2, 39, 40, 41, 42, 43, 44, 45, 46, 47, 5, 6, 7, 8, 9, 10, 11, 12, 13, 14, 15, 16, 17, 18, 19, 20, 21, 22, 23, 24, 25, 26, 27, 4, 48, 49, 50, 51, 52, 53, 69, 70, 71, 54, 55, 56, 57, 58, 59, 60, 61, 62, 63, 64, 65, 66, 67, 68] (by decide +kernel) (by decide +kernel)
set_option maxRecDepth 20000 in
theorem gX3_restore_X3_settle : GoodIn wsX3_restore (wsV RX3 47 RX3 yX3_settle wsX3_settle) := goodIn_app (goodIn_of _ (by decide +kernel)) ggX3_restore_X3_settle
theorem dX3_restore_0 : decode cX3_restore 0 = .ok (.aload_n 0, 1) := by decide +kernel
theorem dX3_restore_1 : decode cX3_restore 1 = .ok (.getfield 36, 3) := by decide +kernel
theorem dX3_restore_4 : decode cX3_restore 4 = .ok (.ifCond .ne 6, 3) := by decide +kernel
theorem dX3_restore_7 : decode cX3_restore 7 = .ok (.bipush (-5), 2) := by decide +kernel
theorem dX3_restore_9 : decode cX3_restore 9 = .ok (.ireturn, 1) := by decide +kernel
theorem dX3_restore_10 : decode cX3_restore 10 = .ok (.aload_n 0, 1) := by decide +kernel
theorem dX3_restore_11 : decode cX3_restore 11 = .ok (.getfield 16, 3) := by decide +kernel
theorem dX3_restore_14 : decode cX3_restore 14 = .ok (.aload_n 0, 1) := by decide +kernel
theorem dX3_restore_15 : decode cX3_restore 15 = .ok (.getfield 19, 3) := by decide +kernel
theorem dX3_restore_18 : decode cX3_restore 18 = .ok (.invokevirtual 115, 3) := by decide +kernel
theorem dX3_restore_21 : decode cX3_restore 21 = .ok (.aload_n 0, 1) := by decide +kernel
theorem dX3_restore_22 : decode cX3_restore 22 = .ok (.aload_n 0, 1) := by decide +kernel
theorem dX3_restore_23 : decode cX3_restore 23 = .ok (.getfield 16, 3) := by decide +kernel
theorem dX3_restore_26 : decode cX3_restore 26 = .ok (.invokevirtual 118, 3) := by decide +kernel
theorem dX3_restore_29 : decode cX3_restore 29 = .ok (.invokevirtual 47, 3) := by decide +kernel
theorem dX3_restore_32 : decode cX3_restore 32 = .ok (.ireturn, 1) := by decide +kernel
set_option maxRecDepth 20000 in
theorem ggX3_address_X1_isAddress : GoodIn wsX3_address wsX1_isAddress := goodIn_r _ [6, 7, 8, 9, 10, 11, 12, 13, 14, 73, 74, 75, 76, 77, 78, 79, 80, 81, 82, 83, 84, 85, 86, 87] (by decide +kernel) (by decide +kernel)
set_option maxRecDepth 20000 in
theorem gX3_address_X1_isAddress : GoodIn wsX3_address (wsV RX3 67 RX1 yX1_isAddress wsX1_isAddress) := goodIn_app (goodIn_of _ (by decide +kernel)) ggX3_address_X1_isAddress
set_option maxRecDepth 20000 in
theorem ggX3_address_X1_tellAddress : GoodIn wsX3_address wsX1_tellAddress := goodIn_r _ [18, 19, 20, 21, 22, 23, 24, 5, 25, 26, 27, 28, 29, 30, 31, 32, 33, 13, 9, 14, 34, 35, 36, 37, 38, 39, 40, 41, 7, 42, 43, 11, 12, 44, 45, 46, 47, 48, 49, 50, 51, 52, 53, 54, 55, 56, 57, 58, 59, 60, 61, 62, 63, 64, 65, 66, 73, 74, 75, 76, 77, 78, 79, 80, 81, 82, 83, 84, 85, 86, 87] (by decide +kernel) (by decide +kernel)
set_option maxRecDepth 20000 in
theorem gX3_address_X1_tellAddress : GoodIn wsX3_address (wsV RX3 121 RX1 yX1_tellAddress wsX1_tellAddress) := goodIn_app (goodIn_of _ (by decide +kernel)) ggX3_address_X1_tellAddress
theorem dX3_address_0 : decode cX3_address 0 = .ok (.aload_n 0, 1) := by decide +kernel
theorem dX3_address_1 : decode cX3_address 1 = .ok (.getfield 12, 3) := by decide +kernel
theorem dX3_address_4 : decode cX3_address 4 = .ok (.iload_n 1, 1) := by decide +kernel
theorem dX3_address_5 : decode cX3_address 5 = .ok (.invokevirtual 67, 3) := by decide +kernel
theorem dX3_address_8 : decode cX3_address 8 = .ok (.ifCond .eq 15, 3) := by decide +kernel
theorem dX3_address_11 : decode cX3_address 11 = .ok (.aload_n 0, 1) := by decide +kernel
theorem dX3_address_12 : decode cX3_address 12 = .ok (.getfield 12, 3) := by decide +kernel
theorem dX3_address_15 : decode cX3_address 15 = .ok (.iload_n 1, 1) := by decide +kernel
theorem dX3_address_16 : decode cX3_address 16 = .ok (.iload_n 2, 1) := by decide +kernel
theorem dX3_address_17 : decode cX3_address 17 = .ok (.invokevirtual 121, 3) := by decide +kernel
theorem dX3_address_20 : decode cX3_address 20 = .ok (.goto 4, 3) := by decide +kernel
theorem dX3_address_23 : decode cX3_address 23 = .ok (.iconst (-1), 1) := by decide +kernel
theorem dX3_address_24 : decode cX3_address 24 = .ok (.ireturn, 1) := by decide +kernel
set_option maxRecDepth 20000 in
theorem ggX3_sector_X3_isSector : GoodIn wsX3_sector wsX3_isSector := goodIn_r _ [5] (by decide +kernel) (by decide +kernel)
set_option maxRecDepth 20000 in
theorem gX3_sector_X3_isSector : GoodIn wsX3_sector (va_wsS RX3 124 yX3_isSector wsX3_isSector) := goodIn_app (goodIn_of _ (by decide +kernel)) ggX3_sector_X3_isSector
set_option maxRecDepth 20000 in
theorem ggX3_sector_X1_tellSector : GoodIn wsX3_sector wsX1_tellSector := goodIn_r _ [10, 11, 12, 13, 14, 15, 9, 16, 17, 18, 19, 20, 21, 22, 23, 24, 25, 26, 27, 28, 29, 30, 3, 4, 5, 31, 32, 33, 34, 35, 36, 37, 38, 39, 46, 47, 48, 49, 50, 51, 52, 53, 54, 55, 56, 57, 58, 59, 60] (by decide +kernel) (by decide +kernel)
set_option maxRecDepth 20000 in
theorem gX3_sector_X1_tellSector : GoodIn wsX3_sector (wsV RX3 127 RX1 yX1_tellSector wsX1_tellSector) := goodIn_app (goodIn_of _ (by decide +kernel)) ggX3_sector_X1_tellSector
theorem dX3_sector_0 : decode cX3_sector 0 = .ok (.iload_n 1, 1) := by decide +kernel
theorem dX3_sector_1 : decode cX3_sector 1 = .ok (.invokestatic 124, 3) := by decide +kernel
theorem dX3_sector_4 : decode cX3_sector 4 = .ok (.ifCond .eq 15, 3) := by decide +kernel
theorem dX3_sector_7 : decode cX3_sector 7 = .ok (.aload_n 0, 1) := by decide +kernel
theorem dX3_sector_8 : decode cX3_sector 8 = .ok (.getfield 12, 3) := by decide +kernel
theorem dX3_sector_11 : decode cX3_sector 11 = .ok (.iload_n 1, 1) := by decide +kernel
theorem dX3_sector_12 : decode cX3_sector 12 = .ok (.iload_n 2, 1) := by decide +kernel
theorem dX3_sector_13 : decode cX3_sector 13 = .ok (.invokevirtual 127, 3) := by decide +kernel
theorem dX3_sector_16 : decode cX3_sector 16 = .ok (.goto 4, 3) := by decide +kernel
theorem dX3_sector_19 : decode cX3_sector 19 = .ok (.iconst (-1), 1) := by decide +kernel
theorem dX3_sector_20 : decode cX3_sector 20 = .ok (.ireturn, 1) := by decide +kernel
set_option maxRecDepth 20000 in
theorem ggX3_head_X3_isHead : GoodIn wsX3_head wsX3_isHead := goodIn_r _ [5] (by decide +kernel) (by decide +kernel)
set_option maxRecDepth 20000 in
theorem gX3_head_X3_isHead : GoodIn wsX3_head (va_wsS RX3 50 yX3_isHead wsX3_isHead) := goodIn_app (goodIn_of _ (by decide +kernel)) ggX3_head_X3_isHead
set_option maxRecDepth 20000 in
theorem ggX3_head_X1_tellHead : GoodIn wsX3_head wsX1_tellHead := goodIn_r _ [10, 11, 12, 13, 14, 15, 16, 17, 18, 9, 19, 20, 21, 22, 23, 24, 4, 25, 26, 27, 28, 29, 30, 31, 32, 33, 34, 35, 36, 37, 38, 39, 40, 41, 42, 43, 44, 45, 46, 47, 48, 49, 50, 51, 52, 53, 54, 55, 56, 57, 58, 59, 60, 61, 68, 69, 70, 71, 72, 73, 74, 75, 76, 77, 78, 79, 80, 81, 82] (by decide +kernel) (by decide +kernel)
set_option maxRecDepth 20000 in
theorem gX3_head_X1_tellHead : GoodIn wsX3_head (wsV RX3 130 RX1 yX1_tellHead wsX1_tellHead) := goodIn_app (goodIn_of _ (by decide +kernel)) ggX3_head_X1_tellHead
theorem dX3_head_0 : decode cX3_head 0 = .ok (.iload_n 1, 1) := by decide +kernel
theorem dX3_head_1 : decode cX3_head 1 = .ok (.invokestatic 50, 3) := by decide +kernel
theorem dX3_head_4 : decode cX3_head 4 = .ok (.ifCond .eq 15, 3) := by decide +kernel
theorem dX3_head_7 : decode cX3_head 7 = .ok (.aload_n 0, 1) := by decide +kernel
theorem dX3_head_8 : decode cX3_head 8 = .ok (.getfield 12, 3) := by decide +kernel
theorem dX3_head_11 : decode cX3_head 11 = .ok (.iload_n 1, 1) := by decide +kernel
theorem dX3_head_12 : decode cX3_head 12 = .ok (.iload_n 2, 1) := by decide +kernel
theorem dX3_head_13 : decode cX3_head 13 = .ok (.invokevirtual 130, 3) := by decide +kernel
theorem dX3_head_16 : decode cX3_head 16 = .ok (.goto 4, 3) := by decide +kernel
theorem dX3_head_19 : decode cX3_head 19 = .ok (.iconst (-1), 1) := by decide +kernel
theorem dX3_head_20 : decode cX3_head 20 = .ok (.ireturn, 1) := by decide +kernel
set_option maxRecDepth 20000 in
theorem ggX3_readsLeft_X1_readsUntilChange : GoodIn wsX3_readsLeft wsX1_readsUntilChange := goodIn_r _ [6, 7, 8, 9, 10, 11, 12, 13, 5, 14, 15, 16, 17, 18, 19, 20, 21, 22, 23, 24, 25, 26, 27, 28, 29, 30, 31, 32, 33, 34, 35, 36, 37, 38, 39, 40, 41, 42, 43, 44, 45, 46, 47, 48, 55, 56, 57, 58, 59, 60, 61, 62, 63, 64, 65, 66, 67, 68, 69] (by decide +kernel) (by decide +kernel)
set_option maxRecDepth 20000 in
theorem gX3_readsLeft_X1_readsUntilChange : GoodIn wsX3_readsLeft (wsV RX3 133 RX1 yX1_readsUntilChange wsX1_readsUntilChange) := goodIn_app (goodIn_of _ (by decide +kernel)) ggX3_readsLeft_X1_readsUntilChange
theorem dX3_readsLeft_0 : decode cX3_readsLeft 0 = .ok (.aload_n 0, 1) := by decide +kernel
theorem dX3_readsLeft_1 : decode cX3_readsLeft 1 = .ok (.getfield 12, 3) := by decide +kernel
theorem dX3_readsLeft_4 : decode cX3_readsLeft 4 = .ok (.iload_n 1, 1) := by decide +kernel
theorem dX3_readsLeft_5 : decode cX3_readsLeft 5 = .ok (.invokevirtual 133, 3) := by decide +kernel
theorem dX3_readsLeft_8 : decode cX3_readsLeft 8 = .ok (.ireturn, 1) := by decide +kernel
set_option maxRecDepth 20000 in
theorem ggX3_wouldLose_X3_isHead : GoodIn wsX3_wouldLose wsX3_isHead := goodIn_r _ [6] (by decide +kernel) (by decide +kernel)
set_option maxRecDepth 20000 in
theorem gX3_wouldLose_X3_isHead : GoodIn wsX3_wouldLose (va_wsS RX3 50 yX3_isHead wsX3_isHead) := goodIn_app (goodIn_of _ (by decide +kernel)) ggX3_wouldLose_X3_isHead
set_option maxRecDepth 20000 in
theorem ggX3_wouldLose_X1_isGivenUp : GoodIn wsX3_wouldLose wsX1_isGivenUp := goodIn_r _ [11, 12, 103, 104, 105, 106, 107, 108, 109, 110, 111, 112, 113, 114, 115, 116, 117] (by decide +kernel) (by decide +kernel)
set_option maxRecDepth 20000 in
theorem gX3_wouldLose_X1_isGivenUp : GoodIn wsX3_wouldLose (wsV RX3 96 RX1 yX1_isGivenUp wsX1_isGivenUp) := goodIn_app (goodIn_of _ (by decide +kernel)) ggX3_wouldLose_X1_isGivenUp
set_option maxRecDepth 20000 in
theorem ggX3_wouldLose_X3_startTrial : GoodIn wsX3_wouldLose wsX3_startTrial := goodIn_r _ [16, 2, 1, 17, 18, 19, 10, 20, 21, 22, 23, 24, 25, 26, 27, 12, 28, 29, 30, 31, 32, 33, 34, 35, 36, 37, 38, 97, 98, 99, 100, 101, 102, 103, 104, 105, 106, 107, 108, 109, 110, 111, 112, 113, 114, 115, 116, 117] (by decide +kernel) (by decide +kernel)
set_option maxRecDepth 20000 in
theorem gX3_wouldLose_X3_startTrial : GoodIn wsX3_wouldLose (wsV RX3 40 RX3 yX3_startTrial wsX3_startTrial) := goodIn_app (goodIn_of _ (by decide +kernel)) ggX3_wouldLose_X3_startTrial
set_option maxRecDepth 20000 in
theorem ggX3_wouldLose_X1_vacate : GoodIn wsX3_wouldLose wsX1_vacate := goodIn_r _ [42, 36, 12, 31, 43, 44, 45, 10, 46, 27, 47, 5, 48, 49, 50, 51, 52, 53, 54, 55, 56, 57, 58, 59, 60, 61, 62, 63, 64, 65, 66, 67, 68, 69, 70, 71, 72, 32, 73, 74, 75, 76, 28, 21, 77, 78, 79, 80, 81, 82, 83, 84, 85, 86, 87, 88, 89, 90, 91, 92, 93, 94, 95, 96, 22, 103, 104, 105, 106, 107, 108, 109, 110, 111, 112, 113, 114, 115, 116, 117] (by decide +kernel) (by decide +kernel)
set_option maxRecDepth 20000 in
theorem gX3_wouldLose_X1_vacate : GoodIn wsX3_wouldLose (wsV RX3 99 RX1 yX1_vacate wsX1_vacate) := goodIn_app (goodIn_of _ (by decide +kernel)) ggX3_wouldLose_X1_vacate
theorem dX3_wouldLose_0 : decode cX3_wouldLose 0 = .ok (.iload_n 1, 1) := by decide +kernel
theorem dX3_wouldLose_1 : decode cX3_wouldLose 1 = .ok (.invokestatic 50, 3) := by decide +kernel
theorem dX3_wouldLose_4 : decode cX3_wouldLose 4 = .ok (.ifCond .ne 5, 3) := by decide +kernel
theorem dX3_wouldLose_7 : decode cX3_wouldLose 7 = .ok (.iconst (-1), 1) := by decide +kernel
theorem dX3_wouldLose_8 : decode cX3_wouldLose 8 = .ok (.ireturn, 1) := by decide +kernel
theorem dX3_wouldLose_9 : decode cX3_wouldLose 9 = .ok (.aload_n 0, 1) := by decide +kernel
theorem dX3_wouldLose_10 : decode cX3_wouldLose 10 = .ok (.getfield 12, 3) := by decide +kernel
theorem dX3_wouldLose_13 : decode cX3_wouldLose 13 = .ok (.iload_n 1, 1) := by decide +kernel
theorem dX3_wouldLose_14 : decode cX3_wouldLose 14 = .ok (.invokevirtual 96, 3) := by decide +kernel
theorem dX3_wouldLose_17 : decode cX3_wouldLose 17 = .ok (.ifCond .eq 6, 3) := by decide +kernel
theorem dX3_wouldLose_20 : decode cX3_wouldLose 20 = .ok (.bipush (-5), 2) := by decide +kernel
theorem dX3_wouldLose_22 : decode cX3_wouldLose 22 = .ok (.ireturn, 1) := by decide +kernel
theorem dX3_wouldLose_23 : decode cX3_wouldLose 23 = .ok (.aload_n 0, 1) := by decide +kernel
theorem dX3_wouldLose_24 : decode cX3_wouldLose 24 = .ok (.invokevirtual 40, 3) := by decide +kernel
theorem dX3_wouldLose_27 : decode cX3_wouldLose 27 = .ok (.aload_n 0, 1) := by decide +kernel
theorem dX3_wouldLose_28 : decode cX3_wouldLose 28 = .ok (.getfield 16, 3) := by decide +kernel
theorem dX3_wouldLose_31 : decode cX3_wouldLose 31 = .ok (.iload_n 1, 1) := by decide +kernel
theorem dX3_wouldLose_32 : decode cX3_wouldLose 32 = .ok (.invokevirtual 99, 3) := by decide +kernel
theorem dX3_wouldLose_35 : decode cX3_wouldLose 35 = .ok (.ireturn, 1) := by decide +kernel
set_option maxRecDepth 20000 in
theorem ggX3_worst_X1_addressOfRank : GoodIn wsX3_worst wsX1_addressOfRank := goodIn_r _ [6, 7, 8, 9, 5, 10, 11, 12, 13, 14, 15, 16, 17, 18, 19, 20, 21, 22, 23, 24, 25, 26, 27, 28, 29, 30, 31, 32, 39, 40, 41, 42, 43, 44, 45, 46, 47, 48, 49, 50, 51, 52, 53] (by decide +kernel) (by decide +kernel)
set_option maxRecDepth 20000 in
theorem gX3_worst_X1_addressOfRank : GoodIn wsX3_worst (wsV RX3 136 RX1 yX1_addressOfRank wsX1_addressOfRank) := goodIn_app (goodIn_of _ (by decide +kernel)) ggX3_worst_X1_addressOfRank
theorem dX3_worst_0 : decode cX3_worst 0 = .ok (.iload_n 1, 1) := by decide +kernel
theorem dX3_worst_1 : decode cX3_worst 1 = .ok (.ifCond .ge 8, 3) := by decide +kernel
theorem dX3_worst_4 : decode cX3_worst 4 = .ok (.bipush (-2), 2) := by decide +kernel
theorem dX3_worst_6 : decode cX3_worst 6 = .ok (.goto 11, 3) := by decide +kernel
theorem dX3_worst_9 : decode cX3_worst 9 = .ok (.aload_n 0, 1) := by decide +kernel
theorem dX3_worst_10 : decode cX3_worst 10 = .ok (.getfield 12, 3) := by decide +kernel
theorem dX3_worst_13 : decode cX3_worst 13 = .ok (.iload_n 1, 1) := by decide +kernel
theorem dX3_worst_14 : decode cX3_worst 14 = .ok (.invokevirtual 136, 3) := by decide +kernel
theorem dX3_worst_17 : decode cX3_worst 17 = .ok (.ireturn, 1) := by decide +kernel
set_option maxRecDepth 20000 in
theorem ggX3_count_X2_states : GoodIn wsX3_count wsX2_states := goodIn_r _ [8, 9, 107, 108, 109] (by decide +kernel) (by decide +kernel)
set_option maxRecDepth 20000 in
theorem gX3_count_X2_states : GoodIn wsX3_count (wsV RX3 108 RX2 yX2_states wsX2_states) := goodIn_app (goodIn_of _ (by decide +kernel)) ggX3_count_X2_states
set_option maxRecDepth 20000 in
theorem ggX3_count_X0_length : GoodIn wsX3_count wsX0_length := goodIn_r _ [14, 15, 110, 111, 112, 113, 114, 115] (by decide +kernel) (by decide +kernel)
set_option maxRecDepth 20000 in
theorem gX3_count_X0_length : GoodIn wsX3_count (wsV RX3 139 RX0 yX0_length wsX0_length) := goodIn_app (goodIn_of _ (by decide +kernel)) ggX3_count_X0_length
set_option maxRecDepth 20000 in
theorem ggX3_count_X1_tellWhole : GoodIn wsX3_count wsX1_tellWhole := goodIn_r _ [20, 21, 22, 23, 24, 25, 26, 27, 28, 29, 30, 19, 31, 32, 33, 34, 35, 36, 37, 38, 39, 40, 41, 42, 43, 44, 45, 46, 47, 48, 49, 50, 51, 52, 53, 54, 55, 56, 57, 58, 59, 60, 61, 62, 63, 64, 65, 66, 67, 68, 69, 70, 71, 72, 73, 74, 75, 76, 77, 78, 79, 80, 81, 82, 83, 84, 85, 86, 87, 88, 89, 90, 91, 92, 93, 94, 95, 96, 97, 98, 99, 100, 116, 117, 118, 119, 120, 121, 122, 123, 124, 125, 126, 127, 128, 129, 130] (by decide +kernel) (by decide +kernel)
set_option maxRecDepth 20000 in
theorem gX3_count_X1_tellWhole : GoodIn wsX3_count (wsV RX3 142 RX1 yX1_tellWhole wsX1_tellWhole) := goodIn_app (goodIn_of _ (by decide +kernel)) ggX3_count_X1_tellWhole
theorem dX3_count_0 : decode cX3_count 0 = .ok (.iload_n 1, 1) := by decide +kernel
theorem dX3_count_1 : decode cX3_count 1 = .ok (.lookupswitch 43 #[(12, 27), (13, 35)], 27) := by decide +kernel
theorem dX3_count_28 : decode cX3_count 28 = .ok (.aload_n 0, 1) := by decide +kernel
theorem dX3_count_29 : decode cX3_count 29 = .ok (.getfield 25, 3) := by decide +kernel
theorem dX3_count_32 : decode cX3_count 32 = .ok (.invokevirtual 108, 3) := by decide +kernel
theorem dX3_count_35 : decode cX3_count 35 = .ok (.ireturn, 1) := by decide +kernel
theorem dX3_count_36 : decode cX3_count 36 = .ok (.aload_n 0, 1) := by decide +kernel
theorem dX3_count_37 : decode cX3_count 37 = .ok (.getfield 32, 3) := by decide +kernel
theorem dX3_count_40 : decode cX3_count 40 = .ok (.invokevirtual 139, 3) := by decide +kernel
theorem dX3_count_43 : decode cX3_count 43 = .ok (.ireturn, 1) := by decide +kernel
theorem dX3_count_44 : decode cX3_count 44 = .ok (.aload_n 0, 1) := by decide +kernel
theorem dX3_count_45 : decode cX3_count 45 = .ok (.getfield 12, 3) := by decide +kernel
theorem dX3_count_48 : decode cX3_count 48 = .ok (.iload_n 1, 1) := by decide +kernel
theorem dX3_count_49 : decode cX3_count 49 = .ok (.invokevirtual 142, 3) := by decide +kernel
theorem dX3_count_52 : decode cX3_count 52 = .ok (.ireturn, 1) := by decide +kernel
set_option maxRecDepth 20000 in
theorem ggX3_startTrial_X1_takeOver : GoodIn wsX3_startTrial wsX1_takeOver := goodIn_r _ [7, 8, 9, 10, 11, 12, 13, 14, 15, 16, 17, 18, 19, 20, 21, 22, 23, 24, 25, 26, 33, 34, 35, 36, 37, 38, 39, 40, 41, 42, 43, 44, 45, 46, 47] (by decide +kernel) (by decide +kernel)
set_option maxRecDepth 20000 in
theorem gX3_startTrial_X1_takeOver : GoodIn wsX3_startTrial (wsV RX3 115 RX1 yX1_takeOver wsX1_takeOver) := goodIn_app (goodIn_of _ (by decide +kernel)) ggX3_startTrial_X1_takeOver
theorem dX3_startTrial_0 : decode cX3_startTrial 0 = .ok (.aload_n 0, 1) := by decide +kernel
theorem dX3_startTrial_1 : decode cX3_startTrial 1 = .ok (.getfield 16, 3) := by decide +kernel
theorem dX3_startTrial_4 : decode cX3_startTrial 4 = .ok (.aload_n 0, 1) := by decide +kernel
theorem dX3_startTrial_5 : decode cX3_startTrial 5 = .ok (.getfield 12, 3) := by decide +kernel
theorem dX3_startTrial_8 : decode cX3_startTrial 8 = .ok (.invokevirtual 115, 3) := by decide +kernel
theorem dX3_startTrial_11 : decode cX3_startTrial 11 = .ok (.return_, 1) := by decide +kernel
set_option maxRecDepth 20000 in
theorem ggX3_settle_X2_record : GoodIn wsX3_settle wsX2_record := goodIn_r _ [8, 9, 10, 11, 12, 13, 14, 15, 16, 17, 18, 19, 20, 21, 22, 23, 24, 25, 26, 27, 28, 29, 30, 31, 32, 33, 34, 35, 43, 44, 45, 46, 47, 48, 49, 50, 51, 52, 53, 54, 55, 56, 57, 58, 59, 60] (by decide +kernel) (by decide +kernel)
set_option maxRecDepth 20000 in
theorem gX3_settle_X2_record : GoodIn wsX3_settle (wsV RX3 145 RX2 yX2_record wsX2_record) := goodIn_app (goodIn_of _ (by decide +kernel)) ggX3_settle_X2_record
set_option maxRecDepth 20000 in
theorem ggX3_settle_X1_takeOver : GoodIn wsX3_settle wsX1_takeOver := goodIn_r _ [16, 17, 18, 19, 20, 21, 22, 23, 24, 25, 26, 27, 28, 29, 30, 31, 32, 33, 34, 35, 46, 47, 48, 49, 50, 51, 52, 53, 54, 55, 56, 57, 58, 59, 60] (by decide +kernel) (by decide +kernel)
set_option maxRecDepth 20000 in
theorem gX3_settle_X1_takeOver : GoodIn wsX3_settle (wsV RX3 115 RX1 yX1_takeOver wsX1_takeOver) := goodIn_app (goodIn_of _ (by decide +kernel)) ggX3_settle_X1_takeOver
theorem dX3_settle_0 : decode cX3_settle 0 = .ok (.iload_n 1, 1) := by decide +kernel
theorem dX3_settle_1 : decode cX3_settle 1 = .ok (.ifCond .lt 25, 3) := by decide +kernel
theorem dX3_settle_4 : decode cX3_settle 4 = .ok (.aload_n 0, 1) := by decide +kernel
theorem dX3_settle_5 : decode cX3_settle 5 = .ok (.getfield 25, 3) := by decide +kernel
theorem dX3_settle_8 : decode cX3_settle 8 = .ok (.aload_n 0, 1) := by decide +kernel
theorem dX3_settle_9 : decode cX3_settle 9 = .ok (.getfield 12, 3) := by decide +kernel
theorem dX3_settle_12 : decode cX3_settle 12 = .ok (.invokevirtual 145, 3) := by decide +kernel
theorem dX3_settle_15 : decode cX3_settle 15 = .ok (.aload_n 0, 1) := by decide +kernel
theorem dX3_settle_16 : decode cX3_settle 16 = .ok (.getfield 12, 3) := by decide +kernel
theorem dX3_settle_19 : decode cX3_settle 19 = .ok (.aload_n 0, 1) := by decide +kernel
theorem dX3_settle_20 : decode cX3_settle 20 = .ok (.getfield 16, 3) := by decide +kernel
theorem dX3_settle_23 : decode cX3_settle 23 = .ok (.invokevirtual 115, 3) := by decide +kernel
theorem dX3_settle_26 : decode cX3_settle 26 = .ok (.iload_n 1, 1) := by decide +kernel
theorem dX3_settle_27 : decode cX3_settle 27 = .ok (.ireturn, 1) := by decide +kernel
theorem dX3_isHead_0 : decode cX3_isHead 0 = .ok (.iload_n 0, 1) := by decide +kernel
theorem dX3_isHead_1 : decode cX3_isHead 1 = .ok (.ifCond .lt 12, 3) := by decide +kernel
theorem dX3_isHead_4 : decode cX3_isHead 4 = .ok (.iload_n 0, 1) := by decide +kernel
theorem dX3_isHead_5 : decode cX3_isHead 5 = .ok (.iconst 4, 1) := by decide +kernel
theorem dX3_isHead_6 : decode cX3_isHead 6 = .ok (.if_icmp .ge 7, 3) := by decide +kernel
theorem dX3_isHead_9 : decode cX3_isHead 9 = .ok (.iconst 1, 1) := by decide +kernel
theorem dX3_isHead_10 : decode cX3_isHead 10 = .ok (.goto 4, 3) := by decide +kernel
theorem dX3_isHead_13 : decode cX3_isHead 13 = .ok (.iconst 0, 1) := by decide +kernel
theorem dX3_isHead_14 : decode cX3_isHead 14 = .ok (.ireturn, 1) := by decide +kernel
theorem dX3_isSector_0 : decode cX3_isSector 0 = .ok (.iload_n 0, 1) := by decide +kernel
theorem dX3_isSector_1 : decode cX3_isSector 1 = .ok (.ifCond .lt 13, 3) := by decide +kernel
theorem dX3_isSector_4 : decode cX3_isSector 4 = .ok (.iload_n 0, 1) := by decide +kernel
theorem dX3_isSector_5 : decode cX3_isSector 5 = .ok (.bipush 64, 2) := by decide +kernel
theorem dX3_isSector_7 : decode cX3_isSector 7 = .ok (.if_icmp .ge 7, 3) := by decide +kernel
theorem dX3_isSector_10 : decode cX3_isSector 10 = .ok (.iconst 1, 1) := by decide +kernel
theorem dX3_isSector_11 : decode cX3_isSector 11 = .ok (.goto 4, 3) := by decide +kernel
theorem dX3_isSector_14 : decode cX3_isSector 14 = .ok (.iconst 0, 1) := by decide +kernel
theorem dX3_isSector_15 : decode cX3_isSector 15 = .ok (.ireturn, 1) := by decide +kernel
theorem dX3_headOf_0 : decode cX3_headOf 0 = .ok (.iload_n 0, 1) := by decide +kernel
theorem dX3_headOf_1 : decode cX3_headOf 1 = .ok (.bipush 16, 2) := by decide +kernel
theorem dX3_headOf_3 : decode cX3_headOf 3 = .ok (.idiv, 1) := by decide +kernel
theorem dX3_headOf_4 : decode cX3_headOf 4 = .ok (.ireturn, 1) := by decide +kernel
theorem dX3_placeOf_0 : decode cX3_placeOf 0 = .ok (.iload_n 0, 1) := by decide +kernel
theorem dX3_placeOf_1 : decode cX3_placeOf 1 = .ok (.bipush 16, 2) := by decide +kernel
theorem dX3_placeOf_3 : decode cX3_placeOf 3 = .ok (.irem, 1) := by decide +kernel
theorem dX3_placeOf_4 : decode cX3_placeOf 4 = .ok (.ireturn, 1) := by decide +kernel
set_option maxRecDepth 20000 in
theorem ggX3_stepsBetween_X3_placeOf : GoodIn wsX3_stepsBetween wsX3_placeOf := goodIn_r _ [8] (by decide +kernel) (by decide +kernel)
set_option maxRecDepth 20000 in
theorem gX3_stepsBetween_X3_placeOf : GoodIn wsX3_stepsBetween (va_wsS RX3 148 yX3_placeOf wsX3_placeOf) := goodIn_app (goodIn_of _ (by decide +kernel)) ggX3_stepsBetween_X3_placeOf
set_option maxRecDepth 20000 in
theorem ggX3_stepsBetween_X3_headOf : GoodIn wsX3_stepsBetween wsX3_headOf := goodIn_r _ [11] (by decide +kernel) (by decide +kernel)
set_option maxRecDepth 20000 in
theorem gX3_stepsBetween_X3_headOf : GoodIn wsX3_stepsBetween (va_wsS RX3 156 yX3_headOf wsX3_headOf) := goodIn_app (goodIn_of _ (by decide +kernel)) ggX3_stepsBetween_X3_headOf
theorem dX3_stepsBetween_0 : decode cX3_stepsBetween 0 = .ok (.iload_n 0, 1) := by decide +kernel
theorem dX3_stepsBetween_1 : decode cX3_stepsBetween 1 = .ok (.invokestatic 148, 3) := by decide +kernel
theorem dX3_stepsBetween_4 : decode cX3_stepsBetween 4 = .ok (.iload_n 1, 1) := by decide +kernel
theorem dX3_stepsBetween_5 : decode cX3_stepsBetween 5 = .ok (.invokestatic 148, 3) := by decide +kernel
theorem dX3_stepsBetween_8 : decode cX3_stepsBetween 8 = .ok (.isub, 1) := by decide +kernel
theorem dX3_stepsBetween_9 : decode cX3_stepsBetween 9 = .ok (.invokestatic 151, 3) := by decide +kernel
theorem dX3_stepsBetween_12 : decode cX3_stepsBetween 12 = .ok (.istore_n 2, 1) := by decide +kernel
theorem dX3_stepsBetween_13 : decode cX3_stepsBetween 13 = .ok (.iload_n 0, 1) := by decide +kernel
theorem dX3_stepsBetween_14 : decode cX3_stepsBetween 14 = .ok (.invokestatic 156, 3) := by decide +kernel
theorem dX3_stepsBetween_17 : decode cX3_stepsBetween 17 = .ok (.iload_n 1, 1) := by decide +kernel
theorem dX3_stepsBetween_18 : decode cX3_stepsBetween 18 = .ok (.invokestatic 156, 3) := by decide +kernel
theorem dX3_stepsBetween_21 : decode cX3_stepsBetween 21 = .ok (.if_icmp .ne 7, 3) := by decide +kernel
theorem dX3_stepsBetween_24 : decode cX3_stepsBetween 24 = .ok (.iload_n 2, 1) := by decide +kernel
theorem dX3_stepsBetween_25 : decode cX3_stepsBetween 25 = .ok (.goto 6, 3) := by decide +kernel
theorem dX3_stepsBetween_28 : decode cX3_stepsBetween 28 = .ok (.iload_n 2, 1) := by decide +kernel
theorem dX3_stepsBetween_29 : decode cX3_stepsBetween 29 = .ok (.iconst 2, 1) := by decide +kernel
theorem dX3_stepsBetween_30 : decode cX3_stepsBetween 30 = .ok (.iadd, 1) := by decide +kernel
theorem dX3_stepsBetween_31 : decode cX3_stepsBetween 31 = .ok (.ireturn, 1) := by decide +kernel
theorem dX4_init_0 : decode cX4_init 0 = .ok (.aload_n 0, 1) := by decide +kernel
theorem dX4_init_1 : decode cX4_init 1 = .ok (.invokespecial 1, 3) := by decide +kernel
theorem dX4_init_4 : decode cX4_init 4 = .ok (.aload_n 0, 1) := by decide +kernel
theorem dX4_init_5 : decode cX4_init 5 = .ok (.sipush 276, 3) := by decide +kernel
theorem dX4_init_8 : decode cX4_init 8 = .ok (.newarray .int, 2) := by decide +kernel
theorem dX4_init_10 : decode cX4_init 10 = .ok (.putfield 7, 3) := by decide +kernel
theorem dX4_init_13 : decode cX4_init 13 = .ok (.aload_n 0, 1) := by decide +kernel
theorem dX4_init_14 : decode cX4_init 14 = .ok (.sipush 276, 3) := by decide +kernel
theorem dX4_init_17 : decode cX4_init 17 = .ok (.newarray .int, 2) := by decide +kernel
theorem dX4_init_19 : decode cX4_init 19 = .ok (.putfield 13, 3) := by decide +kernel
theorem dX4_init_22 : decode cX4_init 22 = .ok (.aload_n 0, 1) := by decide +kernel
theorem dX4_init_23 : decode cX4_init 23 = .ok (.sipush 276, 3) := by decide +kernel
theorem dX4_init_26 : decode cX4_init 26 = .ok (.newarray .int, 2) := by decide +kernel
theorem dX4_init_28 : decode cX4_init 28 = .ok (.putfield 16, 3) := by decide +kernel
theorem dX4_init_31 : decode cX4_init 31 = .ok (.aload_n 0, 1) := by decide +kernel
theorem dX4_init_32 : decode cX4_init 32 = .ok (.sipush 276, 3) := by decide +kernel
theorem dX4_init_35 : decode cX4_init 35 = .ok (.newarray .int, 2) := by decide +kernel
theorem dX4_init_37 : decode cX4_init 37 = .ok (.putfield 19, 3) := by decide +kernel
theorem dX4_init_40 : decode cX4_init 40 = .ok (.aload_n 0, 1) := by decide +kernel
theorem dX4_init_41 : decode cX4_init 41 = .ok (.sipush 1104, 3) := by decide +kernel
theorem dX4_init_44 : decode cX4_init 44 = .ok (.newarray .int, 2) := by decide +kernel
theorem dX4_init_46 : decode cX4_init 46 = .ok (.putfield 22, 3) := by decide +kernel
theorem dX4_init_49 : decode cX4_init 49 = .ok (.aload_n 0, 1) := by decide +kernel
theorem dX4_init_50 : decode cX4_init 50 = .ok (.bipush 60, 2) := by decide +kernel
theorem dX4_init_52 : decode cX4_init 52 = .ok (.newarray .int, 2) := by decide +kernel
theorem dX4_init_54 : decode cX4_init 54 = .ok (.putfield 25, 3) := by decide +kernel
theorem dX4_init_57 : decode cX4_init 57 = .ok (.aload_n 0, 1) := by decide +kernel
theorem dX4_init_58 : decode cX4_init 58 = .ok (.getfield 7, 3) := by decide +kernel
theorem dX4_init_61 : decode cX4_init 61 = .ok (.iconst 0, 1) := by decide +kernel
theorem dX4_init_62 : decode cX4_init 62 = .ok (.bipush 30, 2) := by decide +kernel
theorem dX4_init_64 : decode cX4_init 64 = .ok (.iastore, 1) := by decide +kernel
theorem dX4_init_65 : decode cX4_init 65 = .ok (.iconst 0, 1) := by decide +kernel
theorem dX4_init_66 : decode cX4_init 66 = .ok (.istore_n 1, 1) := by decide +kernel
theorem dX4_init_67 : decode cX4_init 67 = .ok (.iload_n 1, 1) := by decide +kernel
theorem dX4_init_68 : decode cX4_init 68 = .ok (.iconst 4, 1) := by decide +kernel
theorem dX4_init_69 : decode cX4_init 69 = .ok (.if_icmp .ge 31, 3) := by decide +kernel
theorem dX4_init_72 : decode cX4_init 72 = .ok (.aload_n 0, 1) := by decide +kernel
theorem dX4_init_73 : decode cX4_init 73 = .ok (.getfield 7, 3) := by decide +kernel
theorem dX4_init_76 : decode cX4_init 76 = .ok (.bipush 8, 2) := by decide +kernel
theorem dX4_init_78 : decode cX4_init 78 = .ok (.iload_n 1, 1) := by decide +kernel
theorem dX4_init_79 : decode cX4_init 79 = .ok (.iadd, 1) := by decide +kernel
theorem dX4_init_80 : decode cX4_init 80 = .ok (.iload_n 1, 1) := by decide +kernel
theorem dX4_init_81 : decode cX4_init 81 = .ok (.iconst 1, 1) := by decide +kernel
theorem dX4_init_82 : decode cX4_init 82 = .ok (.iadd, 1) := by decide +kernel
theorem dX4_init_83 : decode cX4_init 83 = .ok (.iastore, 1) := by decide +kernel
theorem dX4_init_84 : decode cX4_init 84 = .ok (.aload_n 0, 1) := by decide +kernel
theorem dX4_init_85 : decode cX4_init 85 = .ok (.getfield 7, 3) := by decide +kernel
theorem dX4_init_88 : decode cX4_init 88 = .ok (.bipush 12, 2) := by decide +kernel
theorem dX4_init_90 : decode cX4_init 90 = .ok (.iload_n 1, 1) := by decide +kernel
theorem dX4_init_91 : decode cX4_init 91 = .ok (.iadd, 1) := by decide +kernel
theorem dX4_init_92 : decode cX4_init 92 = .ok (.iconst 4, 1) := by decide +kernel
theorem dX4_init_93 : decode cX4_init 93 = .ok (.iastore, 1) := by decide +kernel
theorem dX4_init_94 : decode cX4_init 94 = .ok (.iinc 1 1, 3) := by decide +kernel
theorem dX4_init_97 : decode cX4_init 97 = .ok (.goto (-30), 3) := by decide +kernel
theorem dX4_init_100 : decode cX4_init 100 = .ok (.iconst 0, 1) := by decide +kernel
theorem dX4_init_101 : decode cX4_init 101 = .ok (.istore_n 1, 1) := by decide +kernel
theorem dX4_init_102 : decode cX4_init 102 = .ok (.iload_n 1, 1) := by decide +kernel
theorem dX4_init_103 : decode cX4_init 103 = .ok (.bipush 64, 2) := by decide +kernel
theorem dX4_init_105 : decode cX4_init 105 = .ok (.if_icmp .ge 20, 3) := by decide +kernel
theorem dX4_init_108 : decode cX4_init 108 = .ok (.aload_n 0, 1) := by decide +kernel
theorem dX4_init_109 : decode cX4_init 109 = .ok (.getfield 7, 3) := by decide +kernel
theorem dX4_init_112 : decode cX4_init 112 = .ok (.sipush 148, 3) := by decide +kernel
theorem dX4_init_115 : decode cX4_init 115 = .ok (.iload_n 1, 1) := by decide +kernel
theorem dX4_init_116 : decode cX4_init 116 = .ok (.iadd, 1) := by decide +kernel
theorem dX4_init_117 : decode cX4_init 117 = .ok (.iload_n 1, 1) := by decide +kernel
theorem dX4_init_118 : decode cX4_init 118 = .ok (.iastore, 1) := by decide +kernel
theorem dX4_init_119 : decode cX4_init 119 = .ok (.iinc 1 1, 3) := by decide +kernel
theorem dX4_init_122 : decode cX4_init 122 = .ok (.goto (-20), 3) := by decide +kernel
theorem dX4_init_125 : decode cX4_init 125 = .ok (.return_, 1) := by decide +kernel
theorem dX4_in_0 : decode cX4_in 0 = .ok (.iload_n 0, 1) := by decide +kernel
theorem dX4_in_1 : decode cX4_in 1 = .ok (.iload_n 1, 1) := by decide +kernel
theorem dX4_in_2 : decode cX4_in 2 = .ok (.if_icmp .lt 12, 3) := by decide +kernel
theorem dX4_in_5 : decode cX4_in 5 = .ok (.iload_n 0, 1) := by decide +kernel
theorem dX4_in_6 : decode cX4_in 6 = .ok (.iload_n 2, 1) := by decide +kernel
theorem dX4_in_7 : decode cX4_in 7 = .ok (.if_icmp .gt 7, 3) := by decide +kernel
theorem dX4_in_10 : decode cX4_in 10 = .ok (.iconst 1, 1) := by decide +kernel
theorem dX4_in_11 : decode cX4_in 11 = .ok (.goto 4, 3) := by decide +kernel
theorem dX4_in_14 : decode cX4_in 14 = .ok (.iconst 0, 1) := by decide +kernel
theorem dX4_in_15 : decode cX4_in 15 = .ok (.ireturn, 1) := by decide +kernel
theorem dX4_copies_0 : decode cX4_copies 0 = .ok (.iconst 0, 1) := by decide +kernel
theorem dX4_copies_1 : decode cX4_copies 1 = .ok (.istore_n 2, 1) := by decide +kernel
theorem dX4_copies_2 : decode cX4_copies 2 = .ok (.iload_n 2, 1) := by decide +kernel
theorem dX4_copies_3 : decode cX4_copies 3 = .ok (.sipush 276, 3) := by decide +kernel
theorem dX4_copies_6 : decode cX4_copies 6 = .ok (.if_icmp .ge 15, 3) := by decide +kernel
theorem dX4_copies_9 : decode cX4_copies 9 = .ok (.aload_n 1, 1) := by decide +kernel
theorem dX4_copies_10 : decode cX4_copies 10 = .ok (.iload_n 2, 1) := by decide +kernel
theorem dX4_copies_11 : decode cX4_copies 11 = .ok (.aload_n 0, 1) := by decide +kernel
theorem dX4_copies_12 : decode cX4_copies 12 = .ok (.iload_n 2, 1) := by decide +kernel
theorem dX4_copies_13 : decode cX4_copies 13 = .ok (.iaload, 1) := by decide +kernel
theorem dX4_copies_14 : decode cX4_copies 14 = .ok (.iastore, 1) := by decide +kernel
theorem dX4_copies_15 : decode cX4_copies 15 = .ok (.iinc 2 1, 3) := by decide +kernel
theorem dX4_copies_18 : decode cX4_copies 18 = .ok (.goto (-16), 3) := by decide +kernel
theorem dX4_copies_21 : decode cX4_copies 21 = .ok (.return_, 1) := by decide +kernel
theorem dX4_record_0 : decode cX4_record 0 = .ok (.aload_n 0, 1) := by decide +kernel
theorem dX4_record_1 : decode cX4_record 1 = .ok (.getfield 28, 3) := by decide +kernel
theorem dX4_record_4 : decode cX4_record 4 = .ok (.iconst 4, 1) := by decide +kernel
theorem dX4_record_5 : decode cX4_record 5 = .ok (.if_icmp .ne 44, 3) := by decide +kernel
theorem dX4_record_8 : decode cX4_record 8 = .ok (.iconst 0, 1) := by decide +kernel
theorem dX4_record_9 : decode cX4_record 9 = .ok (.istore_n 2, 1) := by decide +kernel
theorem dX4_record_10 : decode cX4_record 10 = .ok (.iload_n 2, 1) := by decide +kernel
theorem dX4_record_11 : decode cX4_record 11 = .ok (.sipush 828, 3) := by decide +kernel
theorem dX4_record_14 : decode cX4_record 14 = .ok (.if_icmp .ge 25, 3) := by decide +kernel
theorem dX4_record_17 : decode cX4_record 17 = .ok (.aload_n 0, 1) := by decide +kernel
theorem dX4_record_18 : decode cX4_record 18 = .ok (.getfield 22, 3) := by decide +kernel
theorem dX4_record_21 : decode cX4_record 21 = .ok (.iload_n 2, 1) := by decide +kernel
theorem dX4_record_22 : decode cX4_record 22 = .ok (.aload_n 0, 1) := by decide +kernel
theorem dX4_record_23 : decode cX4_record 23 = .ok (.getfield 22, 3) := by decide +kernel
theorem dX4_record_26 : decode cX4_record 26 = .ok (.iload_n 2, 1) := by decide +kernel
theorem dX4_record_27 : decode cX4_record 27 = .ok (.sipush 276, 3) := by decide +kernel
theorem dX4_record_30 : decode cX4_record 30 = .ok (.iadd, 1) := by decide +kernel
theorem dX4_record_31 : decode cX4_record 31 = .ok (.iaload, 1) := by decide +kernel
theorem dX4_record_32 : decode cX4_record 32 = .ok (.iastore, 1) := by decide +kernel
theorem dX4_record_33 : decode cX4_record 33 = .ok (.iinc 2 1, 3) := by decide +kernel
theorem dX4_record_36 : decode cX4_record 36 = .ok (.goto (-26), 3) := by decide +kernel
theorem dX4_record_39 : decode cX4_record 39 = .ok (.aload_n 0, 1) := by decide +kernel
theorem dX4_record_40 : decode cX4_record 40 = .ok (.dup, 1) := by decide +kernel
theorem dX4_record_41 : decode cX4_record 41 = .ok (.getfield 28, 3) := by decide +kernel
theorem dX4_record_44 : decode cX4_record 44 = .ok (.iconst 1, 1) := by decide +kernel
theorem dX4_record_45 : decode cX4_record 45 = .ok (.isub, 1) := by decide +kernel
theorem dX4_record_46 : decode cX4_record 46 = .ok (.putfield 28, 3) := by decide +kernel
theorem dX4_record_49 : decode cX4_record 49 = .ok (.iconst 0, 1) := by decide +kernel
theorem dX4_record_50 : decode cX4_record 50 = .ok (.istore_n 2, 1) := by decide +kernel
theorem dX4_record_51 : decode cX4_record 51 = .ok (.iload_n 2, 1) := by decide +kernel
theorem dX4_record_52 : decode cX4_record 52 = .ok (.sipush 276, 3) := by decide +kernel
theorem dX4_record_55 : decode cX4_record 55 = .ok (.if_icmp .ge 27, 3) := by decide +kernel
theorem dX4_record_58 : decode cX4_record 58 = .ok (.aload_n 0, 1) := by decide +kernel
theorem dX4_record_59 : decode cX4_record 59 = .ok (.getfield 22, 3) := by decide +kernel
theorem dX4_record_62 : decode cX4_record 62 = .ok (.sipush 276, 3) := by decide +kernel
theorem dX4_record_65 : decode cX4_record 65 = .ok (.aload_n 0, 1) := by decide +kernel
theorem dX4_record_66 : decode cX4_record 66 = .ok (.getfield 28, 3) := by decide +kernel
theorem dX4_record_69 : decode cX4_record 69 = .ok (.imul, 1) := by decide +kernel
theorem dX4_record_70 : decode cX4_record 70 = .ok (.iload_n 2, 1) := by decide +kernel
theorem dX4_record_71 : decode cX4_record 71 = .ok (.iadd, 1) := by decide +kernel
theorem dX4_record_72 : decode cX4_record 72 = .ok (.aload_n 1, 1) := by decide +kernel
theorem dX4_record_73 : decode cX4_record 73 = .ok (.iload_n 2, 1) := by decide +kernel
theorem dX4_record_74 : decode cX4_record 74 = .ok (.iaload, 1) := by decide +kernel
theorem dX4_record_75 : decode cX4_record 75 = .ok (.iastore, 1) := by decide +kernel
theorem dX4_record_76 : decode cX4_record 76 = .ok (.iinc 2 1, 3) := by decide +kernel
theorem dX4_record_79 : decode cX4_record 79 = .ok (.goto (-28), 3) := by decide +kernel
theorem dX4_record_82 : decode cX4_record 82 = .ok (.aload_n 0, 1) := by decide +kernel
theorem dX4_record_83 : decode cX4_record 83 = .ok (.dup, 1) := by decide +kernel
theorem dX4_record_84 : decode cX4_record 84 = .ok (.getfield 28, 3) := by decide +kernel
theorem dX4_record_87 : decode cX4_record 87 = .ok (.iconst 1, 1) := by decide +kernel
theorem dX4_record_88 : decode cX4_record 88 = .ok (.iadd, 1) := by decide +kernel
theorem dX4_record_89 : decode cX4_record 89 = .ok (.putfield 28, 3) := by decide +kernel
theorem dX4_record_92 : decode cX4_record 92 = .ok (.return_, 1) := by decide +kernel
set_option maxRecDepth 20000 in
theorem ggX4_isHead_X4_in : GoodIn wsX4_isHead wsX4_in := goodIn_r _ [4] (by decide +kernel) (by decide +kernel)
set_option maxRecDepth 20000 in
theorem gX4_isHead_X4_in : GoodIn wsX4_isHead (va_wsS RX4 32 yX4_in wsX4_in) := goodIn_app (goodIn_of _ (by decide +kernel)) ggX4_isHead_X4_in
theorem dX4_isHead_0 : decode cX4_isHead 0 = .ok (.iload_n 0, 1) := by decide +kernel
theorem dX4_isHead_1 : decode cX4_isHead 1 = .ok (.iconst 0, 1) := by decide +kernel
theorem dX4_isHead_2 : decode cX4_isHead 2 = .ok (.iconst 3, 1) := by decide +kernel
theorem dX4_isHead_3 : decode cX4_isHead 3 = .ok (.invokestatic 32, 3) := by decide +kernel
theorem dX4_isHead_6 : decode cX4_isHead 6 = .ok (.ireturn, 1) := by decide +kernel
theorem dX4_isSpare_0 : decode cX4_isSpare 0 = .ok (.iload_n 1, 1) := by decide +kernel
theorem dX4_isSpare_1 : decode cX4_isSpare 1 = .ok (.bipush 16, 2) := by decide +kernel
theorem dX4_isSpare_3 : decode cX4_isSpare 3 = .ok (.irem, 1) := by decide +kernel
theorem dX4_isSpare_4 : decode cX4_isSpare 4 = .ok (.bipush 16, 2) := by decide +kernel
theorem dX4_isSpare_6 : decode cX4_isSpare 6 = .ok (.aload_n 0, 1) := by decide +kernel
theorem dX4_isSpare_7 : decode cX4_isSpare 7 = .ok (.getfield 7, 3) := by decide +kernel
theorem dX4_isSpare_10 : decode cX4_isSpare 10 = .ok (.bipush 12, 2) := by decide +kernel
theorem dX4_isSpare_12 : decode cX4_isSpare 12 = .ok (.iload_n 1, 1) := by decide +kernel
theorem dX4_isSpare_13 : decode cX4_isSpare 13 = .ok (.bipush 16, 2) := by decide +kernel
theorem dX4_isSpare_15 : decode cX4_isSpare 15 = .ok (.idiv, 1) := by decide +kernel
theorem dX4_isSpare_16 : decode cX4_isSpare 16 = .ok (.iadd, 1) := by decide +kernel
theorem dX4_isSpare_17 : decode cX4_isSpare 17 = .ok (.iaload, 1) := by decide +kernel
theorem dX4_isSpare_18 : decode cX4_isSpare 18 = .ok (.isub, 1) := by decide +kernel
theorem dX4_isSpare_19 : decode cX4_isSpare 19 = .ok (.if_icmp .lt 7, 3) := by decide +kernel
theorem dX4_isSpare_22 : decode cX4_isSpare 22 = .ok (.iconst 1, 1) := by decide +kernel
theorem dX4_isSpare_23 : decode cX4_isSpare 23 = .ok (.goto 4, 3) := by decide +kernel
theorem dX4_isSpare_26 : decode cX4_isSpare 26 = .ok (.iconst 0, 1) := by decide +kernel
theorem dX4_isSpare_27 : decode cX4_isSpare 27 = .ok (.ireturn, 1) := by decide +kernel
set_option maxRecDepth 20000 in
theorem ggX4_isAddress_X4_in : GoodIn wsX4_isAddress wsX4_in := goodIn_r _ [4] (by decide +kernel) (by decide +kernel)
set_option maxRecDepth 20000 in
theorem gX4_isAddress_X4_in : GoodIn wsX4_isAddress (va_wsS RX4 32 yX4_in wsX4_in) := goodIn_app (goodIn_of _ (by decide +kernel)) ggX4_isAddress_X4_in
set_option maxRecDepth 20000 in
theorem ggX4_isAddress_X4_isSpare : GoodIn wsX4_isAddress wsX4_isSpare := goodIn_r _ [8, 9, 10, 11, 12, 13, 14, 15, 16, 17, 18, 19] (by decide +kernel) (by decide +kernel)
set_option maxRecDepth 20000 in
theorem gX4_isAddress_X4_isSpare : GoodIn wsX4_isAddress (wsV RX4 36 RX4 yX4_isSpare wsX4_isSpare) := goodIn_app (goodIn_of _ (by decide +kernel)) ggX4_isAddress_X4_isSpare
theorem dX4_isAddress_0 : decode cX4_isAddress 0 = .ok (.iload_n 1, 1) := by decide +kernel
theorem dX4_isAddress_1 : decode cX4_isAddress 1 = .ok (.iconst 0, 1) := by decide +kernel
theorem dX4_isAddress_2 : decode cX4_isAddress 2 = .ok (.bipush 63, 2) := by decide +kernel
theorem dX4_isAddress_4 : decode cX4_isAddress 4 = .ok (.invokestatic 32, 3) := by decide +kernel
theorem dX4_isAddress_7 : decode cX4_isAddress 7 = .ok (.ifCond .eq 15, 3) := by decide +kernel
theorem dX4_isAddress_10 : decode cX4_isAddress 10 = .ok (.aload_n 0, 1) := by decide +kernel
theorem dX4_isAddress_11 : decode cX4_isAddress 11 = .ok (.iload_n 1, 1) := by decide +kernel
theorem dX4_isAddress_12 : decode cX4_isAddress 12 = .ok (.invokevirtual 36, 3) := by decide +kernel
theorem dX4_isAddress_15 : decode cX4_isAddress 15 = .ok (.ifCond .ne 7, 3) := by decide +kernel
theorem dX4_isAddress_18 : decode cX4_isAddress 18 = .ok (.iconst 1, 1) := by decide +kernel
theorem dX4_isAddress_19 : decode cX4_isAddress 19 = .ok (.goto 4, 3) := by decide +kernel
theorem dX4_isAddress_22 : decode cX4_isAddress 22 = .ok (.iconst 0, 1) := by decide +kernel
theorem dX4_isAddress_23 : decode cX4_isAddress 23 = .ok (.ireturn, 1) := by decide +kernel
theorem dX4_isLost_0 : decode cX4_isLost 0 = .ok (.aload_n 0, 1) := by decide +kernel
theorem dX4_isLost_1 : decode cX4_isLost 1 = .ok (.getfield 7, 3) := by decide +kernel
theorem dX4_isLost_4 : decode cX4_isLost 4 = .ok (.sipush 148, 3) := by decide +kernel
theorem dX4_isLost_7 : decode cX4_isLost 7 = .ok (.iload_n 1, 1) := by decide +kernel
theorem dX4_isLost_8 : decode cX4_isLost 8 = .ok (.iadd, 1) := by decide +kernel
theorem dX4_isLost_9 : decode cX4_isLost 9 = .ok (.iaload, 1) := by decide +kernel
theorem dX4_isLost_10 : decode cX4_isLost 10 = .ok (.ifCond .ge 7, 3) := by decide +kernel
theorem dX4_isLost_13 : decode cX4_isLost 13 = .ok (.iconst 1, 1) := by decide +kernel
theorem dX4_isLost_14 : decode cX4_isLost 14 = .ok (.goto 4, 3) := by decide +kernel
theorem dX4_isLost_17 : decode cX4_isLost 17 = .ok (.iconst 0, 1) := by decide +kernel
theorem dX4_isLost_18 : decode cX4_isLost 18 = .ok (.ireturn, 1) := by decide +kernel
theorem dX4_state_0 : decode cX4_state 0 = .ok (.aload_n 0, 1) := by decide +kernel
theorem dX4_state_1 : decode cX4_state 1 = .ok (.getfield 7, 3) := by decide +kernel
theorem dX4_state_4 : decode cX4_state 4 = .ok (.bipush 20, 2) := by decide +kernel
theorem dX4_state_6 : decode cX4_state 6 = .ok (.iload_n 1, 1) := by decide +kernel
theorem dX4_state_7 : decode cX4_state 7 = .ok (.iadd, 1) := by decide +kernel
theorem dX4_state_8 : decode cX4_state 8 = .ok (.iaload, 1) := by decide +kernel
theorem dX4_state_9 : decode cX4_state 9 = .ok (.istore_n 2, 1) := by decide +kernel
theorem dX4_state_10 : decode cX4_state 10 = .ok (.iload_n 2, 1) := by decide +kernel
theorem dX4_state_11 : decode cX4_state 11 = .ok (.aload_n 0, 1) := by decide +kernel
theorem dX4_state_12 : decode cX4_state 12 = .ok (.getfield 7, 3) := by decide +kernel
theorem dX4_state_15 : decode cX4_state 15 = .ok (.iconst 0, 1) := by decide +kernel
theorem dX4_state_16 : decode cX4_state 16 = .ok (.iaload, 1) := by decide +kernel
theorem dX4_state_17 : decode cX4_state 17 = .ok (.if_icmp .ge 7, 3) := by decide +kernel
theorem dX4_state_20 : decode cX4_state 20 = .ok (.iconst 0, 1) := by decide +kernel
theorem dX4_state_21 : decode cX4_state 21 = .ok (.goto 20, 3) := by decide +kernel
theorem dX4_state_24 : decode cX4_state 24 = .ok (.iload_n 2, 1) := by decide +kernel
theorem dX4_state_25 : decode cX4_state 25 = .ok (.iconst 2, 1) := by decide +kernel
theorem dX4_state_26 : decode cX4_state 26 = .ok (.aload_n 0, 1) := by decide +kernel
theorem dX4_state_27 : decode cX4_state 27 = .ok (.getfield 7, 3) := by decide +kernel
theorem dX4_state_30 : decode cX4_state 30 = .ok (.iconst 0, 1) := by decide +kernel
theorem dX4_state_31 : decode cX4_state 31 = .ok (.iaload, 1) := by decide +kernel
theorem dX4_state_32 : decode cX4_state 32 = .ok (.imul, 1) := by decide +kernel
theorem dX4_state_33 : decode cX4_state 33 = .ok (.if_icmp .ge 7, 3) := by decide +kernel
theorem dX4_state_36 : decode cX4_state 36 = .ok (.iconst 1, 1) := by decide +kernel
theorem dX4_state_37 : decode cX4_state 37 = .ok (.goto 4, 3) := by decide +kernel
theorem dX4_state_40 : decode cX4_state 40 = .ok (.iconst 2, 1) := by decide +kernel
theorem dX4_state_41 : decode cX4_state 41 = .ok (.ireturn, 1) := by decide +kernel
set_option maxRecDepth 20000 in
theorem ggX4_serves_X4_isAddress : GoodIn wsX4_serves wsX4_isAddress := goodIn_r _ [6, 7, 8, 5, 9, 10, 11, 12, 13, 1, 14, 15, 16, 17, 18, 19, 20, 21, 22, 23] (by decide +kernel) (by decide +kernel)
set_option maxRecDepth 20000 in
theorem gX4_serves_X4_isAddress : GoodIn wsX4_serves (wsV RX4 40 RX4 yX4_isAddress wsX4_isAddress) := goodIn_app (goodIn_of _ (by decide +kernel)) ggX4_serves_X4_isAddress
theorem dX4_serves_0 : decode cX4_serves 0 = .ok (.iconst 0, 1) := by decide +kernel
theorem dX4_serves_1 : decode cX4_serves 1 = .ok (.istore_n 2, 1) := by decide +kernel
theorem dX4_serves_2 : decode cX4_serves 2 = .ok (.iload_n 2, 1) := by decide +kernel
theorem dX4_serves_3 : decode cX4_serves 3 = .ok (.bipush 64, 2) := by decide +kernel
theorem dX4_serves_5 : decode cX4_serves 5 = .ok (.if_icmp .ge 33, 3) := by decide +kernel
theorem dX4_serves_8 : decode cX4_serves 8 = .ok (.aload_n 0, 1) := by decide +kernel
theorem dX4_serves_9 : decode cX4_serves 9 = .ok (.iload_n 2, 1) := by decide +kernel
theorem dX4_serves_10 : decode cX4_serves 10 = .ok (.invokevirtual 40, 3) := by decide +kernel
theorem dX4_serves_13 : decode cX4_serves 13 = .ok (.ifCond .eq 19, 3) := by decide +kernel
theorem dX4_serves_16 : decode cX4_serves 16 = .ok (.aload_n 0, 1) := by decide +kernel
theorem dX4_serves_17 : decode cX4_serves 17 = .ok (.getfield 7, 3) := by decide +kernel
theorem dX4_serves_20 : decode cX4_serves 20 = .ok (.sipush 148, 3) := by decide +kernel
theorem dX4_serves_23 : decode cX4_serves 23 = .ok (.iload_n 2, 1) := by decide +kernel
theorem dX4_serves_24 : decode cX4_serves 24 = .ok (.iadd, 1) := by decide +kernel
theorem dX4_serves_25 : decode cX4_serves 25 = .ok (.iaload, 1) := by decide +kernel
theorem dX4_serves_26 : decode cX4_serves 26 = .ok (.iload_n 1, 1) := by decide +kernel
theorem dX4_serves_27 : decode cX4_serves 27 = .ok (.if_icmp .ne 5, 3) := by decide +kernel
theorem dX4_serves_30 : decode cX4_serves 30 = .ok (.iload_n 2, 1) := by decide +kernel
theorem dX4_serves_31 : decode cX4_serves 31 = .ok (.ireturn, 1) := by decide +kernel
theorem dX4_serves_32 : decode cX4_serves 32 = .ok (.iinc 2 1, 3) := by decide +kernel
theorem dX4_serves_35 : decode cX4_serves 35 = .ok (.goto (-33), 3) := by decide +kernel
theorem dX4_serves_38 : decode cX4_serves 38 = .ok (.bipush (-5), 2) := by decide +kernel
theorem dX4_serves_40 : decode cX4_serves 40 = .ok (.ireturn, 1) := by decide +kernel
set_option maxRecDepth 20000 in
theorem ggX4_isFree_X4_isSpare : GoodIn wsX4_isFree wsX4_isSpare := goodIn_r _ [6, 1, 22, 23, 24, 25, 26, 27, 28, 29, 30, 31] (by decide +kernel) (by decide +kernel)
set_option maxRecDepth 20000 in
theorem gX4_isFree_X4_isSpare : GoodIn wsX4_isFree (wsV RX4 36 RX4 yX4_isSpare wsX4_isSpare) := goodIn_app (goodIn_of _ (by decide +kernel)) ggX4_isFree_X4_isSpare
set_option maxRecDepth 20000 in
theorem ggX4_isFree_X4_state : GoodIn wsX4_isFree wsX4_state := goodIn_r _ [10, 1, 22, 23, 24, 25, 26, 27, 28, 29, 30, 31] (by decide +kernel) (by decide +kernel)
set_option maxRecDepth 20000 in
theorem gX4_isFree_X4_state : GoodIn wsX4_isFree (wsV RX4 43 RX4 yX4_state wsX4_state) := goodIn_app (goodIn_of _ (by decide +kernel)) ggX4_isFree_X4_state
set_option maxRecDepth 20000 in
theorem ggX4_isFree_X4_serves : GoodIn wsX4_isFree wsX4_serves := goodIn_r _ [14, 1, 15, 16, 17, 5, 18, 19, 20, 21, 2, 3, 4, 6, 22, 23, 24, 25, 26, 27, 28, 29, 30, 31] (by decide +kernel) (by decide +kernel)
set_option maxRecDepth 20000 in
theorem gX4_isFree_X4_serves : GoodIn wsX4_isFree (wsV RX4 47 RX4 yX4_serves wsX4_serves) := goodIn_app (goodIn_of _ (by decide +kernel)) ggX4_isFree_X4_serves
theorem dX4_isFree_0 : decode cX4_isFree 0 = .ok (.aload_n 0, 1) := by decide +kernel
theorem dX4_isFree_1 : decode cX4_isFree 1 = .ok (.iload_n 1, 1) := by decide +kernel
theorem dX4_isFree_2 : decode cX4_isFree 2 = .ok (.invokevirtual 36, 3) := by decide +kernel
theorem dX4_isFree_5 : decode cX4_isFree 5 = .ok (.ifCond .eq 40, 3) := by decide +kernel
theorem dX4_isFree_8 : decode cX4_isFree 8 = .ok (.aload_n 0, 1) := by decide +kernel
theorem dX4_isFree_9 : decode cX4_isFree 9 = .ok (.getfield 7, 3) := by decide +kernel
theorem dX4_isFree_12 : decode cX4_isFree 12 = .ok (.bipush 16, 2) := by decide +kernel
theorem dX4_isFree_14 : decode cX4_isFree 14 = .ok (.iload_n 1, 1) := by decide +kernel
theorem dX4_isFree_15 : decode cX4_isFree 15 = .ok (.bipush 16, 2) := by decide +kernel
theorem dX4_isFree_17 : decode cX4_isFree 17 = .ok (.idiv, 1) := by decide +kernel
theorem dX4_isFree_18 : decode cX4_isFree 18 = .ok (.iadd, 1) := by decide +kernel
theorem dX4_isFree_19 : decode cX4_isFree 19 = .ok (.iaload, 1) := by decide +kernel
theorem dX4_isFree_20 : decode cX4_isFree 20 = .ok (.ifCond .ne 25, 3) := by decide +kernel
theorem dX4_isFree_23 : decode cX4_isFree 23 = .ok (.aload_n 0, 1) := by decide +kernel
theorem dX4_isFree_24 : decode cX4_isFree 24 = .ok (.iload_n 1, 1) := by decide +kernel
theorem dX4_isFree_25 : decode cX4_isFree 25 = .ok (.invokevirtual 43, 3) := by decide +kernel
theorem dX4_isFree_28 : decode cX4_isFree 28 = .ok (.ifCond .ne 17, 3) := by decide +kernel
theorem dX4_isFree_31 : decode cX4_isFree 31 = .ok (.aload_n 0, 1) := by decide +kernel
theorem dX4_isFree_32 : decode cX4_isFree 32 = .ok (.iload_n 1, 1) := by decide +kernel
theorem dX4_isFree_33 : decode cX4_isFree 33 = .ok (.invokevirtual 47, 3) := by decide +kernel
theorem dX4_isFree_36 : decode cX4_isFree 36 = .ok (.bipush (-5), 2) := by decide +kernel
theorem dX4_isFree_38 : decode cX4_isFree 38 = .ok (.if_icmp .ne 7, 3) := by decide +kernel
theorem dX4_isFree_41 : decode cX4_isFree 41 = .ok (.iconst 1, 1) := by decide +kernel
theorem dX4_isFree_42 : decode cX4_isFree 42 = .ok (.goto 4, 3) := by decide +kernel
theorem dX4_isFree_45 : decode cX4_isFree 45 = .ok (.iconst 0, 1) := by decide +kernel
theorem dX4_isFree_46 : decode cX4_isFree 46 = .ok (.ireturn, 1) := by decide +kernel
set_option maxRecDepth 20000 in
theorem ggX4_frees_X4_isFree : GoodIn wsX4_frees wsX4_isFree := goodIn_r _ [5, 6, 7, 8, 9, 4, 10, 11, 12, 13, 14, 15, 16, 17, 18, 19, 20, 21, 22, 23, 24, 25, 26, 27, 28, 29, 30, 31, 32, 33, 34, 35] (by decide +kernel) (by decide +kernel)
set_option maxRecDepth 20000 in
theorem gX4_frees_X4_isFree : GoodIn wsX4_frees (wsV RX4 50 RX4 yX4_isFree wsX4_isFree) := goodIn_app (goodIn_of _ (by decide +kernel)) ggX4_frees_X4_isFree
theorem dX4_frees_0 : decode cX4_frees 0 = .ok (.iconst 0, 1) := by decide +kernel
theorem dX4_frees_1 : decode cX4_frees 1 = .ok (.istore_n 2, 1) := by decide +kernel
theorem dX4_frees_2 : decode cX4_frees 2 = .ok (.iconst 0, 1) := by decide +kernel
theorem dX4_frees_3 : decode cX4_frees 3 = .ok (.istore_n 3, 1) := by decide +kernel
theorem dX4_frees_4 : decode cX4_frees 4 = .ok (.iload_n 3, 1) := by decide +kernel
theorem dX4_frees_5 : decode cX4_frees 5 = .ok (.bipush 16, 2) := by decide +kernel
theorem dX4_frees_7 : decode cX4_frees 7 = .ok (.if_icmp .ge 30, 3) := by decide +kernel
theorem dX4_frees_10 : decode cX4_frees 10 = .ok (.iload_n 2, 1) := by decide +kernel
theorem dX4_frees_11 : decode cX4_frees 11 = .ok (.aload_n 0, 1) := by decide +kernel
theorem dX4_frees_12 : decode cX4_frees 12 = .ok (.bipush 16, 2) := by decide +kernel
theorem dX4_frees_14 : decode cX4_frees 14 = .ok (.iload_n 1, 1) := by decide +kernel
theorem dX4_frees_15 : decode cX4_frees 15 = .ok (.imul, 1) := by decide +kernel
theorem dX4_frees_16 : decode cX4_frees 16 = .ok (.iload_n 3, 1) := by decide +kernel
theorem dX4_frees_17 : decode cX4_frees 17 = .ok (.iadd, 1) := by decide +kernel
theorem dX4_frees_18 : decode cX4_frees 18 = .ok (.invokevirtual 50, 3) := by decide +kernel
theorem dX4_frees_21 : decode cX4_frees 21 = .ok (.ifCond .eq 7, 3) := by decide +kernel
theorem dX4_frees_24 : decode cX4_frees 24 = .ok (.iconst 1, 1) := by decide +kernel
theorem dX4_frees_25 : decode cX4_frees 25 = .ok (.goto 4, 3) := by decide +kernel
theorem dX4_frees_28 : decode cX4_frees 28 = .ok (.iconst 0, 1) := by decide +kernel
theorem dX4_frees_29 : decode cX4_frees 29 = .ok (.iadd, 1) := by decide +kernel
theorem dX4_frees_30 : decode cX4_frees 30 = .ok (.istore_n 2, 1) := by decide +kernel
theorem dX4_frees_31 : decode cX4_frees 31 = .ok (.iinc 3 1, 3) := by decide +kernel
theorem dX4_frees_34 : decode cX4_frees 34 = .ok (.goto (-30), 3) := by decide +kernel
theorem dX4_frees_37 : decode cX4_frees 37 = .ok (.iload_n 2, 1) := by decide +kernel
theorem dX4_frees_38 : decode cX4_frees 38 = .ok (.ireturn, 1) := by decide +kernel
set_option maxRecDepth 20000 in
theorem ggX4_firstFree_X4_isFree : GoodIn wsX4_firstFree wsX4_isFree := goodIn_r _ [5, 6, 7, 8, 9, 4, 10, 11, 12, 13, 14, 15, 16, 17, 18, 19, 20, 21, 22, 23, 24, 25, 26, 27, 28, 29, 30, 31, 32, 33, 34, 35] (by decide +kernel) (by decide +kernel)
set_option maxRecDepth 20000 in
theorem gX4_firstFree_X4_isFree : GoodIn wsX4_firstFree (wsV RX4 50 RX4 yX4_isFree wsX4_isFree) := goodIn_app (goodIn_of _ (by decide +kernel)) ggX4_firstFree_X4_isFree
theorem dX4_firstFree_0 : decode cX4_firstFree 0 = .ok (.iconst 0, 1) := by decide +kernel
theorem dX4_firstFree_1 : decode cX4_firstFree 1 = .ok (.istore_n 2, 1) := by decide +kernel
theorem dX4_firstFree_2 : decode cX4_firstFree 2 = .ok (.iload_n 2, 1) := by decide +kernel
theorem dX4_firstFree_3 : decode cX4_firstFree 3 = .ok (.bipush 16, 2) := by decide +kernel
theorem dX4_firstFree_5 : decode cX4_firstFree 5 = .ok (.if_icmp .ge 29, 3) := by decide +kernel
theorem dX4_firstFree_8 : decode cX4_firstFree 8 = .ok (.aload_n 0, 1) := by decide +kernel
theorem dX4_firstFree_9 : decode cX4_firstFree 9 = .ok (.bipush 16, 2) := by decide +kernel
theorem dX4_firstFree_11 : decode cX4_firstFree 11 = .ok (.iload_n 1, 1) := by decide +kernel
theorem dX4_firstFree_12 : decode cX4_firstFree 12 = .ok (.imul, 1) := by decide +kernel
theorem dX4_firstFree_13 : decode cX4_firstFree 13 = .ok (.iload_n 2, 1) := by decide +kernel
theorem dX4_firstFree_14 : decode cX4_firstFree 14 = .ok (.iadd, 1) := by decide +kernel
theorem dX4_firstFree_15 : decode cX4_firstFree 15 = .ok (.invokevirtual 50, 3) := by decide +kernel
theorem dX4_firstFree_18 : decode cX4_firstFree 18 = .ok (.ifCond .eq 10, 3) := by decide +kernel
theorem dX4_firstFree_21 : decode cX4_firstFree 21 = .ok (.bipush 16, 2) := by decide +kernel
theorem dX4_firstFree_23 : decode cX4_firstFree 23 = .ok (.iload_n 1, 1) := by decide +kernel
theorem dX4_firstFree_24 : decode cX4_firstFree 24 = .ok (.imul, 1) := by decide +kernel
theorem dX4_firstFree_25 : decode cX4_firstFree 25 = .ok (.iload_n 2, 1) := by decide +kernel
theorem dX4_firstFree_26 : decode cX4_firstFree 26 = .ok (.iadd, 1) := by decide +kernel
theorem dX4_firstFree_27 : decode cX4_firstFree 27 = .ok (.ireturn, 1) := by decide +kernel
theorem dX4_firstFree_28 : decode cX4_firstFree 28 = .ok (.iinc 2 1, 3) := by decide +kernel
theorem dX4_firstFree_31 : decode cX4_firstFree 31 = .ok (.goto (-29), 3) := by decide +kernel
theorem dX4_firstFree_34 : decode cX4_firstFree 34 = .ok (.bipush (-5), 2) := by decide +kernel
theorem dX4_firstFree_36 : decode cX4_firstFree 36 = .ok (.ireturn, 1) := by decide +kernel
set_option maxRecDepth 20000 in
theorem ggX4_lends_X4_firstFree : GoodIn wsX4_lends wsX4_firstFree := goodIn_r _ [5, 6, 7, 8, 4, 9, 10, 11, 12, 13, 14, 15, 16, 17, 18, 19, 20, 21, 22, 23, 24, 25, 26, 27, 28, 29, 34, 35, 36, 37, 38, 39, 40, 41, 42, 43] (by decide +kernel) (by decide +kernel)
set_option maxRecDepth 20000 in
theorem gX4_lends_X4_firstFree : GoodIn wsX4_lends (wsV RX4 53 RX4 yX4_firstFree wsX4_firstFree) := goodIn_app (goodIn_of _ (by decide +kernel)) ggX4_lends_X4_firstFree
set_option maxRecDepth 20000 in
theorem ggX4_lends_X4_frees : GoodIn wsX4_lends wsX4_frees := goodIn_r _ [33, 6, 7, 8, 4, 9, 10, 11, 12, 13, 14, 15, 16, 17, 18, 19, 20, 21, 22, 23, 24, 25, 26, 27, 28, 29, 34, 35, 36, 37, 38, 39, 40, 41, 42, 43] (by decide +kernel) (by decide +kernel)
set_option maxRecDepth 20000 in
theorem gX4_lends_X4_frees : GoodIn wsX4_lends (wsV RX4 56 RX4 yX4_frees wsX4_frees) := goodIn_app (goodIn_of _ (by decide +kernel)) ggX4_lends_X4_frees
theorem dX4_lends_0 : decode cX4_lends 0 = .ok (.aload_n 0, 1) := by decide +kernel
theorem dX4_lends_1 : decode cX4_lends 1 = .ok (.iload_n 1, 1) := by decide +kernel
theorem dX4_lends_2 : decode cX4_lends 2 = .ok (.bipush 16, 2) := by decide +kernel
theorem dX4_lends_4 : decode cX4_lends 4 = .ok (.idiv, 1) := by decide +kernel
theorem dX4_lends_5 : decode cX4_lends 5 = .ok (.invokevirtual 53, 3) := by decide +kernel
theorem dX4_lends_8 : decode cX4_lends 8 = .ok (.istore_n 2, 1) := by decide +kernel
theorem dX4_lends_9 : decode cX4_lends 9 = .ok (.iload_n 2, 1) := by decide +kernel
theorem dX4_lends_10 : decode cX4_lends 10 = .ok (.bipush (-5), 2) := by decide +kernel
theorem dX4_lends_12 : decode cX4_lends 12 = .ok (.if_icmp .eq 5, 3) := by decide +kernel
theorem dX4_lends_15 : decode cX4_lends 15 = .ok (.iload_n 2, 1) := by decide +kernel
theorem dX4_lends_16 : decode cX4_lends 16 = .ok (.ireturn, 1) := by decide +kernel
theorem dX4_lends_17 : decode cX4_lends 17 = .ok (.iconst 0, 1) := by decide +kernel
theorem dX4_lends_18 : decode cX4_lends 18 = .ok (.istore_n 3, 1) := by decide +kernel
theorem dX4_lends_19 : decode cX4_lends 19 = .ok (.iconst 1, 1) := by decide +kernel
theorem dX4_lends_20 : decode cX4_lends 20 = .ok (.istore 4, 2) := by decide +kernel
theorem dX4_lends_22 : decode cX4_lends 22 = .ok (.iload 4, 2) := by decide +kernel
theorem dX4_lends_24 : decode cX4_lends 24 = .ok (.iconst 4, 1) := by decide +kernel
theorem dX4_lends_25 : decode cX4_lends 25 = .ok (.if_icmp .ge 30, 3) := by decide +kernel
theorem dX4_lends_28 : decode cX4_lends 28 = .ok (.aload_n 0, 1) := by decide +kernel
theorem dX4_lends_29 : decode cX4_lends 29 = .ok (.iload 4, 2) := by decide +kernel
theorem dX4_lends_31 : decode cX4_lends 31 = .ok (.invokevirtual 56, 3) := by decide +kernel
theorem dX4_lends_34 : decode cX4_lends 34 = .ok (.aload_n 0, 1) := by decide +kernel
theorem dX4_lends_35 : decode cX4_lends 35 = .ok (.iload_n 3, 1) := by decide +kernel
theorem dX4_lends_36 : decode cX4_lends 36 = .ok (.invokevirtual 56, 3) := by decide +kernel
theorem dX4_lends_39 : decode cX4_lends 39 = .ok (.if_icmp .le 8, 3) := by decide +kernel
theorem dX4_lends_42 : decode cX4_lends 42 = .ok (.iload 4, 2) := by decide +kernel
theorem dX4_lends_44 : decode cX4_lends 44 = .ok (.goto 4, 3) := by decide +kernel
theorem dX4_lends_47 : decode cX4_lends 47 = .ok (.iload_n 3, 1) := by decide +kernel
theorem dX4_lends_48 : decode cX4_lends 48 = .ok (.istore_n 3, 1) := by decide +kernel
theorem dX4_lends_49 : decode cX4_lends 49 = .ok (.iinc 4 1, 3) := by decide +kernel
theorem dX4_lends_52 : decode cX4_lends 52 = .ok (.goto (-30), 3) := by decide +kernel
theorem dX4_lends_55 : decode cX4_lends 55 = .ok (.aload_n 0, 1) := by decide +kernel
theorem dX4_lends_56 : decode cX4_lends 56 = .ok (.iload_n 3, 1) := by decide +kernel
theorem dX4_lends_57 : decode cX4_lends 57 = .ok (.invokevirtual 53, 3) := by decide +kernel
theorem dX4_lends_60 : decode cX4_lends 60 = .ok (.ireturn, 1) := by decide +kernel
theorem dX4_wears_0 : decode cX4_wears 0 = .ok (.aload_n 0, 1) := by decide +kernel
theorem dX4_wears_1 : decode cX4_wears 1 = .ok (.getfield 7, 3) := by decide +kernel
theorem dX4_wears_4 : decode cX4_wears 4 = .ok (.bipush 20, 2) := by decide +kernel
theorem dX4_wears_6 : decode cX4_wears 6 = .ok (.iload_n 1, 1) := by decide +kernel
theorem dX4_wears_7 : decode cX4_wears 7 = .ok (.iadd, 1) := by decide +kernel
theorem dX4_wears_8 : decode cX4_wears 8 = .ok (.iaload, 1) := by decide +kernel
theorem dX4_wears_9 : decode cX4_wears 9 = .ok (.aload_n 0, 1) := by decide +kernel
theorem dX4_wears_10 : decode cX4_wears 10 = .ok (.getfield 7, 3) := by decide +kernel
theorem dX4_wears_13 : decode cX4_wears 13 = .ok (.bipush 8, 2) := by decide +kernel
theorem dX4_wears_15 : decode cX4_wears 15 = .ok (.iload_n 1, 1) := by decide +kernel
theorem dX4_wears_16 : decode cX4_wears 16 = .ok (.bipush 16, 2) := by decide +kernel
theorem dX4_wears_18 : decode cX4_wears 18 = .ok (.idiv, 1) := by decide +kernel
theorem dX4_wears_19 : decode cX4_wears 19 = .ok (.iadd, 1) := by decide +kernel
theorem dX4_wears_20 : decode cX4_wears 20 = .ok (.iaload, 1) := by decide +kernel
theorem dX4_wears_21 : decode cX4_wears 21 = .ok (.iload_n 2, 1) := by decide +kernel
theorem dX4_wears_22 : decode cX4_wears 22 = .ok (.ifCond .eq 7, 3) := by decide +kernel
theorem dX4_wears_25 : decode cX4_wears 25 = .ok (.iconst 2, 1) := by decide +kernel
theorem dX4_wears_26 : decode cX4_wears 26 = .ok (.goto 4, 3) := by decide +kernel
theorem dX4_wears_29 : decode cX4_wears 29 = .ok (.iconst 1, 1) := by decide +kernel
theorem dX4_wears_30 : decode cX4_wears 30 = .ok (.imul, 1) := by decide +kernel
theorem dX4_wears_31 : decode cX4_wears 31 = .ok (.iadd, 1) := by decide +kernel
theorem dX4_wears_32 : decode cX4_wears 32 = .ok (.istore_n 3, 1) := by decide +kernel
theorem dX4_wears_33 : decode cX4_wears 33 = .ok (.aload_n 0, 1) := by decide +kernel
theorem dX4_wears_34 : decode cX4_wears 34 = .ok (.getfield 7, 3) := by decide +kernel
theorem dX4_wears_37 : decode cX4_wears 37 = .ok (.bipush 20, 2) := by decide +kernel
theorem dX4_wears_39 : decode cX4_wears 39 = .ok (.iload_n 1, 1) := by decide +kernel
theorem dX4_wears_40 : decode cX4_wears 40 = .ok (.iadd, 1) := by decide +kernel
theorem dX4_wears_41 : decode cX4_wears 41 = .ok (.iload_n 3, 1) := by decide +kernel
theorem dX4_wears_42 : decode cX4_wears 42 = .ok (.ldc 59, 2) := by decide +kernel
theorem dX4_wears_44 : decode cX4_wears 44 = .ok (.if_icmp .le 8, 3) := by decide +kernel
theorem dX4_wears_47 : decode cX4_wears 47 = .ok (.ldc 59, 2) := by decide +kernel
theorem dX4_wears_49 : decode cX4_wears 49 = .ok (.goto 4, 3) := by decide +kernel
theorem dX4_wears_52 : decode cX4_wears 52 = .ok (.iload_n 3, 1) := by decide +kernel
theorem dX4_wears_53 : decode cX4_wears 53 = .ok (.iastore, 1) := by decide +kernel
theorem dX4_wears_54 : decode cX4_wears 54 = .ok (.return_, 1) := by decide +kernel
theorem dX4_apart_0 : decode cX4_apart 0 = .ok (.iload_n 0, 1) := by decide +kernel
theorem dX4_apart_1 : decode cX4_apart 1 = .ok (.iload_n 2, 1) := by decide +kernel
theorem dX4_apart_2 : decode cX4_apart 2 = .ok (.bipush 16, 2) := by decide +kernel
theorem dX4_apart_4 : decode cX4_apart 4 = .ok (.irem, 1) := by decide +kernel
theorem dX4_apart_5 : decode cX4_apart 5 = .ok (.isub, 1) := by decide +kernel
theorem dX4_apart_6 : decode cX4_apart 6 = .ok (.istore_n 3, 1) := by decide +kernel
theorem dX4_apart_7 : decode cX4_apart 7 = .ok (.iload_n 3, 1) := by decide +kernel
theorem dX4_apart_8 : decode cX4_apart 8 = .ok (.ifCond .ge 8, 3) := by decide +kernel
theorem dX4_apart_11 : decode cX4_apart 11 = .ok (.iload_n 3, 1) := by decide +kernel
theorem dX4_apart_12 : decode cX4_apart 12 = .ok (.ineg, 1) := by decide +kernel
theorem dX4_apart_13 : decode cX4_apart 13 = .ok (.goto 4, 3) := by decide +kernel
theorem dX4_apart_16 : decode cX4_apart 16 = .ok (.iload_n 3, 1) := by decide +kernel
theorem dX4_apart_17 : decode cX4_apart 17 = .ok (.iload_n 1, 1) := by decide +kernel
theorem dX4_apart_18 : decode cX4_apart 18 = .ok (.iload_n 2, 1) := by decide +kernel
theorem dX4_apart_19 : decode cX4_apart 19 = .ok (.bipush 16, 2) := by decide +kernel
theorem dX4_apart_21 : decode cX4_apart 21 = .ok (.idiv, 1) := by decide +kernel
theorem dX4_apart_22 : decode cX4_apart 22 = .ok (.if_icmp .ne 7, 3) := by decide +kernel
theorem dX4_apart_25 : decode cX4_apart 25 = .ok (.iconst 0, 1) := by decide +kernel
theorem dX4_apart_26 : decode cX4_apart 26 = .ok (.goto 4, 3) := by decide +kernel
theorem dX4_apart_29 : decode cX4_apart 29 = .ok (.iconst 2, 1) := by decide +kernel
theorem dX4_apart_30 : decode cX4_apart 30 = .ok (.iadd, 1) := by decide +kernel
theorem dX4_apart_31 : decode cX4_apart 31 = .ok (.ireturn, 1) := by decide +kernel
set_option maxRecDepth 20000 in
theorem ggX4_goes_X4_apart : GoodIn wsX4_goes wsX4_apart := goodIn_r _ [5] (by decide +kernel) (by decide +kernel)
set_option maxRecDepth 20000 in
theorem gX4_goes_X4_apart : GoodIn wsX4_goes (va_wsS RX4 60 yX4_apart wsX4_apart) := goodIn_app (goodIn_of _ (by decide +kernel)) ggX4_goes_X4_apart
theorem dX4_goes_0 : decode cX4_goes 0 = .ok (.aload_n 0, 1) := by decide +kernel
theorem dX4_goes_1 : decode cX4_goes 1 = .ok (.getfield 7, 3) := by decide +kernel
theorem dX4_goes_4 : decode cX4_goes 4 = .ok (.iconst 3, 1) := by decide +kernel
theorem dX4_goes_5 : decode cX4_goes 5 = .ok (.dup2, 1) := by decide +kernel
theorem dX4_goes_6 : decode cX4_goes 6 = .ok (.iaload, 1) := by decide +kernel
theorem dX4_goes_7 : decode cX4_goes 7 = .ok (.aload_n 0, 1) := by decide +kernel
theorem dX4_goes_8 : decode cX4_goes 8 = .ok (.getfield 7, 3) := by decide +kernel
theorem dX4_goes_11 : decode cX4_goes 11 = .ok (.iconst 1, 1) := by decide +kernel
theorem dX4_goes_12 : decode cX4_goes 12 = .ok (.iaload, 1) := by decide +kernel
theorem dX4_goes_13 : decode cX4_goes 13 = .ok (.aload_n 0, 1) := by decide +kernel
theorem dX4_goes_14 : decode cX4_goes 14 = .ok (.getfield 7, 3) := by decide +kernel
theorem dX4_goes_17 : decode cX4_goes 17 = .ok (.iconst 2, 1) := by decide +kernel
theorem dX4_goes_18 : decode cX4_goes 18 = .ok (.iaload, 1) := by decide +kernel
theorem dX4_goes_19 : decode cX4_goes 19 = .ok (.iload_n 1, 1) := by decide +kernel
theorem dX4_goes_20 : decode cX4_goes 20 = .ok (.invokestatic 60, 3) := by decide +kernel
theorem dX4_goes_23 : decode cX4_goes 23 = .ok (.iadd, 1) := by decide +kernel
theorem dX4_goes_24 : decode cX4_goes 24 = .ok (.iastore, 1) := by decide +kernel
theorem dX4_goes_25 : decode cX4_goes 25 = .ok (.aload_n 0, 1) := by decide +kernel
theorem dX4_goes_26 : decode cX4_goes 26 = .ok (.getfield 7, 3) := by decide +kernel
theorem dX4_goes_29 : decode cX4_goes 29 = .ok (.iconst 1, 1) := by decide +kernel
theorem dX4_goes_30 : decode cX4_goes 30 = .ok (.iload_n 1, 1) := by decide +kernel
theorem dX4_goes_31 : decode cX4_goes 31 = .ok (.bipush 16, 2) := by decide +kernel
theorem dX4_goes_33 : decode cX4_goes 33 = .ok (.irem, 1) := by decide +kernel
theorem dX4_goes_34 : decode cX4_goes 34 = .ok (.iastore, 1) := by decide +kernel
theorem dX4_goes_35 : decode cX4_goes 35 = .ok (.aload_n 0, 1) := by decide +kernel
theorem dX4_goes_36 : decode cX4_goes 36 = .ok (.getfield 7, 3) := by decide +kernel
theorem dX4_goes_39 : decode cX4_goes 39 = .ok (.iconst 2, 1) := by decide +kernel
theorem dX4_goes_40 : decode cX4_goes 40 = .ok (.iload_n 1, 1) := by decide +kernel
theorem dX4_goes_41 : decode cX4_goes 41 = .ok (.bipush 16, 2) := by decide +kernel
theorem dX4_goes_43 : decode cX4_goes 43 = .ok (.idiv, 1) := by decide +kernel
theorem dX4_goes_44 : decode cX4_goes 44 = .ok (.iastore, 1) := by decide +kernel
theorem dX4_goes_45 : decode cX4_goes 45 = .ok (.return_, 1) := by decide +kernel
set_option maxRecDepth 20000 in
theorem ggX4_goesTo_X4_goes : GoodIn wsX4_goesTo wsX4_goes := goodIn_r _ [6, 1, 7, 8, 5, 9, 10, 11, 12, 13, 14, 15, 16, 17, 18, 19] (by decide +kernel) (by decide +kernel)
set_option maxRecDepth 20000 in
theorem gX4_goesTo_X4_goes : GoodIn wsX4_goesTo (wsV RX4 64 RX4 yX4_goes wsX4_goes) := goodIn_app (goodIn_of _ (by decide +kernel)) ggX4_goesTo_X4_goes
theorem dX4_goesTo_0 : decode cX4_goesTo 0 = .ok (.aload_n 0, 1) := by decide +kernel
theorem dX4_goesTo_1 : decode cX4_goesTo 1 = .ok (.getfield 7, 3) := by decide +kernel
theorem dX4_goesTo_4 : decode cX4_goesTo 4 = .ok (.bipush 16, 2) := by decide +kernel
theorem dX4_goesTo_6 : decode cX4_goesTo 6 = .ok (.iload_n 1, 1) := by decide +kernel
theorem dX4_goesTo_7 : decode cX4_goesTo 7 = .ok (.bipush 16, 2) := by decide +kernel
theorem dX4_goesTo_9 : decode cX4_goesTo 9 = .ok (.idiv, 1) := by decide +kernel
theorem dX4_goesTo_10 : decode cX4_goesTo 10 = .ok (.iadd, 1) := by decide +kernel
theorem dX4_goesTo_11 : decode cX4_goesTo 11 = .ok (.iaload, 1) := by decide +kernel
theorem dX4_goesTo_12 : decode cX4_goesTo 12 = .ok (.ifCond .ne 8, 3) := by decide +kernel
theorem dX4_goesTo_15 : decode cX4_goesTo 15 = .ok (.aload_n 0, 1) := by decide +kernel
theorem dX4_goesTo_16 : decode cX4_goesTo 16 = .ok (.iload_n 1, 1) := by decide +kernel
theorem dX4_goesTo_17 : decode cX4_goesTo 17 = .ok (.invokevirtual 64, 3) := by decide +kernel
theorem dX4_goesTo_20 : decode cX4_goesTo 20 = .ok (.aload_n 0, 1) := by decide +kernel
theorem dX4_goesTo_21 : decode cX4_goesTo 21 = .ok (.getfield 7, 3) := by decide +kernel
theorem dX4_goesTo_24 : decode cX4_goesTo 24 = .ok (.sipush 148, 3) := by decide +kernel
theorem dX4_goesTo_27 : decode cX4_goesTo 27 = .ok (.iload_n 1, 1) := by decide +kernel
theorem dX4_goesTo_28 : decode cX4_goesTo 28 = .ok (.iadd, 1) := by decide +kernel
theorem dX4_goesTo_29 : decode cX4_goesTo 29 = .ok (.iaload, 1) := by decide +kernel
theorem dX4_goesTo_30 : decode cX4_goesTo 30 = .ok (.iload_n 1, 1) := by decide +kernel
theorem dX4_goesTo_31 : decode cX4_goesTo 31 = .ok (.if_icmp .eq 17, 3) := by decide +kernel
theorem dX4_goesTo_34 : decode cX4_goesTo 34 = .ok (.aload_n 0, 1) := by decide +kernel
theorem dX4_goesTo_35 : decode cX4_goesTo 35 = .ok (.aload_n 0, 1) := by decide +kernel
theorem dX4_goesTo_36 : decode cX4_goesTo 36 = .ok (.getfield 7, 3) := by decide +kernel
theorem dX4_goesTo_39 : decode cX4_goesTo 39 = .ok (.sipush 148, 3) := by decide +kernel
theorem dX4_goesTo_42 : decode cX4_goesTo 42 = .ok (.iload_n 1, 1) := by decide +kernel
theorem dX4_goesTo_43 : decode cX4_goesTo 43 = .ok (.iadd, 1) := by decide +kernel
theorem dX4_goesTo_44 : decode cX4_goesTo 44 = .ok (.iaload, 1) := by decide +kernel
theorem dX4_goesTo_45 : decode cX4_goesTo 45 = .ok (.invokevirtual 64, 3) := by decide +kernel
theorem dX4_goesTo_48 : decode cX4_goesTo 48 = .ok (.return_, 1) := by decide +kernel
set_option maxRecDepth 20000 in
theorem ggX4_steps_X4_apart : GoodIn wsX4_steps wsX4_apart := goodIn_r _ [5] (by decide +kernel) (by decide +kernel)
set_option maxRecDepth 20000 in
theorem gX4_steps_X4_apart : GoodIn wsX4_steps (va_wsS RX4 60 yX4_apart wsX4_apart) := goodIn_app (goodIn_of _ (by decide +kernel)) ggX4_steps_X4_apart
theorem dX4_steps_0 : decode cX4_steps 0 = .ok (.aload_n 0, 1) := by decide +kernel
theorem dX4_steps_1 : decode cX4_steps 1 = .ok (.getfield 7, 3) := by decide +kernel
theorem dX4_steps_4 : decode cX4_steps 4 = .ok (.sipush 148, 3) := by decide +kernel
theorem dX4_steps_7 : decode cX4_steps 7 = .ok (.iload_n 1, 1) := by decide +kernel
theorem dX4_steps_8 : decode cX4_steps 8 = .ok (.iadd, 1) := by decide +kernel
theorem dX4_steps_9 : decode cX4_steps 9 = .ok (.iaload, 1) := by decide +kernel
theorem dX4_steps_10 : decode cX4_steps 10 = .ok (.istore_n 2, 1) := by decide +kernel
theorem dX4_steps_11 : decode cX4_steps 11 = .ok (.aload_n 0, 1) := by decide +kernel
theorem dX4_steps_12 : decode cX4_steps 12 = .ok (.getfield 7, 3) := by decide +kernel
theorem dX4_steps_15 : decode cX4_steps 15 = .ok (.bipush 16, 2) := by decide +kernel
theorem dX4_steps_17 : decode cX4_steps 17 = .ok (.iload_n 1, 1) := by decide +kernel
theorem dX4_steps_18 : decode cX4_steps 18 = .ok (.bipush 16, 2) := by decide +kernel
theorem dX4_steps_20 : decode cX4_steps 20 = .ok (.idiv, 1) := by decide +kernel
theorem dX4_steps_21 : decode cX4_steps 21 = .ok (.iadd, 1) := by decide +kernel
theorem dX4_steps_22 : decode cX4_steps 22 = .ok (.iaload, 1) := by decide +kernel
theorem dX4_steps_23 : decode cX4_steps 23 = .ok (.ifCond .ne 7, 3) := by decide +kernel
theorem dX4_steps_26 : decode cX4_steps 26 = .ok (.iconst 1, 1) := by decide +kernel
theorem dX4_steps_27 : decode cX4_steps 27 = .ok (.goto 4, 3) := by decide +kernel
theorem dX4_steps_30 : decode cX4_steps 30 = .ok (.iconst 0, 1) := by decide +kernel
theorem dX4_steps_31 : decode cX4_steps 31 = .ok (.istore_n 3, 1) := by decide +kernel
theorem dX4_steps_32 : decode cX4_steps 32 = .ok (.iload_n 3, 1) := by decide +kernel
theorem dX4_steps_33 : decode cX4_steps 33 = .ok (.ifCond .eq 22, 3) := by decide +kernel
theorem dX4_steps_36 : decode cX4_steps 36 = .ok (.aload_n 0, 1) := by decide +kernel
theorem dX4_steps_37 : decode cX4_steps 37 = .ok (.getfield 7, 3) := by decide +kernel
theorem dX4_steps_40 : decode cX4_steps 40 = .ok (.iconst 1, 1) := by decide +kernel
theorem dX4_steps_41 : decode cX4_steps 41 = .ok (.iaload, 1) := by decide +kernel
theorem dX4_steps_42 : decode cX4_steps 42 = .ok (.aload_n 0, 1) := by decide +kernel
theorem dX4_steps_43 : decode cX4_steps 43 = .ok (.getfield 7, 3) := by decide +kernel
theorem dX4_steps_46 : decode cX4_steps 46 = .ok (.iconst 2, 1) := by decide +kernel
theorem dX4_steps_47 : decode cX4_steps 47 = .ok (.iaload, 1) := by decide +kernel
theorem dX4_steps_48 : decode cX4_steps 48 = .ok (.iload_n 1, 1) := by decide +kernel
theorem dX4_steps_49 : decode cX4_steps 49 = .ok (.invokestatic 60, 3) := by decide +kernel
theorem dX4_steps_52 : decode cX4_steps 52 = .ok (.goto 19, 3) := by decide +kernel
theorem dX4_steps_55 : decode cX4_steps 55 = .ok (.aload_n 0, 1) := by decide +kernel
theorem dX4_steps_56 : decode cX4_steps 56 = .ok (.getfield 7, 3) := by decide +kernel
theorem dX4_steps_59 : decode cX4_steps 59 = .ok (.iconst 1, 1) := by decide +kernel
theorem dX4_steps_60 : decode cX4_steps 60 = .ok (.iaload, 1) := by decide +kernel
theorem dX4_steps_61 : decode cX4_steps 61 = .ok (.aload_n 0, 1) := by decide +kernel
theorem dX4_steps_62 : decode cX4_steps 62 = .ok (.getfield 7, 3) := by decide +kernel
theorem dX4_steps_65 : decode cX4_steps 65 = .ok (.iconst 2, 1) := by decide +kernel
theorem dX4_steps_66 : decode cX4_steps 66 = .ok (.iaload, 1) := by decide +kernel
theorem dX4_steps_67 : decode cX4_steps 67 = .ok (.iload_n 2, 1) := by decide +kernel
theorem dX4_steps_68 : decode cX4_steps 68 = .ok (.invokestatic 60, 3) := by decide +kernel
theorem dX4_steps_71 : decode cX4_steps 71 = .ok (.istore 4, 2) := by decide +kernel
theorem dX4_steps_73 : decode cX4_steps 73 = .ok (.iload_n 3, 1) := by decide +kernel
theorem dX4_steps_74 : decode cX4_steps 74 = .ok (.ifCond .eq 26, 3) := by decide +kernel
theorem dX4_steps_77 : decode cX4_steps 77 = .ok (.iload_n 2, 1) := by decide +kernel
theorem dX4_steps_78 : decode cX4_steps 78 = .ok (.iload_n 1, 1) := by decide +kernel
theorem dX4_steps_79 : decode cX4_steps 79 = .ok (.if_icmp .eq 21, 3) := by decide +kernel
theorem dX4_steps_82 : decode cX4_steps 82 = .ok (.iload 4, 2) := by decide +kernel
theorem dX4_steps_84 : decode cX4_steps 84 = .ok (.iload_n 1, 1) := by decide +kernel
theorem dX4_steps_85 : decode cX4_steps 85 = .ok (.bipush 16, 2) := by decide +kernel
theorem dX4_steps_87 : decode cX4_steps 87 = .ok (.irem, 1) := by decide +kernel
theorem dX4_steps_88 : decode cX4_steps 88 = .ok (.iload_n 1, 1) := by decide +kernel
theorem dX4_steps_89 : decode cX4_steps 89 = .ok (.bipush 16, 2) := by decide +kernel
theorem dX4_steps_91 : decode cX4_steps 91 = .ok (.idiv, 1) := by decide +kernel
theorem dX4_steps_92 : decode cX4_steps 92 = .ok (.iload_n 2, 1) := by decide +kernel
theorem dX4_steps_93 : decode cX4_steps 93 = .ok (.invokestatic 60, 3) := by decide +kernel
theorem dX4_steps_96 : decode cX4_steps 96 = .ok (.iadd, 1) := by decide +kernel
theorem dX4_steps_97 : decode cX4_steps 97 = .ok (.goto 5, 3) := by decide +kernel
theorem dX4_steps_100 : decode cX4_steps 100 = .ok (.iload 4, 2) := by decide +kernel
theorem dX4_steps_102 : decode cX4_steps 102 = .ok (.ireturn, 1) := by decide +kernel
set_option maxRecDepth 20000 in
theorem ggX4_looks_X4_state : GoodIn wsX4_looks wsX4_state := goodIn_r _ [6, 1, 50, 51, 52, 53, 54, 55, 56, 57, 58, 59] (by decide +kernel) (by decide +kernel)
set_option maxRecDepth 20000 in
theorem gX4_looks_X4_state : GoodIn wsX4_looks (wsV RX4 43 RX4 yX4_state wsX4_state) := goodIn_app (goodIn_of _ (by decide +kernel)) ggX4_looks_X4_state
set_option maxRecDepth 20000 in
theorem ggX4_looks_X4_lends : GoodIn wsX4_looks wsX4_lends := goodIn_r _ [10, 11, 12, 13, 5, 14, 15, 16, 17, 18, 1, 19, 20, 21, 22, 2, 3, 4, 6, 23, 24, 25, 26, 27, 28, 29, 30, 31, 32, 33, 34, 35, 36, 37, 50, 51, 52, 53, 54, 55, 56, 57, 58, 59] (by decide +kernel) (by decide +kernel)
set_option maxRecDepth 20000 in
theorem gX4_looks_X4_lends : GoodIn wsX4_looks (wsV RX4 68 RX4 yX4_lends wsX4_lends) := goodIn_app (goodIn_of _ (by decide +kernel)) ggX4_looks_X4_lends
set_option maxRecDepth 20000 in
theorem ggX4_looks_X4_goes : GoodIn wsX4_looks wsX4_goes := goodIn_r _ [41, 1, 42, 43, 5, 44, 50, 51, 52, 53, 54, 55, 56, 57, 58, 59] (by decide +kernel) (by decide +kernel)
set_option maxRecDepth 20000 in
theorem gX4_looks_X4_goes : GoodIn wsX4_looks (wsV RX4 64 RX4 yX4_goes wsX4_goes) := goodIn_app (goodIn_of _ (by decide +kernel)) ggX4_looks_X4_goes
set_option maxRecDepth 20000 in
theorem ggX4_looks_X4_wears : GoodIn wsX4_looks wsX4_wears := goodIn_r _ [48, 1, 49, 50, 51, 52, 53, 54, 55, 56, 57, 58, 59] (by decide +kernel) (by decide +kernel)
set_option maxRecDepth 20000 in
theorem gX4_looks_X4_wears : GoodIn wsX4_looks (wsV RX4 71 RX4 yX4_wears wsX4_wears) := goodIn_app (goodIn_of _ (by decide +kernel)) ggX4_looks_X4_wears
theorem dX4_looks_0 : decode cX4_looks 0 = .ok (.aload_n 0, 1) := by decide +kernel
theorem dX4_looks_1 : decode cX4_looks 1 = .ok (.getfield 7, 3) := by decide +kernel
theorem dX4_looks_4 : decode cX4_looks 4 = .ok (.sipush 148, 3) := by decide +kernel
theorem dX4_looks_7 : decode cX4_looks 7 = .ok (.iload_n 1, 1) := by decide +kernel
theorem dX4_looks_8 : decode cX4_looks 8 = .ok (.iadd, 1) := by decide +kernel
theorem dX4_looks_9 : decode cX4_looks 9 = .ok (.iaload, 1) := by decide +kernel
theorem dX4_looks_10 : decode cX4_looks 10 = .ok (.istore_n 2, 1) := by decide +kernel
theorem dX4_looks_11 : decode cX4_looks 11 = .ok (.aload_n 0, 1) := by decide +kernel
theorem dX4_looks_12 : decode cX4_looks 12 = .ok (.iload_n 2, 1) := by decide +kernel
theorem dX4_looks_13 : decode cX4_looks 13 = .ok (.invokevirtual 43, 3) := by decide +kernel
theorem dX4_looks_16 : decode cX4_looks 16 = .ok (.ifCond .ne 4, 3) := by decide +kernel
theorem dX4_looks_19 : decode cX4_looks 19 = .ok (.return_, 1) := by decide +kernel
theorem dX4_looks_20 : decode cX4_looks 20 = .ok (.aload_n 0, 1) := by decide +kernel
theorem dX4_looks_21 : decode cX4_looks 21 = .ok (.iload_n 1, 1) := by decide +kernel
theorem dX4_looks_22 : decode cX4_looks 22 = .ok (.invokevirtual 68, 3) := by decide +kernel
theorem dX4_looks_25 : decode cX4_looks 25 = .ok (.istore_n 3, 1) := by decide +kernel
theorem dX4_looks_26 : decode cX4_looks 26 = .ok (.iload_n 3, 1) := by decide +kernel
theorem dX4_looks_27 : decode cX4_looks 27 = .ok (.bipush (-5), 2) := by decide +kernel
theorem dX4_looks_29 : decode cX4_looks 29 = .ok (.if_icmp .eq 52, 3) := by decide +kernel
theorem dX4_looks_32 : decode cX4_looks 32 = .ok (.aload_n 0, 1) := by decide +kernel
theorem dX4_looks_33 : decode cX4_looks 33 = .ok (.getfield 7, 3) := by decide +kernel
theorem dX4_looks_36 : decode cX4_looks 36 = .ok (.sipush 148, 3) := by decide +kernel
theorem dX4_looks_39 : decode cX4_looks 39 = .ok (.iload_n 1, 1) := by decide +kernel
theorem dX4_looks_40 : decode cX4_looks 40 = .ok (.iadd, 1) := by decide +kernel
theorem dX4_looks_41 : decode cX4_looks 41 = .ok (.iload_n 3, 1) := by decide +kernel
theorem dX4_looks_42 : decode cX4_looks 42 = .ok (.iastore, 1) := by decide +kernel
theorem dX4_looks_43 : decode cX4_looks 43 = .ok (.aload_n 0, 1) := by decide +kernel
theorem dX4_looks_44 : decode cX4_looks 44 = .ok (.getfield 7, 3) := by decide +kernel
theorem dX4_looks_47 : decode cX4_looks 47 = .ok (.iconst 4, 1) := by decide +kernel
theorem dX4_looks_48 : decode cX4_looks 48 = .ok (.dup2, 1) := by decide +kernel
theorem dX4_looks_49 : decode cX4_looks 49 = .ok (.iaload, 1) := by decide +kernel
theorem dX4_looks_50 : decode cX4_looks 50 = .ok (.iconst 1, 1) := by decide +kernel
theorem dX4_looks_51 : decode cX4_looks 51 = .ok (.iadd, 1) := by decide +kernel
theorem dX4_looks_52 : decode cX4_looks 52 = .ok (.iastore, 1) := by decide +kernel
theorem dX4_looks_53 : decode cX4_looks 53 = .ok (.aload_n 0, 1) := by decide +kernel
theorem dX4_looks_54 : decode cX4_looks 54 = .ok (.getfield 7, 3) := by decide +kernel
theorem dX4_looks_57 : decode cX4_looks 57 = .ok (.sipush 212, 3) := by decide +kernel
theorem dX4_looks_60 : decode cX4_looks 60 = .ok (.iload_n 1, 1) := by decide +kernel
theorem dX4_looks_61 : decode cX4_looks 61 = .ok (.iadd, 1) := by decide +kernel
theorem dX4_looks_62 : decode cX4_looks 62 = .ok (.dup2, 1) := by decide +kernel
theorem dX4_looks_63 : decode cX4_looks 63 = .ok (.iaload, 1) := by decide +kernel
theorem dX4_looks_64 : decode cX4_looks 64 = .ok (.iconst 1, 1) := by decide +kernel
theorem dX4_looks_65 : decode cX4_looks 65 = .ok (.iadd, 1) := by decide +kernel
theorem dX4_looks_66 : decode cX4_looks 66 = .ok (.iastore, 1) := by decide +kernel
theorem dX4_looks_67 : decode cX4_looks 67 = .ok (.aload_n 0, 1) := by decide +kernel
theorem dX4_looks_68 : decode cX4_looks 68 = .ok (.iload_n 3, 1) := by decide +kernel
theorem dX4_looks_69 : decode cX4_looks 69 = .ok (.invokevirtual 64, 3) := by decide +kernel
theorem dX4_looks_72 : decode cX4_looks 72 = .ok (.aload_n 0, 1) := by decide +kernel
theorem dX4_looks_73 : decode cX4_looks 73 = .ok (.iload_n 3, 1) := by decide +kernel
theorem dX4_looks_74 : decode cX4_looks 74 = .ok (.iconst 1, 1) := by decide +kernel
theorem dX4_looks_75 : decode cX4_looks 75 = .ok (.invokevirtual 71, 3) := by decide +kernel
theorem dX4_looks_78 : decode cX4_looks 78 = .ok (.goto 33, 3) := by decide +kernel
theorem dX4_looks_81 : decode cX4_looks 81 = .ok (.aload_n 0, 1) := by decide +kernel
theorem dX4_looks_82 : decode cX4_looks 82 = .ok (.iload_n 2, 1) := by decide +kernel
theorem dX4_looks_83 : decode cX4_looks 83 = .ok (.invokevirtual 43, 3) := by decide +kernel
theorem dX4_looks_86 : decode cX4_looks 86 = .ok (.iconst 2, 1) := by decide +kernel
theorem dX4_looks_87 : decode cX4_looks 87 = .ok (.if_icmp .ne 24, 3) := by decide +kernel
theorem dX4_looks_90 : decode cX4_looks 90 = .ok (.aload_n 0, 1) := by decide +kernel
theorem dX4_looks_91 : decode cX4_looks 91 = .ok (.getfield 7, 3) := by decide +kernel
theorem dX4_looks_94 : decode cX4_looks 94 = .ok (.sipush 148, 3) := by decide +kernel
theorem dX4_looks_97 : decode cX4_looks 97 = .ok (.iload_n 1, 1) := by decide +kernel
theorem dX4_looks_98 : decode cX4_looks 98 = .ok (.iadd, 1) := by decide +kernel
theorem dX4_looks_99 : decode cX4_looks 99 = .ok (.iconst (-1), 1) := by decide +kernel
theorem dX4_looks_100 : decode cX4_looks 100 = .ok (.iastore, 1) := by decide +kernel
theorem dX4_looks_101 : decode cX4_looks 101 = .ok (.aload_n 0, 1) := by decide +kernel
theorem dX4_looks_102 : decode cX4_looks 102 = .ok (.getfield 7, 3) := by decide +kernel
theorem dX4_looks_105 : decode cX4_looks 105 = .ok (.iconst 5, 1) := by decide +kernel
theorem dX4_looks_106 : decode cX4_looks 106 = .ok (.dup2, 1) := by decide +kernel
theorem dX4_looks_107 : decode cX4_looks 107 = .ok (.iaload, 1) := by decide +kernel
theorem dX4_looks_108 : decode cX4_looks 108 = .ok (.iconst 1, 1) := by decide +kernel
theorem dX4_looks_109 : decode cX4_looks 109 = .ok (.iadd, 1) := by decide +kernel
theorem dX4_looks_110 : decode cX4_looks 110 = .ok (.iastore, 1) := by decide +kernel
theorem dX4_looks_111 : decode cX4_looks 111 = .ok (.return_, 1) := by decide +kernel
set_option maxRecDepth 20000 in
theorem ggX4_reads_X4_isAddress : GoodIn wsX4_reads wsX4_isAddress := goodIn_r _ [6, 7, 8, 5, 9, 10, 11, 12, 13, 1, 62, 63, 64, 65, 66, 67, 68, 69, 70, 71] (by decide +kernel) (by decide +kernel)
set_option maxRecDepth 20000 in
theorem gX4_reads_X4_isAddress : GoodIn wsX4_reads (wsV RX4 40 RX4 yX4_isAddress wsX4_isAddress) := goodIn_app (goodIn_of _ (by decide +kernel)) ggX4_reads_X4_isAddress
set_option maxRecDepth 20000 in
theorem ggX4_reads_X4_isLost : GoodIn wsX4_reads wsX4_isLost := goodIn_r _ [17, 1, 62, 63, 64, 65, 66, 67, 68, 69, 70, 71] (by decide +kernel) (by decide +kernel)
set_option maxRecDepth 20000 in
theorem gX4_reads_X4_isLost : GoodIn wsX4_reads (wsV RX4 75 RX4 yX4_isLost wsX4_isLost) := goodIn_app (goodIn_of _ (by decide +kernel)) ggX4_reads_X4_isLost
set_option maxRecDepth 20000 in
theorem ggX4_reads_X4_goesTo : GoodIn wsX4_reads wsX4_goesTo := goodIn_r _ [21, 1, 22, 23, 24, 5, 25, 26, 27, 28, 62, 63, 64, 65, 66, 67, 68, 69, 70, 71] (by decide +kernel) (by decide +kernel)
set_option maxRecDepth 20000 in
theorem gX4_reads_X4_goesTo : GoodIn wsX4_reads (wsV RX4 78 RX4 yX4_goesTo wsX4_goesTo) := goodIn_app (goodIn_of _ (by decide +kernel)) ggX4_reads_X4_goesTo
set_option maxRecDepth 20000 in
theorem ggX4_reads_X4_wears : GoodIn wsX4_reads wsX4_wears := goodIn_r _ [32, 1, 33, 62, 63, 64, 65, 66, 67, 68, 69, 70, 71] (by decide +kernel) (by decide +kernel)
set_option maxRecDepth 20000 in
theorem gX4_reads_X4_wears : GoodIn wsX4_reads (wsV RX4 71 RX4 yX4_wears wsX4_wears) := goodIn_app (goodIn_of _ (by decide +kernel)) ggX4_reads_X4_wears
set_option maxRecDepth 20000 in
theorem ggX4_reads_X4_looks : GoodIn wsX4_reads wsX4_looks := goodIn_r _ [37, 1, 38, 39, 40, 5, 41, 42, 43, 44, 45, 46, 47, 48, 49, 50, 51, 52, 53, 10, 11, 12, 13, 54, 55, 56, 57, 2, 3, 4, 6, 7, 8, 9, 58, 59, 60, 61, 22, 23, 24, 25, 26, 27, 28, 29, 30, 31, 32, 33, 62, 63, 64, 65, 66, 67, 68, 69, 70, 71] (by decide +kernel) (by decide +kernel)
set_option maxRecDepth 20000 in
theorem gX4_reads_X4_looks : GoodIn wsX4_reads (wsV RX4 81 RX4 yX4_looks wsX4_looks) := goodIn_app (goodIn_of _ (by decide +kernel)) ggX4_reads_X4_looks
theorem dX4_reads_0 : decode cX4_reads 0 = .ok (.aload_n 0, 1) := by decide +kernel
theorem dX4_reads_1 : decode cX4_reads 1 = .ok (.iload_n 1, 1) := by decide +kernel
theorem dX4_reads_2 : decode cX4_reads 2 = .ok (.invokevirtual 40, 3) := by decide +kernel
theorem dX4_reads_5 : decode cX4_reads 5 = .ok (.ifCond .ne 5, 3) := by decide +kernel
theorem dX4_reads_8 : decode cX4_reads 8 = .ok (.iconst (-1), 1) := by decide +kernel
theorem dX4_reads_9 : decode cX4_reads 9 = .ok (.ireturn, 1) := by decide +kernel
theorem dX4_reads_10 : decode cX4_reads 10 = .ok (.aload_n 0, 1) := by decide +kernel
theorem dX4_reads_11 : decode cX4_reads 11 = .ok (.iload_n 1, 1) := by decide +kernel
theorem dX4_reads_12 : decode cX4_reads 12 = .ok (.invokevirtual 75, 3) := by decide +kernel
theorem dX4_reads_15 : decode cX4_reads 15 = .ok (.ifCond .eq 6, 3) := by decide +kernel
theorem dX4_reads_18 : decode cX4_reads 18 = .ok (.bipush (-4), 2) := by decide +kernel
theorem dX4_reads_20 : decode cX4_reads 20 = .ok (.ireturn, 1) := by decide +kernel
theorem dX4_reads_21 : decode cX4_reads 21 = .ok (.aload_n 0, 1) := by decide +kernel
theorem dX4_reads_22 : decode cX4_reads 22 = .ok (.getfield 7, 3) := by decide +kernel
theorem dX4_reads_25 : decode cX4_reads 25 = .ok (.bipush 6, 2) := by decide +kernel
theorem dX4_reads_27 : decode cX4_reads 27 = .ok (.dup2, 1) := by decide +kernel
theorem dX4_reads_28 : decode cX4_reads 28 = .ok (.iaload, 1) := by decide +kernel
theorem dX4_reads_29 : decode cX4_reads 29 = .ok (.iconst 1, 1) := by decide +kernel
theorem dX4_reads_30 : decode cX4_reads 30 = .ok (.iadd, 1) := by decide +kernel
theorem dX4_reads_31 : decode cX4_reads 31 = .ok (.iastore, 1) := by decide +kernel
theorem dX4_reads_32 : decode cX4_reads 32 = .ok (.aload_n 0, 1) := by decide +kernel
theorem dX4_reads_33 : decode cX4_reads 33 = .ok (.iload_n 1, 1) := by decide +kernel
theorem dX4_reads_34 : decode cX4_reads 34 = .ok (.invokevirtual 78, 3) := by decide +kernel
theorem dX4_reads_37 : decode cX4_reads 37 = .ok (.aload_n 0, 1) := by decide +kernel
theorem dX4_reads_38 : decode cX4_reads 38 = .ok (.aload_n 0, 1) := by decide +kernel
theorem dX4_reads_39 : decode cX4_reads 39 = .ok (.getfield 7, 3) := by decide +kernel
theorem dX4_reads_42 : decode cX4_reads 42 = .ok (.sipush 148, 3) := by decide +kernel
theorem dX4_reads_45 : decode cX4_reads 45 = .ok (.iload_n 1, 1) := by decide +kernel
theorem dX4_reads_46 : decode cX4_reads 46 = .ok (.iadd, 1) := by decide +kernel
theorem dX4_reads_47 : decode cX4_reads 47 = .ok (.iaload, 1) := by decide +kernel
theorem dX4_reads_48 : decode cX4_reads 48 = .ok (.iconst 0, 1) := by decide +kernel
theorem dX4_reads_49 : decode cX4_reads 49 = .ok (.invokevirtual 71, 3) := by decide +kernel
theorem dX4_reads_52 : decode cX4_reads 52 = .ok (.aload_n 0, 1) := by decide +kernel
theorem dX4_reads_53 : decode cX4_reads 53 = .ok (.getfield 7, 3) := by decide +kernel
theorem dX4_reads_56 : decode cX4_reads 56 = .ok (.bipush 84, 2) := by decide +kernel
theorem dX4_reads_58 : decode cX4_reads 58 = .ok (.iload_n 1, 1) := by decide +kernel
theorem dX4_reads_59 : decode cX4_reads 59 = .ok (.iadd, 1) := by decide +kernel
theorem dX4_reads_60 : decode cX4_reads 60 = .ok (.iaload, 1) := by decide +kernel
theorem dX4_reads_61 : decode cX4_reads 61 = .ok (.istore_n 2, 1) := by decide +kernel
theorem dX4_reads_62 : decode cX4_reads 62 = .ok (.aload_n 0, 1) := by decide +kernel
theorem dX4_reads_63 : decode cX4_reads 63 = .ok (.iload_n 1, 1) := by decide +kernel
theorem dX4_reads_64 : decode cX4_reads 64 = .ok (.invokevirtual 81, 3) := by decide +kernel
theorem dX4_reads_67 : decode cX4_reads 67 = .ok (.iload_n 2, 1) := by decide +kernel
end
section
theorem dX4_reads_68 : decode cX4_reads 68 = .ok (.ireturn, 1) := by decide +kernel
set_option maxRecDepth 20000 in
theorem ggX4_writes_X4_isAddress : GoodIn wsX4_writes wsX4_isAddress := goodIn_r _ [6, 7, 8, 5, 9, 10, 11, 12, 13, 1, 62, 63, 64, 65, 66, 67, 68, 69, 70, 71] (by decide +kernel) (by decide +kernel)
set_option maxRecDepth 20000 in
theorem gX4_writes_X4_isAddress : GoodIn wsX4_writes (wsV RX4 40 RX4 yX4_isAddress wsX4_isAddress) := goodIn_app (goodIn_of _ (by decide +kernel)) ggX4_writes_X4_isAddress
set_option maxRecDepth 20000 in
theorem ggX4_writes_X4_in : GoodIn wsX4_writes wsX4_in := goodIn_r _ [9] (by decide +kernel) (by decide +kernel)
set_option maxRecDepth 20000 in
theorem gX4_writes_X4_in : GoodIn wsX4_writes (va_wsS RX4 32 yX4_in wsX4_in) := goodIn_app (goodIn_of _ (by decide +kernel)) ggX4_writes_X4_in
set_option maxRecDepth 20000 in
theorem ggX4_writes_X4_isLost : GoodIn wsX4_writes wsX4_isLost := goodIn_r _ [17, 1, 62, 63, 64, 65, 66, 67, 68, 69, 70, 71] (by decide +kernel) (by decide +kernel)
set_option maxRecDepth 20000 in
theorem gX4_writes_X4_isLost : GoodIn wsX4_writes (wsV RX4 75 RX4 yX4_isLost wsX4_isLost) := goodIn_app (goodIn_of _ (by decide +kernel)) ggX4_writes_X4_isLost
set_option maxRecDepth 20000 in
theorem ggX4_writes_X4_lends : GoodIn wsX4_writes wsX4_lends := goodIn_r _ [21, 22, 23, 24, 5, 25, 26, 27, 28, 29, 1, 10, 11, 12, 13, 30, 31, 32, 33, 34, 35, 36, 37, 2, 3, 4, 6, 7, 8, 9, 38, 39, 40, 41, 62, 63, 64, 65, 66, 67, 68, 69, 70, 71] (by decide +kernel) (by decide +kernel)
set_option maxRecDepth 20000 in
theorem gX4_writes_X4_lends : GoodIn wsX4_writes (wsV RX4 68 RX4 yX4_lends wsX4_lends) := goodIn_app (goodIn_of _ (by decide +kernel)) ggX4_writes_X4_lends
set_option maxRecDepth 20000 in
theorem ggX4_writes_X4_goesTo : GoodIn wsX4_writes wsX4_goesTo := goodIn_r _ [45, 1, 46, 47, 48, 5, 49, 50, 51, 52, 62, 63, 64, 65, 66, 67, 68, 69, 70, 71] (by decide +kernel) (by decide +kernel)
set_option maxRecDepth 20000 in
theorem gX4_writes_X4_goesTo : GoodIn wsX4_writes (wsV RX4 78 RX4 yX4_goesTo wsX4_goesTo) := goodIn_app (goodIn_of _ (by decide +kernel)) ggX4_writes_X4_goesTo
set_option maxRecDepth 20000 in
theorem ggX4_writes_X4_wears : GoodIn wsX4_writes wsX4_wears := goodIn_r _ [56, 1, 57, 62, 63, 64, 65, 66, 67, 68, 69, 70, 71] (by decide +kernel) (by decide +kernel)
set_option maxRecDepth 20000 in
theorem gX4_writes_X4_wears : GoodIn wsX4_writes (wsV RX4 71 RX4 yX4_wears wsX4_wears) := goodIn_app (goodIn_of _ (by decide +kernel)) ggX4_writes_X4_wears
set_option maxRecDepth 20000 in
theorem ggX4_writes_X4_looks : GoodIn wsX4_writes wsX4_looks := goodIn_r _ [61, 1, 30, 31, 32, 5, 33, 18, 19, 20, 21, 22, 23, 24, 25, 26, 27, 28, 29, 10, 11, 12, 13, 34, 35, 36, 37, 2, 3, 4, 6, 7, 8, 9, 38, 39, 40, 41, 46, 47, 48, 49, 50, 51, 52, 53, 54, 55, 56, 57, 62, 63, 64, 65, 66, 67, 68, 69, 70, 71] (by decide +kernel) (by decide +kernel)
set_option maxRecDepth 20000 in
theorem gX4_writes_X4_looks : GoodIn wsX4_writes (wsV RX4 81 RX4 yX4_looks wsX4_looks) := goodIn_app (goodIn_of _ (by decide +kernel)) ggX4_writes_X4_looks
theorem dX4_writes_0 : decode cX4_writes 0 = .ok (.aload_n 0, 1) := by decide +kernel
theorem dX4_writes_1 : decode cX4_writes 1 = .ok (.iload_n 1, 1) := by decide +kernel
theorem dX4_writes_2 : decode cX4_writes 2 = .ok (.invokevirtual 40, 3) := by decide +kernel
theorem dX4_writes_5 : decode cX4_writes 5 = .ok (.ifCond .ne 5, 3) := by decide +kernel
theorem dX4_writes_8 : decode cX4_writes 8 = .ok (.iconst (-1), 1) := by decide +kernel
theorem dX4_writes_9 : decode cX4_writes 9 = .ok (.ireturn, 1) := by decide +kernel
theorem dX4_writes_10 : decode cX4_writes 10 = .ok (.iload_n 2, 1) := by decide +kernel
theorem dX4_writes_11 : decode cX4_writes 11 = .ok (.iconst 0, 1) := by decide +kernel
theorem dX4_writes_12 : decode cX4_writes 12 = .ok (.sipush 999, 3) := by decide +kernel
theorem dX4_writes_15 : decode cX4_writes 15 = .ok (.invokestatic 32, 3) := by decide +kernel
theorem dX4_writes_18 : decode cX4_writes 18 = .ok (.ifCond .ne 6, 3) := by decide +kernel
theorem dX4_writes_21 : decode cX4_writes 21 = .ok (.bipush (-2), 2) := by decide +kernel
theorem dX4_writes_23 : decode cX4_writes 23 = .ok (.ireturn, 1) := by decide +kernel
theorem dX4_writes_24 : decode cX4_writes 24 = .ok (.aload_n 0, 1) := by decide +kernel
theorem dX4_writes_25 : decode cX4_writes 25 = .ok (.iload_n 1, 1) := by decide +kernel
theorem dX4_writes_26 : decode cX4_writes 26 = .ok (.invokevirtual 75, 3) := by decide +kernel
theorem dX4_writes_29 : decode cX4_writes 29 = .ok (.ifCond .eq 29, 3) := by decide +kernel
theorem dX4_writes_32 : decode cX4_writes 32 = .ok (.aload_n 0, 1) := by decide +kernel
theorem dX4_writes_33 : decode cX4_writes 33 = .ok (.iload_n 1, 1) := by decide +kernel
theorem dX4_writes_34 : decode cX4_writes 34 = .ok (.invokevirtual 68, 3) := by decide +kernel
theorem dX4_writes_37 : decode cX4_writes 37 = .ok (.istore_n 3, 1) := by decide +kernel
theorem dX4_writes_38 : decode cX4_writes 38 = .ok (.iload_n 3, 1) := by decide +kernel
theorem dX4_writes_39 : decode cX4_writes 39 = .ok (.bipush (-5), 2) := by decide +kernel
theorem dX4_writes_41 : decode cX4_writes 41 = .ok (.if_icmp .ne 6, 3) := by decide +kernel
theorem dX4_writes_44 : decode cX4_writes 44 = .ok (.bipush (-4), 2) := by decide +kernel
theorem dX4_writes_46 : decode cX4_writes 46 = .ok (.ireturn, 1) := by decide +kernel
theorem dX4_writes_47 : decode cX4_writes 47 = .ok (.aload_n 0, 1) := by decide +kernel
theorem dX4_writes_48 : decode cX4_writes 48 = .ok (.getfield 7, 3) := by decide +kernel
theorem dX4_writes_51 : decode cX4_writes 51 = .ok (.sipush 148, 3) := by decide +kernel
theorem dX4_writes_54 : decode cX4_writes 54 = .ok (.iload_n 1, 1) := by decide +kernel
theorem dX4_writes_55 : decode cX4_writes 55 = .ok (.iadd, 1) := by decide +kernel
theorem dX4_writes_56 : decode cX4_writes 56 = .ok (.iload_n 3, 1) := by decide +kernel
theorem dX4_writes_57 : decode cX4_writes 57 = .ok (.iastore, 1) := by decide +kernel
theorem dX4_writes_58 : decode cX4_writes 58 = .ok (.aload_n 0, 1) := by decide +kernel
theorem dX4_writes_59 : decode cX4_writes 59 = .ok (.getfield 7, 3) := by decide +kernel
theorem dX4_writes_62 : decode cX4_writes 62 = .ok (.bipush 7, 2) := by decide +kernel
theorem dX4_writes_64 : decode cX4_writes 64 = .ok (.dup2, 1) := by decide +kernel
theorem dX4_writes_65 : decode cX4_writes 65 = .ok (.iaload, 1) := by decide +kernel
theorem dX4_writes_66 : decode cX4_writes 66 = .ok (.iconst 1, 1) := by decide +kernel
theorem dX4_writes_67 : decode cX4_writes 67 = .ok (.iadd, 1) := by decide +kernel
theorem dX4_writes_68 : decode cX4_writes 68 = .ok (.iastore, 1) := by decide +kernel
theorem dX4_writes_69 : decode cX4_writes 69 = .ok (.aload_n 0, 1) := by decide +kernel
theorem dX4_writes_70 : decode cX4_writes 70 = .ok (.iload_n 1, 1) := by decide +kernel
theorem dX4_writes_71 : decode cX4_writes 71 = .ok (.invokevirtual 78, 3) := by decide +kernel
theorem dX4_writes_74 : decode cX4_writes 74 = .ok (.aload_n 0, 1) := by decide +kernel
theorem dX4_writes_75 : decode cX4_writes 75 = .ok (.aload_n 0, 1) := by decide +kernel
theorem dX4_writes_76 : decode cX4_writes 76 = .ok (.getfield 7, 3) := by decide +kernel
theorem dX4_writes_79 : decode cX4_writes 79 = .ok (.sipush 148, 3) := by decide +kernel
theorem dX4_writes_82 : decode cX4_writes 82 = .ok (.iload_n 1, 1) := by decide +kernel
theorem dX4_writes_83 : decode cX4_writes 83 = .ok (.iadd, 1) := by decide +kernel
theorem dX4_writes_84 : decode cX4_writes 84 = .ok (.iaload, 1) := by decide +kernel
theorem dX4_writes_85 : decode cX4_writes 85 = .ok (.iconst 1, 1) := by decide +kernel
theorem dX4_writes_86 : decode cX4_writes 86 = .ok (.invokevirtual 71, 3) := by decide +kernel
theorem dX4_writes_89 : decode cX4_writes 89 = .ok (.aload_n 0, 1) := by decide +kernel
theorem dX4_writes_90 : decode cX4_writes 90 = .ok (.getfield 7, 3) := by decide +kernel
theorem dX4_writes_93 : decode cX4_writes 93 = .ok (.bipush 84, 2) := by decide +kernel
theorem dX4_writes_95 : decode cX4_writes 95 = .ok (.iload_n 1, 1) := by decide +kernel
theorem dX4_writes_96 : decode cX4_writes 96 = .ok (.iadd, 1) := by decide +kernel
theorem dX4_writes_97 : decode cX4_writes 97 = .ok (.iload_n 2, 1) := by decide +kernel
theorem dX4_writes_98 : decode cX4_writes 98 = .ok (.iastore, 1) := by decide +kernel
theorem dX4_writes_99 : decode cX4_writes 99 = .ok (.aload_n 0, 1) := by decide +kernel
theorem dX4_writes_100 : decode cX4_writes 100 = .ok (.iload_n 1, 1) := by decide +kernel
theorem dX4_writes_101 : decode cX4_writes 101 = .ok (.invokevirtual 81, 3) := by decide +kernel
theorem dX4_writes_104 : decode cX4_writes 104 = .ok (.aload_n 0, 1) := by decide +kernel
theorem dX4_writes_105 : decode cX4_writes 105 = .ok (.iload_n 1, 1) := by decide +kernel
theorem dX4_writes_106 : decode cX4_writes 106 = .ok (.invokevirtual 75, 3) := by decide +kernel
theorem dX4_writes_109 : decode cX4_writes 109 = .ok (.ifCond .eq 8, 3) := by decide +kernel
theorem dX4_writes_112 : decode cX4_writes 112 = .ok (.bipush 100, 2) := by decide +kernel
theorem dX4_writes_114 : decode cX4_writes 114 = .ok (.goto 13, 3) := by decide +kernel
theorem dX4_writes_117 : decode cX4_writes 117 = .ok (.aload_n 0, 1) := by decide +kernel
theorem dX4_writes_118 : decode cX4_writes 118 = .ok (.getfield 7, 3) := by decide +kernel
theorem dX4_writes_121 : decode cX4_writes 121 = .ok (.sipush 148, 3) := by decide +kernel
theorem dX4_writes_124 : decode cX4_writes 124 = .ok (.iload_n 1, 1) := by decide +kernel
theorem dX4_writes_125 : decode cX4_writes 125 = .ok (.iadd, 1) := by decide +kernel
theorem dX4_writes_126 : decode cX4_writes 126 = .ok (.iaload, 1) := by decide +kernel
theorem dX4_writes_127 : decode cX4_writes 127 = .ok (.ireturn, 1) := by decide +kernel
set_option maxRecDepth 20000 in
theorem ggX4_setLimit_X4_in : GoodIn wsX4_setLimit wsX4_in := goodIn_r _ [5] (by decide +kernel) (by decide +kernel)
set_option maxRecDepth 20000 in
theorem gX4_setLimit_X4_in : GoodIn wsX4_setLimit (va_wsS RX4 32 yX4_in wsX4_in) := goodIn_app (goodIn_of _ (by decide +kernel)) ggX4_setLimit_X4_in
set_option maxRecDepth 20000 in
theorem ggX4_setLimit_X4_record : GoodIn wsX4_setLimit wsX4_record := goodIn_r _ [9, 10, 11, 12, 13, 14, 15, 16, 17, 18, 19, 20, 21] (by decide +kernel) (by decide +kernel)
set_option maxRecDepth 20000 in
theorem gX4_setLimit_X4_record : GoodIn wsX4_setLimit (wsV RX4 84 RX4 yX4_record wsX4_record) := goodIn_app (goodIn_of _ (by decide +kernel)) ggX4_setLimit_X4_record
theorem dX4_setLimit_0 : decode cX4_setLimit 0 = .ok (.iload_n 1, 1) := by decide +kernel
theorem dX4_setLimit_1 : decode cX4_setLimit 1 = .ok (.iconst 1, 1) := by decide +kernel
theorem dX4_setLimit_2 : decode cX4_setLimit 2 = .ok (.sipush 999, 3) := by decide +kernel
theorem dX4_setLimit_5 : decode cX4_setLimit 5 = .ok (.invokestatic 32, 3) := by decide +kernel
theorem dX4_setLimit_8 : decode cX4_setLimit 8 = .ok (.ifCond .ne 6, 3) := by decide +kernel
theorem dX4_setLimit_11 : decode cX4_setLimit 11 = .ok (.bipush (-2), 2) := by decide +kernel
theorem dX4_setLimit_13 : decode cX4_setLimit 13 = .ok (.ireturn, 1) := by decide +kernel
theorem dX4_setLimit_14 : decode cX4_setLimit 14 = .ok (.aload_n 0, 1) := by decide +kernel
theorem dX4_setLimit_15 : decode cX4_setLimit 15 = .ok (.getfield 7, 3) := by decide +kernel
theorem dX4_setLimit_18 : decode cX4_setLimit 18 = .ok (.iconst 0, 1) := by decide +kernel
theorem dX4_setLimit_19 : decode cX4_setLimit 19 = .ok (.iaload, 1) := by decide +kernel
theorem dX4_setLimit_20 : decode cX4_setLimit 20 = .ok (.istore_n 2, 1) := by decide +kernel
theorem dX4_setLimit_21 : decode cX4_setLimit 21 = .ok (.iload_n 2, 1) := by decide +kernel
theorem dX4_setLimit_22 : decode cX4_setLimit 22 = .ok (.iload_n 1, 1) := by decide +kernel
theorem dX4_setLimit_23 : decode cX4_setLimit 23 = .ok (.if_icmp .ne 6, 3) := by decide +kernel
theorem dX4_setLimit_26 : decode cX4_setLimit 26 = .ok (.bipush (-5), 2) := by decide +kernel
theorem dX4_setLimit_28 : decode cX4_setLimit 28 = .ok (.ireturn, 1) := by decide +kernel
theorem dX4_setLimit_29 : decode cX4_setLimit 29 = .ok (.aload_n 0, 1) := by decide +kernel
theorem dX4_setLimit_30 : decode cX4_setLimit 30 = .ok (.aload_n 0, 1) := by decide +kernel
theorem dX4_setLimit_31 : decode cX4_setLimit 31 = .ok (.getfield 7, 3) := by decide +kernel
theorem dX4_setLimit_34 : decode cX4_setLimit 34 = .ok (.invokevirtual 84, 3) := by decide +kernel
theorem dX4_setLimit_37 : decode cX4_setLimit 37 = .ok (.aload_n 0, 1) := by decide +kernel
theorem dX4_setLimit_38 : decode cX4_setLimit 38 = .ok (.getfield 7, 3) := by decide +kernel
theorem dX4_setLimit_41 : decode cX4_setLimit 41 = .ok (.iconst 0, 1) := by decide +kernel
theorem dX4_setLimit_42 : decode cX4_setLimit 42 = .ok (.iload_n 1, 1) := by decide +kernel
theorem dX4_setLimit_43 : decode cX4_setLimit 43 = .ok (.iastore, 1) := by decide +kernel
theorem dX4_setLimit_44 : decode cX4_setLimit 44 = .ok (.iload_n 2, 1) := by decide +kernel
theorem dX4_setLimit_45 : decode cX4_setLimit 45 = .ok (.ireturn, 1) := by decide +kernel
theorem dX4_wear_0 : decode cX4_wear 0 = .ok (.iconst 0, 1) := by decide +kernel
theorem dX4_wear_1 : decode cX4_wear 1 = .ok (.istore_n 2, 1) := by decide +kernel
theorem dX4_wear_2 : decode cX4_wear 2 = .ok (.iconst 0, 1) := by decide +kernel
theorem dX4_wear_3 : decode cX4_wear 3 = .ok (.istore_n 3, 1) := by decide +kernel
theorem dX4_wear_4 : decode cX4_wear 4 = .ok (.iload_n 3, 1) := by decide +kernel
theorem dX4_wear_5 : decode cX4_wear 5 = .ok (.bipush 16, 2) := by decide +kernel
theorem dX4_wear_7 : decode cX4_wear 7 = .ok (.if_icmp .ge 26, 3) := by decide +kernel
theorem dX4_wear_10 : decode cX4_wear 10 = .ok (.iload_n 2, 1) := by decide +kernel
theorem dX4_wear_11 : decode cX4_wear 11 = .ok (.aload_n 0, 1) := by decide +kernel
theorem dX4_wear_12 : decode cX4_wear 12 = .ok (.getfield 7, 3) := by decide +kernel
theorem dX4_wear_15 : decode cX4_wear 15 = .ok (.bipush 20, 2) := by decide +kernel
theorem dX4_wear_17 : decode cX4_wear 17 = .ok (.bipush 16, 2) := by decide +kernel
theorem dX4_wear_19 : decode cX4_wear 19 = .ok (.iload_n 1, 1) := by decide +kernel
theorem dX4_wear_20 : decode cX4_wear 20 = .ok (.imul, 1) := by decide +kernel
theorem dX4_wear_21 : decode cX4_wear 21 = .ok (.iadd, 1) := by decide +kernel
theorem dX4_wear_22 : decode cX4_wear 22 = .ok (.iload_n 3, 1) := by decide +kernel
theorem dX4_wear_23 : decode cX4_wear 23 = .ok (.iadd, 1) := by decide +kernel
theorem dX4_wear_24 : decode cX4_wear 24 = .ok (.iaload, 1) := by decide +kernel
theorem dX4_wear_25 : decode cX4_wear 25 = .ok (.iadd, 1) := by decide +kernel
theorem dX4_wear_26 : decode cX4_wear 26 = .ok (.istore_n 2, 1) := by decide +kernel
theorem dX4_wear_27 : decode cX4_wear 27 = .ok (.iinc 3 1, 3) := by decide +kernel
theorem dX4_wear_30 : decode cX4_wear 30 = .ok (.goto (-26), 3) := by decide +kernel
theorem dX4_wear_33 : decode cX4_wear 33 = .ok (.iload_n 2, 1) := by decide +kernel
theorem dX4_wear_34 : decode cX4_wear 34 = .ok (.ireturn, 1) := by decide +kernel
set_option maxRecDepth 20000 in
theorem ggX4_setHead_X4_isHead : GoodIn wsX4_setHead wsX4_isHead := goodIn_r _ [5, 6, 7, 4, 8] (by decide +kernel) (by decide +kernel)
set_option maxRecDepth 20000 in
theorem gX4_setHead_X4_isHead : GoodIn wsX4_setHead (va_wsS RX4 88 yX4_isHead wsX4_isHead) := goodIn_app (goodIn_of _ (by decide +kernel)) ggX4_setHead_X4_isHead
set_option maxRecDepth 20000 in
theorem ggX4_setHead_X4_in : GoodIn wsX4_setHead wsX4_in := goodIn_r _ [8] (by decide +kernel) (by decide +kernel)
set_option maxRecDepth 20000 in
theorem gX4_setHead_X4_in : GoodIn wsX4_setHead (va_wsS RX4 32 yX4_in wsX4_in) := goodIn_app (goodIn_of _ (by decide +kernel)) ggX4_setHead_X4_in
set_option maxRecDepth 20000 in
theorem ggX4_setHead_X4_wear : GoodIn wsX4_setHead wsX4_wear := goodIn_r _ [12, 1, 19, 20, 21, 22, 23, 24, 25, 26, 27, 28] (by decide +kernel) (by decide +kernel)
set_option maxRecDepth 20000 in
theorem gX4_setHead_X4_wear : GoodIn wsX4_setHead (wsV RX4 91 RX4 yX4_wear wsX4_wear) := goodIn_app (goodIn_of _ (by decide +kernel)) ggX4_setHead_X4_wear
set_option maxRecDepth 20000 in
theorem ggX4_setHead_X4_record : GoodIn wsX4_setHead wsX4_record := goodIn_r _ [16, 17, 18, 19, 20, 21, 22, 23, 24, 25, 26, 27, 28] (by decide +kernel) (by decide +kernel)
set_option maxRecDepth 20000 in
theorem gX4_setHead_X4_record : GoodIn wsX4_setHead (wsV RX4 84 RX4 yX4_record wsX4_record) := goodIn_app (goodIn_of _ (by decide +kernel)) ggX4_setHead_X4_record
theorem dX4_setHead_0 : decode cX4_setHead 0 = .ok (.iload_n 1, 1) := by decide +kernel
theorem dX4_setHead_1 : decode cX4_setHead 1 = .ok (.invokestatic 88, 3) := by decide +kernel
theorem dX4_setHead_4 : decode cX4_setHead 4 = .ok (.ifCond .ne 5, 3) := by decide +kernel
theorem dX4_setHead_7 : decode cX4_setHead 7 = .ok (.iconst (-1), 1) := by decide +kernel
theorem dX4_setHead_8 : decode cX4_setHead 8 = .ok (.ireturn, 1) := by decide +kernel
theorem dX4_setHead_9 : decode cX4_setHead 9 = .ok (.iload_n 3, 1) := by decide +kernel
theorem dX4_setHead_10 : decode cX4_setHead 10 = .ok (.iconst 1, 1) := by decide +kernel
theorem dX4_setHead_11 : decode cX4_setHead 11 = .ok (.iload_n 2, 1) := by decide +kernel
theorem dX4_setHead_12 : decode cX4_setHead 12 = .ok (.ifCond .eq 8, 3) := by decide +kernel
theorem dX4_setHead_15 : decode cX4_setHead 15 = .ok (.bipush 9, 2) := by decide +kernel
theorem dX4_setHead_17 : decode cX4_setHead 17 = .ok (.goto 5, 3) := by decide +kernel
theorem dX4_setHead_20 : decode cX4_setHead 20 = .ok (.bipush 6, 2) := by decide +kernel
theorem dX4_setHead_22 : decode cX4_setHead 22 = .ok (.invokestatic 32, 3) := by decide +kernel
theorem dX4_setHead_25 : decode cX4_setHead 25 = .ok (.ifCond .ne 6, 3) := by decide +kernel
theorem dX4_setHead_28 : decode cX4_setHead 28 = .ok (.bipush (-2), 2) := by decide +kernel
theorem dX4_setHead_30 : decode cX4_setHead 30 = .ok (.ireturn, 1) := by decide +kernel
theorem dX4_setHead_31 : decode cX4_setHead 31 = .ok (.iload_n 2, 1) := by decide +kernel
theorem dX4_setHead_32 : decode cX4_setHead 32 = .ok (.ifCond .ne 27, 3) := by decide +kernel
theorem dX4_setHead_35 : decode cX4_setHead 35 = .ok (.aload_n 0, 1) := by decide +kernel
theorem dX4_setHead_36 : decode cX4_setHead 36 = .ok (.iload_n 1, 1) := by decide +kernel
theorem dX4_setHead_37 : decode cX4_setHead 37 = .ok (.invokevirtual 91, 3) := by decide +kernel
theorem dX4_setHead_40 : decode cX4_setHead 40 = .ok (.ifCond .gt 16, 3) := by decide +kernel
theorem dX4_setHead_43 : decode cX4_setHead 43 = .ok (.aload_n 0, 1) := by decide +kernel
theorem dX4_setHead_44 : decode cX4_setHead 44 = .ok (.getfield 7, 3) := by decide +kernel
theorem dX4_setHead_47 : decode cX4_setHead 47 = .ok (.bipush 16, 2) := by decide +kernel
theorem dX4_setHead_49 : decode cX4_setHead 49 = .ok (.iload_n 1, 1) := by decide +kernel
theorem dX4_setHead_50 : decode cX4_setHead 50 = .ok (.iadd, 1) := by decide +kernel
theorem dX4_setHead_51 : decode cX4_setHead 51 = .ok (.iaload, 1) := by decide +kernel
theorem dX4_setHead_52 : decode cX4_setHead 52 = .ok (.iconst 1, 1) := by decide +kernel
theorem dX4_setHead_53 : decode cX4_setHead 53 = .ok (.if_icmp .ne 6, 3) := by decide +kernel
theorem dX4_setHead_56 : decode cX4_setHead 56 = .ok (.bipush (-4), 2) := by decide +kernel
theorem dX4_setHead_58 : decode cX4_setHead 58 = .ok (.ireturn, 1) := by decide +kernel
theorem dX4_setHead_59 : decode cX4_setHead 59 = .ok (.iload_n 2, 1) := by decide +kernel
theorem dX4_setHead_60 : decode cX4_setHead 60 = .ok (.ifCond .eq 8, 3) := by decide +kernel
theorem dX4_setHead_63 : decode cX4_setHead 63 = .ok (.bipush 8, 2) := by decide +kernel
theorem dX4_setHead_65 : decode cX4_setHead 65 = .ok (.goto 5, 3) := by decide +kernel
theorem dX4_setHead_68 : decode cX4_setHead 68 = .ok (.bipush 12, 2) := by decide +kernel
theorem dX4_setHead_70 : decode cX4_setHead 70 = .ok (.iload_n 1, 1) := by decide +kernel
theorem dX4_setHead_71 : decode cX4_setHead 71 = .ok (.iadd, 1) := by decide +kernel
theorem dX4_setHead_72 : decode cX4_setHead 72 = .ok (.istore 4, 2) := by decide +kernel
theorem dX4_setHead_74 : decode cX4_setHead 74 = .ok (.aload_n 0, 1) := by decide +kernel
theorem dX4_setHead_75 : decode cX4_setHead 75 = .ok (.getfield 7, 3) := by decide +kernel
theorem dX4_setHead_78 : decode cX4_setHead 78 = .ok (.iload 4, 2) := by decide +kernel
theorem dX4_setHead_80 : decode cX4_setHead 80 = .ok (.iaload, 1) := by decide +kernel
theorem dX4_setHead_81 : decode cX4_setHead 81 = .ok (.istore 5, 2) := by decide +kernel
theorem dX4_setHead_83 : decode cX4_setHead 83 = .ok (.iload 5, 2) := by decide +kernel
theorem dX4_setHead_85 : decode cX4_setHead 85 = .ok (.iload_n 3, 1) := by decide +kernel
theorem dX4_setHead_86 : decode cX4_setHead 86 = .ok (.if_icmp .ne 6, 3) := by decide +kernel
theorem dX4_setHead_89 : decode cX4_setHead 89 = .ok (.bipush (-5), 2) := by decide +kernel
theorem dX4_setHead_91 : decode cX4_setHead 91 = .ok (.ireturn, 1) := by decide +kernel
theorem dX4_setHead_92 : decode cX4_setHead 92 = .ok (.aload_n 0, 1) := by decide +kernel
theorem dX4_setHead_93 : decode cX4_setHead 93 = .ok (.aload_n 0, 1) := by decide +kernel
theorem dX4_setHead_94 : decode cX4_setHead 94 = .ok (.getfield 7, 3) := by decide +kernel
theorem dX4_setHead_97 : decode cX4_setHead 97 = .ok (.invokevirtual 84, 3) := by decide +kernel
theorem dX4_setHead_100 : decode cX4_setHead 100 = .ok (.aload_n 0, 1) := by decide +kernel
theorem dX4_setHead_101 : decode cX4_setHead 101 = .ok (.getfield 7, 3) := by decide +kernel
theorem dX4_setHead_104 : decode cX4_setHead 104 = .ok (.iload 4, 2) := by decide +kernel
theorem dX4_setHead_106 : decode cX4_setHead 106 = .ok (.iload_n 3, 1) := by decide +kernel
theorem dX4_setHead_107 : decode cX4_setHead 107 = .ok (.iastore, 1) := by decide +kernel
theorem dX4_setHead_108 : decode cX4_setHead 108 = .ok (.iload 5, 2) := by decide +kernel
theorem dX4_setHead_110 : decode cX4_setHead 110 = .ok (.ireturn, 1) := by decide +kernel
set_option maxRecDepth 20000 in
theorem ggX4_read_X4_copies : GoodIn wsX4_read wsX4_copies := goodIn_r _ [6] (by decide +kernel) (by decide +kernel)
set_option maxRecDepth 20000 in
theorem gX4_read_X4_copies : GoodIn wsX4_read (va_wsS RX4 94 yX4_copies wsX4_copies) := goodIn_app (goodIn_of _ (by decide +kernel)) ggX4_read_X4_copies
set_option maxRecDepth 20000 in
theorem ggX4_read_X4_reads : GoodIn wsX4_read wsX4_reads := goodIn_r _ [10, 1, 11, 12, 13, 5, 14, 15, 16, 17, 18, 19, 20, 21, 22, 23, 24, 25, 26, 27, 28, 29, 30, 31, 32, 33, 34, 35, 36, 37, 38, 39, 40, 41, 42, 43, 44, 45, 46, 47, 48, 49, 50, 51, 52, 53, 54, 55, 56, 57, 58, 59, 60, 61, 62, 63, 64, 65, 66, 67, 68, 69, 76, 77, 78, 79, 80, 81, 82, 83, 84, 85] (by decide +kernel) (by decide +kernel)
set_option maxRecDepth 20000 in
theorem gX4_read_X4_reads : GoodIn wsX4_read (wsV RX4 98 RX4 yX4_reads wsX4_reads) := goodIn_app (goodIn_of _ (by decide +kernel)) ggX4_read_X4_reads
set_option maxRecDepth 20000 in
theorem ggX4_read_X4_record : GoodIn wsX4_read wsX4_record := goodIn_r _ [73, 74, 75, 76, 77, 78, 79, 80, 81, 82, 83, 84, 85] (by decide +kernel) (by decide +kernel)
set_option maxRecDepth 20000 in
theorem gX4_read_X4_record : GoodIn wsX4_read (wsV RX4 84 RX4 yX4_record wsX4_record) := goodIn_app (goodIn_of _ (by decide +kernel)) ggX4_read_X4_record
theorem dX4_read_0 : decode cX4_read 0 = .ok (.aload_n 0, 1) := by decide +kernel
theorem dX4_read_1 : decode cX4_read 1 = .ok (.getfield 7, 3) := by decide +kernel
theorem dX4_read_4 : decode cX4_read 4 = .ok (.aload_n 0, 1) := by decide +kernel
theorem dX4_read_5 : decode cX4_read 5 = .ok (.getfield 13, 3) := by decide +kernel
theorem dX4_read_8 : decode cX4_read 8 = .ok (.invokestatic 94, 3) := by decide +kernel
theorem dX4_read_11 : decode cX4_read 11 = .ok (.aload_n 0, 1) := by decide +kernel
theorem dX4_read_12 : decode cX4_read 12 = .ok (.iload_n 1, 1) := by decide +kernel
theorem dX4_read_13 : decode cX4_read 13 = .ok (.invokevirtual 98, 3) := by decide +kernel
theorem dX4_read_16 : decode cX4_read 16 = .ok (.istore_n 2, 1) := by decide +kernel
theorem dX4_read_17 : decode cX4_read 17 = .ok (.iload_n 2, 1) := by decide +kernel
theorem dX4_read_18 : decode cX4_read 18 = .ok (.ifCond .lt 11, 3) := by decide +kernel
theorem dX4_read_21 : decode cX4_read 21 = .ok (.aload_n 0, 1) := by decide +kernel
theorem dX4_read_22 : decode cX4_read 22 = .ok (.aload_n 0, 1) := by decide +kernel
theorem dX4_read_23 : decode cX4_read 23 = .ok (.getfield 13, 3) := by decide +kernel
theorem dX4_read_26 : decode cX4_read 26 = .ok (.invokevirtual 84, 3) := by decide +kernel
theorem dX4_read_29 : decode cX4_read 29 = .ok (.iload_n 2, 1) := by decide +kernel
theorem dX4_read_30 : decode cX4_read 30 = .ok (.ireturn, 1) := by decide +kernel
set_option maxRecDepth 20000 in
theorem ggX4_write_X4_copies : GoodIn wsX4_write wsX4_copies := goodIn_r _ [6] (by decide +kernel) (by decide +kernel)
set_option maxRecDepth 20000 in
theorem gX4_write_X4_copies : GoodIn wsX4_write (va_wsS RX4 94 yX4_copies wsX4_copies) := goodIn_app (goodIn_of _ (by decide +kernel)) ggX4_write_X4_copies
set_option maxRecDepth 20000 in
theorem ggX4_write_X4_writes : GoodIn wsX4_write wsX4_writes := goodIn_r _ [10, 1, 11, 12, 13, 5, 14, 15, 16, 17, 18, 19, 20, 21, 22, 23, 24, 25, 26, 27, 28, 29, 30, 31, 32, 33, 34, 35, 36, 37, 38, 39, 40, 41, 42, 43, 44, 45, 46, 47, 48, 49, 50, 51, 52, 53, 54, 55, 56, 57, 58, 59, 60, 61, 62, 63, 64, 65, 66, 67, 68, 69, 76, 77, 78, 79, 80, 81, 82, 83, 84, 85] (by decide +kernel) (by decide +kernel)
set_option maxRecDepth 20000 in
theorem gX4_write_X4_writes : GoodIn wsX4_write (wsV RX4 101 RX4 yX4_writes wsX4_writes) := goodIn_app (goodIn_of _ (by decide +kernel)) ggX4_write_X4_writes
set_option maxRecDepth 20000 in
theorem ggX4_write_X4_record : GoodIn wsX4_write wsX4_record := goodIn_r _ [73, 74, 75, 76, 77, 78, 79, 80, 81, 82, 83, 84, 85] (by decide +kernel) (by decide +kernel)
set_option maxRecDepth 20000 in
theorem gX4_write_X4_record : GoodIn wsX4_write (wsV RX4 84 RX4 yX4_record wsX4_record) := goodIn_app (goodIn_of _ (by decide +kernel)) ggX4_write_X4_record
theorem dX4_write_0 : decode cX4_write 0 = .ok (.aload_n 0, 1) := by decide +kernel
theorem dX4_write_1 : decode cX4_write 1 = .ok (.getfield 7, 3) := by decide +kernel
theorem dX4_write_4 : decode cX4_write 4 = .ok (.aload_n 0, 1) := by decide +kernel
theorem dX4_write_5 : decode cX4_write 5 = .ok (.getfield 13, 3) := by decide +kernel
theorem dX4_write_8 : decode cX4_write 8 = .ok (.invokestatic 94, 3) := by decide +kernel
theorem dX4_write_11 : decode cX4_write 11 = .ok (.aload_n 0, 1) := by decide +kernel
theorem dX4_write_12 : decode cX4_write 12 = .ok (.iload_n 1, 1) := by decide +kernel
theorem dX4_write_13 : decode cX4_write 13 = .ok (.iload_n 2, 1) := by decide +kernel
theorem dX4_write_14 : decode cX4_write 14 = .ok (.invokevirtual 101, 3) := by decide +kernel
theorem dX4_write_17 : decode cX4_write 17 = .ok (.istore_n 3, 1) := by decide +kernel
theorem dX4_write_18 : decode cX4_write 18 = .ok (.iload_n 3, 1) := by decide +kernel
theorem dX4_write_19 : decode cX4_write 19 = .ok (.ifCond .lt 11, 3) := by decide +kernel
theorem dX4_write_22 : decode cX4_write 22 = .ok (.aload_n 0, 1) := by decide +kernel
theorem dX4_write_23 : decode cX4_write 23 = .ok (.aload_n 0, 1) := by decide +kernel
theorem dX4_write_24 : decode cX4_write 24 = .ok (.getfield 13, 3) := by decide +kernel
theorem dX4_write_27 : decode cX4_write 27 = .ok (.invokevirtual 84, 3) := by decide +kernel
theorem dX4_write_30 : decode cX4_write 30 = .ok (.iload_n 3, 1) := by decide +kernel
theorem dX4_write_31 : decode cX4_write 31 = .ok (.ireturn, 1) := by decide +kernel
set_option maxRecDepth 20000 in
theorem ggX4_copiesOne_X4_copies : GoodIn wsX4_copiesOne wsX4_copies := goodIn_r _ [6] (by decide +kernel) (by decide +kernel)
set_option maxRecDepth 20000 in
theorem gX4_copiesOne_X4_copies : GoodIn wsX4_copiesOne (va_wsS RX4 94 yX4_copies wsX4_copies) := goodIn_app (goodIn_of _ (by decide +kernel)) ggX4_copiesOne_X4_copies
set_option maxRecDepth 20000 in
theorem ggX4_copiesOne_X4_reads : GoodIn wsX4_copiesOne wsX4_reads := goodIn_r _ [10, 1, 11, 12, 13, 5, 14, 15, 16, 17, 18, 19, 20, 21, 22, 23, 24, 25, 26, 27, 28, 29, 30, 31, 32, 33, 34, 35, 36, 37, 38, 39, 40, 41, 42, 43, 44, 45, 46, 47, 48, 49, 50, 51, 52, 53, 54, 55, 56, 57, 58, 59, 60, 61, 62, 63, 64, 65, 66, 67, 68, 69, 74, 75, 76, 77, 78, 79, 80, 81, 82, 83] (by decide +kernel) (by decide +kernel)
set_option maxRecDepth 20000 in
theorem gX4_copiesOne_X4_reads : GoodIn wsX4_copiesOne (wsV RX4 98 RX4 yX4_reads wsX4_reads) := goodIn_app (goodIn_of _ (by decide +kernel)) ggX4_copiesOne_X4_reads
set_option maxRecDepth 20000 in
theorem ggX4_copiesOne_X4_writes : GoodIn wsX4_copiesOne wsX4_writes := goodIn_r _ [73, 1, 11, 12, 13, 5, 14, 15, 16, 17, 18, 19, 20, 21, 22, 23, 24, 25, 50, 51, 52, 53, 54, 55, 56, 57, 58, 59, 60, 61, 46, 47, 48, 49, 62, 63, 64, 65, 66, 67, 68, 69, 26, 27, 28, 29, 30, 31, 32, 33, 34, 35, 36, 37, 38, 39, 40, 41, 42, 43, 44, 45, 74, 75, 76, 77, 78, 79, 80, 81, 82, 83] (by decide +kernel) (by decide +kernel)
set_option maxRecDepth 20000 in
theorem gX4_copiesOne_X4_writes : GoodIn wsX4_copiesOne (wsV RX4 101 RX4 yX4_writes wsX4_writes) := goodIn_app (goodIn_of _ (by decide +kernel)) ggX4_copiesOne_X4_writes
theorem dX4_copiesOne_0 : decode cX4_copiesOne 0 = .ok (.aload_n 0, 1) := by decide +kernel
theorem dX4_copiesOne_1 : decode cX4_copiesOne 1 = .ok (.getfield 7, 3) := by decide +kernel
theorem dX4_copiesOne_4 : decode cX4_copiesOne 4 = .ok (.aload_n 0, 1) := by decide +kernel
theorem dX4_copiesOne_5 : decode cX4_copiesOne 5 = .ok (.getfield 16, 3) := by decide +kernel
theorem dX4_copiesOne_8 : decode cX4_copiesOne 8 = .ok (.invokestatic 94, 3) := by decide +kernel
theorem dX4_copiesOne_11 : decode cX4_copiesOne 11 = .ok (.aload_n 0, 1) := by decide +kernel
theorem dX4_copiesOne_12 : decode cX4_copiesOne 12 = .ok (.iload_n 1, 1) := by decide +kernel
theorem dX4_copiesOne_13 : decode cX4_copiesOne 13 = .ok (.invokevirtual 98, 3) := by decide +kernel
theorem dX4_copiesOne_16 : decode cX4_copiesOne 16 = .ok (.istore_n 3, 1) := by decide +kernel
theorem dX4_copiesOne_17 : decode cX4_copiesOne 17 = .ok (.iload_n 3, 1) := by decide +kernel
theorem dX4_copiesOne_18 : decode cX4_copiesOne 18 = .ok (.ifCond .lt 14, 3) := by decide +kernel
theorem dX4_copiesOne_21 : decode cX4_copiesOne 21 = .ok (.aload_n 0, 1) := by decide +kernel
theorem dX4_copiesOne_22 : decode cX4_copiesOne 22 = .ok (.iload_n 2, 1) := by decide +kernel
theorem dX4_copiesOne_23 : decode cX4_copiesOne 23 = .ok (.iload_n 3, 1) := by decide +kernel
theorem dX4_copiesOne_24 : decode cX4_copiesOne 24 = .ok (.invokevirtual 101, 3) := by decide +kernel
theorem dX4_copiesOne_27 : decode cX4_copiesOne 27 = .ok (.ifCond .lt 5, 3) := by decide +kernel
theorem dX4_copiesOne_30 : decode cX4_copiesOne 30 = .ok (.iconst 1, 1) := by decide +kernel
theorem dX4_copiesOne_31 : decode cX4_copiesOne 31 = .ok (.ireturn, 1) := by decide +kernel
theorem dX4_copiesOne_32 : decode cX4_copiesOne 32 = .ok (.aload_n 0, 1) := by decide +kernel
theorem dX4_copiesOne_33 : decode cX4_copiesOne 33 = .ok (.getfield 16, 3) := by decide +kernel
theorem dX4_copiesOne_36 : decode cX4_copiesOne 36 = .ok (.aload_n 0, 1) := by decide +kernel
theorem dX4_copiesOne_37 : decode cX4_copiesOne 37 = .ok (.getfield 7, 3) := by decide +kernel
theorem dX4_copiesOne_40 : decode cX4_copiesOne 40 = .ok (.invokestatic 94, 3) := by decide +kernel
theorem dX4_copiesOne_43 : decode cX4_copiesOne 43 = .ok (.iconst 0, 1) := by decide +kernel
theorem dX4_copiesOne_44 : decode cX4_copiesOne 44 = .ok (.ireturn, 1) := by decide +kernel
set_option maxRecDepth 20000 in
theorem ggX4_copy_X4_isAddress : GoodIn wsX4_copy wsX4_isAddress := goodIn_r _ [7, 8, 9, 6, 10, 11, 12, 13, 14, 1, 85, 86, 87, 88, 89, 90, 91, 92, 93, 94] (by decide +kernel) (by decide +kernel)
set_option maxRecDepth 20000 in
theorem gX4_copy_X4_isAddress : GoodIn wsX4_copy (wsV RX4 40 RX4 yX4_isAddress wsX4_isAddress) := goodIn_app (goodIn_of _ (by decide +kernel)) ggX4_copy_X4_isAddress
set_option maxRecDepth 20000 in
theorem ggX4_copy_X4_in : GoodIn wsX4_copy wsX4_in := goodIn_r _ [10] (by decide +kernel) (by decide +kernel)
set_option maxRecDepth 20000 in
theorem gX4_copy_X4_in : GoodIn wsX4_copy (va_wsS RX4 32 yX4_in wsX4_in) := goodIn_app (goodIn_of _ (by decide +kernel)) ggX4_copy_X4_in
set_option maxRecDepth 20000 in
theorem ggX4_copy_X4_copies : GoodIn wsX4_copy wsX4_copies := goodIn_r _ [17] (by decide +kernel) (by decide +kernel)
set_option maxRecDepth 20000 in
theorem gX4_copy_X4_copies : GoodIn wsX4_copy (va_wsS RX4 94 yX4_copies wsX4_copies) := goodIn_app (goodIn_of _ (by decide +kernel)) ggX4_copy_X4_copies
set_option maxRecDepth 20000 in
theorem ggX4_copy_X4_copiesOne : GoodIn wsX4_copy wsX4_copiesOne := goodIn_r _ [21, 1, 22, 15, 16, 6, 17, 23, 24, 25, 26, 3, 4, 5, 7, 8, 9, 10, 11, 12, 13, 14, 27, 28, 29, 30, 31, 32, 33, 34, 35, 36, 37, 38, 39, 40, 41, 42, 43, 44, 45, 46, 47, 48, 49, 50, 51, 52, 53, 54, 55, 56, 57, 58, 59, 60, 61, 62, 63, 64, 65, 66, 67, 68, 69, 70, 71, 72, 73, 74, 75, 76, 77, 78, 85, 86, 87, 88, 89, 90, 91, 92, 93, 94] (by decide +kernel) (by decide +kernel)
set_option maxRecDepth 20000 in
theorem gX4_copy_X4_copiesOne : GoodIn wsX4_copy (wsV RX4 105 RX4 yX4_copiesOne wsX4_copiesOne) := goodIn_app (goodIn_of _ (by decide +kernel)) ggX4_copy_X4_copiesOne
set_option maxRecDepth 20000 in
theorem ggX4_copy_X4_record : GoodIn wsX4_copy wsX4_record := goodIn_r _ [82, 83, 84, 85, 86, 87, 88, 89, 90, 91, 92, 93, 94] (by decide +kernel) (by decide +kernel)
set_option maxRecDepth 20000 in
theorem gX4_copy_X4_record : GoodIn wsX4_copy (wsV RX4 84 RX4 yX4_record wsX4_record) := goodIn_app (goodIn_of _ (by decide +kernel)) ggX4_copy_X4_record
theorem dX4_copy_0 : decode cX4_copy 0 = .ok (.aload_n 0, 1) := by decide +kernel
theorem dX4_copy_1 : decode cX4_copy 1 = .ok (.iload_n 1, 1) := by decide +kernel
theorem dX4_copy_2 : decode cX4_copy 2 = .ok (.invokevirtual 40, 3) := by decide +kernel
theorem dX4_copy_5 : decode cX4_copy 5 = .ok (.ifCond .eq 11, 3) := by decide +kernel
theorem dX4_copy_8 : decode cX4_copy 8 = .ok (.aload_n 0, 1) := by decide +kernel
theorem dX4_copy_9 : decode cX4_copy 9 = .ok (.iload_n 2, 1) := by decide +kernel
theorem dX4_copy_10 : decode cX4_copy 10 = .ok (.invokevirtual 40, 3) := by decide +kernel
theorem dX4_copy_13 : decode cX4_copy 13 = .ok (.ifCond .ne 5, 3) := by decide +kernel
theorem dX4_copy_16 : decode cX4_copy 16 = .ok (.iconst (-1), 1) := by decide +kernel
theorem dX4_copy_17 : decode cX4_copy 17 = .ok (.ireturn, 1) := by decide +kernel
theorem dX4_copy_18 : decode cX4_copy 18 = .ok (.iload_n 3, 1) := by decide +kernel
theorem dX4_copy_19 : decode cX4_copy 19 = .ok (.iconst 1, 1) := by decide +kernel
theorem dX4_copy_20 : decode cX4_copy 20 = .ok (.bipush 16, 2) := by decide +kernel
theorem dX4_copy_22 : decode cX4_copy 22 = .ok (.invokestatic 32, 3) := by decide +kernel
theorem dX4_copy_25 : decode cX4_copy 25 = .ok (.ifCond .ne 6, 3) := by decide +kernel
theorem dX4_copy_28 : decode cX4_copy 28 = .ok (.bipush (-2), 2) := by decide +kernel
theorem dX4_copy_30 : decode cX4_copy 30 = .ok (.ireturn, 1) := by decide +kernel
theorem dX4_copy_31 : decode cX4_copy 31 = .ok (.aload_n 0, 1) := by decide +kernel
theorem dX4_copy_32 : decode cX4_copy 32 = .ok (.getfield 7, 3) := by decide +kernel
theorem dX4_copy_35 : decode cX4_copy 35 = .ok (.aload_n 0, 1) := by decide +kernel
theorem dX4_copy_36 : decode cX4_copy 36 = .ok (.getfield 13, 3) := by decide +kernel
theorem dX4_copy_39 : decode cX4_copy 39 = .ok (.invokestatic 94, 3) := by decide +kernel
theorem dX4_copy_42 : decode cX4_copy 42 = .ok (.iconst 0, 1) := by decide +kernel
theorem dX4_copy_43 : decode cX4_copy 43 = .ok (.istore 4, 2) := by decide +kernel
theorem dX4_copy_45 : decode cX4_copy 45 = .ok (.iload 4, 2) := by decide +kernel
theorem dX4_copy_47 : decode cX4_copy 47 = .ok (.iload_n 3, 1) := by decide +kernel
theorem dX4_copy_48 : decode cX4_copy 48 = .ok (.if_icmp .ge 24, 3) := by decide +kernel
theorem dX4_copy_51 : decode cX4_copy 51 = .ok (.aload_n 0, 1) := by decide +kernel
theorem dX4_copy_52 : decode cX4_copy 52 = .ok (.iload_n 1, 1) := by decide +kernel
theorem dX4_copy_53 : decode cX4_copy 53 = .ok (.iload 4, 2) := by decide +kernel
theorem dX4_copy_55 : decode cX4_copy 55 = .ok (.iadd, 1) := by decide +kernel
theorem dX4_copy_56 : decode cX4_copy 56 = .ok (.iload_n 2, 1) := by decide +kernel
theorem dX4_copy_57 : decode cX4_copy 57 = .ok (.iload 4, 2) := by decide +kernel
theorem dX4_copy_59 : decode cX4_copy 59 = .ok (.iadd, 1) := by decide +kernel
theorem dX4_copy_60 : decode cX4_copy 60 = .ok (.invokevirtual 105, 3) := by decide +kernel
theorem dX4_copy_63 : decode cX4_copy 63 = .ok (.ifCond .eq 9, 3) := by decide +kernel
theorem dX4_copy_66 : decode cX4_copy 66 = .ok (.iinc 4 1, 3) := by decide +kernel
theorem dX4_copy_69 : decode cX4_copy 69 = .ok (.goto (-24), 3) := by decide +kernel
theorem dX4_copy_72 : decode cX4_copy 72 = .ok (.iload 4, 2) := by decide +kernel
theorem dX4_copy_74 : decode cX4_copy 74 = .ok (.ifCond .ne 6, 3) := by decide +kernel
theorem dX4_copy_77 : decode cX4_copy 77 = .ok (.bipush (-5), 2) := by decide +kernel
theorem dX4_copy_79 : decode cX4_copy 79 = .ok (.ireturn, 1) := by decide +kernel
theorem dX4_copy_80 : decode cX4_copy 80 = .ok (.aload_n 0, 1) := by decide +kernel
theorem dX4_copy_81 : decode cX4_copy 81 = .ok (.aload_n 0, 1) := by decide +kernel
theorem dX4_copy_82 : decode cX4_copy 82 = .ok (.getfield 13, 3) := by decide +kernel
theorem dX4_copy_85 : decode cX4_copy 85 = .ok (.invokevirtual 84, 3) := by decide +kernel
theorem dX4_copy_88 : decode cX4_copy 88 = .ok (.iload 4, 2) := by decide +kernel
theorem dX4_copy_90 : decode cX4_copy 90 = .ok (.ireturn, 1) := by decide +kernel
set_option maxRecDepth 20000 in
theorem ggX4_lost_X4_isAddress : GoodIn wsX4_lost wsX4_isAddress := goodIn_r _ [5, 6, 7, 4, 8, 9, 10, 11, 12, 13, 18, 19, 20, 21, 22, 23, 24, 25, 26, 27] (by decide +kernel) (by decide +kernel)
set_option maxRecDepth 20000 in
theorem gX4_lost_X4_isAddress : GoodIn wsX4_lost (wsV RX4 40 RX4 yX4_isAddress wsX4_isAddress) := goodIn_app (goodIn_of _ (by decide +kernel)) ggX4_lost_X4_isAddress
set_option maxRecDepth 20000 in
theorem ggX4_lost_X4_isLost : GoodIn wsX4_lost wsX4_isLost := goodIn_r _ [17, 13, 18, 19, 20, 21, 22, 23, 24, 25, 26, 27] (by decide +kernel) (by decide +kernel)
set_option maxRecDepth 20000 in
theorem gX4_lost_X4_isLost : GoodIn wsX4_lost (wsV RX4 75 RX4 yX4_isLost wsX4_isLost) := goodIn_app (goodIn_of _ (by decide +kernel)) ggX4_lost_X4_isLost
theorem dX4_lost_0 : decode cX4_lost 0 = .ok (.iconst 0, 1) := by decide +kernel
theorem dX4_lost_1 : decode cX4_lost 1 = .ok (.istore_n 2, 1) := by decide +kernel
theorem dX4_lost_2 : decode cX4_lost 2 = .ok (.iconst 0, 1) := by decide +kernel
theorem dX4_lost_3 : decode cX4_lost 3 = .ok (.istore_n 3, 1) := by decide +kernel
theorem dX4_lost_4 : decode cX4_lost 4 = .ok (.iload_n 3, 1) := by decide +kernel
theorem dX4_lost_5 : decode cX4_lost 5 = .ok (.bipush 16, 2) := by decide +kernel
theorem dX4_lost_7 : decode cX4_lost 7 = .ok (.if_icmp .ge 43, 3) := by decide +kernel
theorem dX4_lost_10 : decode cX4_lost 10 = .ok (.bipush 16, 2) := by decide +kernel
theorem dX4_lost_12 : decode cX4_lost 12 = .ok (.iload_n 1, 1) := by decide +kernel
theorem dX4_lost_13 : decode cX4_lost 13 = .ok (.imul, 1) := by decide +kernel
theorem dX4_lost_14 : decode cX4_lost 14 = .ok (.iload_n 3, 1) := by decide +kernel
theorem dX4_lost_15 : decode cX4_lost 15 = .ok (.iadd, 1) := by decide +kernel
theorem dX4_lost_16 : decode cX4_lost 16 = .ok (.istore 4, 2) := by decide +kernel
theorem dX4_lost_18 : decode cX4_lost 18 = .ok (.iload_n 2, 1) := by decide +kernel
theorem dX4_lost_19 : decode cX4_lost 19 = .ok (.aload_n 0, 1) := by decide +kernel
theorem dX4_lost_20 : decode cX4_lost 20 = .ok (.iload 4, 2) := by decide +kernel
theorem dX4_lost_22 : decode cX4_lost 22 = .ok (.invokevirtual 40, 3) := by decide +kernel
theorem dX4_lost_25 : decode cX4_lost 25 = .ok (.ifCond .eq 16, 3) := by decide +kernel
theorem dX4_lost_28 : decode cX4_lost 28 = .ok (.aload_n 0, 1) := by decide +kernel
theorem dX4_lost_29 : decode cX4_lost 29 = .ok (.iload 4, 2) := by decide +kernel
theorem dX4_lost_31 : decode cX4_lost 31 = .ok (.invokevirtual 75, 3) := by decide +kernel
theorem dX4_lost_34 : decode cX4_lost 34 = .ok (.ifCond .eq 7, 3) := by decide +kernel
theorem dX4_lost_37 : decode cX4_lost 37 = .ok (.iconst 1, 1) := by decide +kernel
theorem dX4_lost_38 : decode cX4_lost 38 = .ok (.goto 4, 3) := by decide +kernel
theorem dX4_lost_41 : decode cX4_lost 41 = .ok (.iconst 0, 1) := by decide +kernel
theorem dX4_lost_42 : decode cX4_lost 42 = .ok (.iadd, 1) := by decide +kernel
theorem dX4_lost_43 : decode cX4_lost 43 = .ok (.istore_n 2, 1) := by decide +kernel
theorem dX4_lost_44 : decode cX4_lost 44 = .ok (.iinc 3 1, 3) := by decide +kernel
theorem dX4_lost_47 : decode cX4_lost 47 = .ok (.goto (-43), 3) := by decide +kernel
theorem dX4_lost_50 : decode cX4_lost 50 = .ok (.iload_n 2, 1) := by decide +kernel
theorem dX4_lost_51 : decode cX4_lost 51 = .ok (.ireturn, 1) := by decide +kernel
set_option maxRecDepth 20000 in
theorem ggX4_test_X4_isHead : GoodIn wsX4_test wsX4_isHead := goodIn_r _ [5, 6, 7, 4, 8] (by decide +kernel) (by decide +kernel)
set_option maxRecDepth 20000 in
theorem gX4_test_X4_isHead : GoodIn wsX4_test (va_wsS RX4 88 yX4_isHead wsX4_isHead) := goodIn_app (goodIn_of _ (by decide +kernel)) ggX4_test_X4_isHead
set_option maxRecDepth 20000 in
theorem ggX4_test_X4_lost : GoodIn wsX4_test wsX4_lost := goodIn_r _ [12, 13, 14, 15, 4, 16, 6, 7, 8, 17, 18, 19, 20, 1, 21, 22, 23, 24, 79, 80, 81, 82, 83, 84, 85, 86, 87, 88] (by decide +kernel) (by decide +kernel)
set_option maxRecDepth 20000 in
theorem gX4_test_X4_lost : GoodIn wsX4_test (wsV RX4 109 RX4 yX4_lost wsX4_lost) := goodIn_app (goodIn_of _ (by decide +kernel)) ggX4_test_X4_lost
set_option maxRecDepth 20000 in
theorem ggX4_test_X4_record : GoodIn wsX4_test wsX4_record := goodIn_r _ [28, 29, 30, 79, 80, 81, 82, 83, 84, 85, 86, 87, 88] (by decide +kernel) (by decide +kernel)
set_option maxRecDepth 20000 in
theorem gX4_test_X4_record : GoodIn wsX4_test (wsV RX4 84 RX4 yX4_record wsX4_record) := goodIn_app (goodIn_of _ (by decide +kernel)) ggX4_test_X4_record
set_option maxRecDepth 20000 in
theorem ggX4_test_X4_reads : GoodIn wsX4_test wsX4_reads := goodIn_r _ [34, 1, 13, 14, 15, 4, 16, 6, 7, 8, 17, 18, 19, 20, 21, 22, 23, 24, 35, 36, 37, 38, 39, 40, 41, 42, 43, 44, 45, 46, 47, 48, 49, 50, 51, 52, 53, 54, 55, 56, 57, 58, 59, 60, 61, 62, 63, 64, 65, 66, 67, 68, 69, 70, 71, 72, 73, 74, 75, 76, 77, 78, 79, 80, 81, 82, 83, 84, 85, 86, 87, 88] (by decide +kernel) (by decide +kernel)
set_option maxRecDepth 20000 in
theorem gX4_test_X4_reads : GoodIn wsX4_test (wsV RX4 98 RX4 yX4_reads wsX4_reads) := goodIn_app (goodIn_of _ (by decide +kernel)) ggX4_test_X4_reads
theorem dX4_test_0 : decode cX4_test 0 = .ok (.iload_n 1, 1) := by decide +kernel
theorem dX4_test_1 : decode cX4_test 1 = .ok (.invokestatic 88, 3) := by decide +kernel
theorem dX4_test_4 : decode cX4_test 4 = .ok (.ifCond .ne 5, 3) := by decide +kernel
theorem dX4_test_7 : decode cX4_test 7 = .ok (.iconst (-1), 1) := by decide +kernel
theorem dX4_test_8 : decode cX4_test 8 = .ok (.ireturn, 1) := by decide +kernel
theorem dX4_test_9 : decode cX4_test 9 = .ok (.aload_n 0, 1) := by decide +kernel
theorem dX4_test_10 : decode cX4_test 10 = .ok (.iload_n 1, 1) := by decide +kernel
theorem dX4_test_11 : decode cX4_test 11 = .ok (.invokevirtual 109, 3) := by decide +kernel
theorem dX4_test_14 : decode cX4_test 14 = .ok (.bipush 16, 2) := by decide +kernel
theorem dX4_test_16 : decode cX4_test 16 = .ok (.aload_n 0, 1) := by decide +kernel
theorem dX4_test_17 : decode cX4_test 17 = .ok (.getfield 7, 3) := by decide +kernel
theorem dX4_test_20 : decode cX4_test 20 = .ok (.bipush 12, 2) := by decide +kernel
theorem dX4_test_22 : decode cX4_test 22 = .ok (.iload_n 1, 1) := by decide +kernel
theorem dX4_test_23 : decode cX4_test 23 = .ok (.iadd, 1) := by decide +kernel
theorem dX4_test_24 : decode cX4_test 24 = .ok (.iaload, 1) := by decide +kernel
theorem dX4_test_25 : decode cX4_test 25 = .ok (.isub, 1) := by decide +kernel
theorem dX4_test_26 : decode cX4_test 26 = .ok (.if_icmp .ne 6, 3) := by decide +kernel
theorem dX4_test_29 : decode cX4_test 29 = .ok (.bipush (-5), 2) := by decide +kernel
theorem dX4_test_31 : decode cX4_test 31 = .ok (.ireturn, 1) := by decide +kernel
theorem dX4_test_32 : decode cX4_test 32 = .ok (.aload_n 0, 1) := by decide +kernel
theorem dX4_test_33 : decode cX4_test 33 = .ok (.aload_n 0, 1) := by decide +kernel
theorem dX4_test_34 : decode cX4_test 34 = .ok (.getfield 7, 3) := by decide +kernel
theorem dX4_test_37 : decode cX4_test 37 = .ok (.invokevirtual 84, 3) := by decide +kernel
theorem dX4_test_40 : decode cX4_test 40 = .ok (.aload_n 0, 1) := by decide +kernel
theorem dX4_test_41 : decode cX4_test 41 = .ok (.getfield 7, 3) := by decide +kernel
theorem dX4_test_44 : decode cX4_test 44 = .ok (.iconst 4, 1) := by decide +kernel
theorem dX4_test_45 : decode cX4_test 45 = .ok (.iaload, 1) := by decide +kernel
theorem dX4_test_46 : decode cX4_test 46 = .ok (.istore_n 2, 1) := by decide +kernel
theorem dX4_test_47 : decode cX4_test 47 = .ok (.iconst 0, 1) := by decide +kernel
theorem dX4_test_48 : decode cX4_test 48 = .ok (.istore_n 3, 1) := by decide +kernel
theorem dX4_test_49 : decode cX4_test 49 = .ok (.iload_n 3, 1) := by decide +kernel
theorem dX4_test_50 : decode cX4_test 50 = .ok (.bipush 16, 2) := by decide +kernel
theorem dX4_test_52 : decode cX4_test 52 = .ok (.if_icmp .ge 21, 3) := by decide +kernel
theorem dX4_test_55 : decode cX4_test 55 = .ok (.aload_n 0, 1) := by decide +kernel
theorem dX4_test_56 : decode cX4_test 56 = .ok (.bipush 16, 2) := by decide +kernel
theorem dX4_test_58 : decode cX4_test 58 = .ok (.iload_n 1, 1) := by decide +kernel
theorem dX4_test_59 : decode cX4_test 59 = .ok (.imul, 1) := by decide +kernel
theorem dX4_test_60 : decode cX4_test 60 = .ok (.iload_n 3, 1) := by decide +kernel
theorem dX4_test_61 : decode cX4_test 61 = .ok (.iadd, 1) := by decide +kernel
theorem dX4_test_62 : decode cX4_test 62 = .ok (.invokevirtual 98, 3) := by decide +kernel
theorem dX4_test_65 : decode cX4_test 65 = .ok (.istore 4, 2) := by decide +kernel
theorem dX4_test_67 : decode cX4_test 67 = .ok (.iinc 3 1, 3) := by decide +kernel
theorem dX4_test_70 : decode cX4_test 70 = .ok (.goto (-21), 3) := by decide +kernel
theorem dX4_test_73 : decode cX4_test 73 = .ok (.aload_n 0, 1) := by decide +kernel
theorem dX4_test_74 : decode cX4_test 74 = .ok (.getfield 7, 3) := by decide +kernel
theorem dX4_test_77 : decode cX4_test 77 = .ok (.iconst 4, 1) := by decide +kernel
theorem dX4_test_78 : decode cX4_test 78 = .ok (.iaload, 1) := by decide +kernel
theorem dX4_test_79 : decode cX4_test 79 = .ok (.iload_n 2, 1) := by decide +kernel
theorem dX4_test_80 : decode cX4_test 80 = .ok (.isub, 1) := by decide +kernel
theorem dX4_test_81 : decode cX4_test 81 = .ok (.ireturn, 1) := by decide +kernel
set_option maxRecDepth 20000 in
theorem ggX4_giveBack_X4_isAddress : GoodIn wsX4_giveBack wsX4_isAddress := goodIn_r _ [6, 7, 8, 5, 9, 10, 11, 12, 13, 1, 40, 41, 42, 43, 44, 45, 46, 47, 48, 49] (by decide +kernel) (by decide +kernel)
set_option maxRecDepth 20000 in
theorem gX4_giveBack_X4_isAddress : GoodIn wsX4_giveBack (wsV RX4 40 RX4 yX4_isAddress wsX4_isAddress) := goodIn_app (goodIn_of _ (by decide +kernel)) ggX4_giveBack_X4_isAddress
set_option maxRecDepth 20000 in
theorem ggX4_giveBack_X4_state : GoodIn wsX4_giveBack wsX4_state := goodIn_r _ [17, 1, 40, 41, 42, 43, 44, 45, 46, 47, 48, 49] (by decide +kernel) (by decide +kernel)
set_option maxRecDepth 20000 in
theorem gX4_giveBack_X4_state : GoodIn wsX4_giveBack (wsV RX4 43 RX4 yX4_state wsX4_state) := goodIn_app (goodIn_of _ (by decide +kernel)) ggX4_giveBack_X4_state
set_option maxRecDepth 20000 in
theorem ggX4_giveBack_X4_record : GoodIn wsX4_giveBack wsX4_record := goodIn_r _ [21, 22, 23, 40, 41, 42, 43, 44, 45, 46, 47, 48, 49] (by decide +kernel) (by decide +kernel)
set_option maxRecDepth 20000 in
theorem gX4_giveBack_X4_record : GoodIn wsX4_giveBack (wsV RX4 84 RX4 yX4_record wsX4_record) := goodIn_app (goodIn_of _ (by decide +kernel)) ggX4_giveBack_X4_record
set_option maxRecDepth 20000 in
theorem ggX4_giveBack_X4_goesTo : GoodIn wsX4_giveBack wsX4_goesTo := goodIn_r _ [27, 1, 28, 29, 30, 5, 31, 32, 33, 34, 40, 41, 42, 43, 44, 45, 46, 47, 48, 49] (by decide +kernel) (by decide +kernel)
set_option maxRecDepth 20000 in
theorem gX4_giveBack_X4_goesTo : GoodIn wsX4_giveBack (wsV RX4 78 RX4 yX4_goesTo wsX4_goesTo) := goodIn_app (goodIn_of _ (by decide +kernel)) ggX4_giveBack_X4_goesTo
set_option maxRecDepth 20000 in
theorem ggX4_giveBack_X4_goes : GoodIn wsX4_giveBack wsX4_goes := goodIn_r _ [31, 1, 32, 33, 5, 34, 40, 41, 42, 43, 44, 45, 46, 47, 48, 49] (by decide +kernel) (by decide +kernel)
set_option maxRecDepth 20000 in
theorem gX4_giveBack_X4_goes : GoodIn wsX4_giveBack (wsV RX4 64 RX4 yX4_goes wsX4_goes) := goodIn_app (goodIn_of _ (by decide +kernel)) ggX4_giveBack_X4_goes
set_option maxRecDepth 20000 in
theorem ggX4_giveBack_X4_wears : GoodIn wsX4_giveBack wsX4_wears := goodIn_r _ [38, 1, 39, 40, 41, 42, 43, 44, 45, 46, 47, 48, 49] (by decide +kernel) (by decide +kernel)
set_option maxRecDepth 20000 in
theorem gX4_giveBack_X4_wears : GoodIn wsX4_giveBack (wsV RX4 71 RX4 yX4_wears wsX4_wears) := goodIn_app (goodIn_of _ (by decide +kernel)) ggX4_giveBack_X4_wears
theorem dX4_giveBack_0 : decode cX4_giveBack 0 = .ok (.aload_n 0, 1) := by decide +kernel
theorem dX4_giveBack_1 : decode cX4_giveBack 1 = .ok (.iload_n 1, 1) := by decide +kernel
theorem dX4_giveBack_2 : decode cX4_giveBack 2 = .ok (.invokevirtual 40, 3) := by decide +kernel
theorem dX4_giveBack_5 : decode cX4_giveBack 5 = .ok (.ifCond .ne 5, 3) := by decide +kernel
theorem dX4_giveBack_8 : decode cX4_giveBack 8 = .ok (.iconst (-1), 1) := by decide +kernel
theorem dX4_giveBack_9 : decode cX4_giveBack 9 = .ok (.ireturn, 1) := by decide +kernel
theorem dX4_giveBack_10 : decode cX4_giveBack 10 = .ok (.aload_n 0, 1) := by decide +kernel
theorem dX4_giveBack_11 : decode cX4_giveBack 11 = .ok (.getfield 7, 3) := by decide +kernel
theorem dX4_giveBack_14 : decode cX4_giveBack 14 = .ok (.sipush 148, 3) := by decide +kernel
theorem dX4_giveBack_17 : decode cX4_giveBack 17 = .ok (.iload_n 1, 1) := by decide +kernel
theorem dX4_giveBack_18 : decode cX4_giveBack 18 = .ok (.iadd, 1) := by decide +kernel
theorem dX4_giveBack_19 : decode cX4_giveBack 19 = .ok (.iaload, 1) := by decide +kernel
theorem dX4_giveBack_20 : decode cX4_giveBack 20 = .ok (.istore_n 2, 1) := by decide +kernel
theorem dX4_giveBack_21 : decode cX4_giveBack 21 = .ok (.iload_n 2, 1) := by decide +kernel
theorem dX4_giveBack_22 : decode cX4_giveBack 22 = .ok (.ifCond .lt 8, 3) := by decide +kernel
theorem dX4_giveBack_25 : decode cX4_giveBack 25 = .ok (.iload_n 2, 1) := by decide +kernel
theorem dX4_giveBack_26 : decode cX4_giveBack 26 = .ok (.iload_n 1, 1) := by decide +kernel
theorem dX4_giveBack_27 : decode cX4_giveBack 27 = .ok (.if_icmp .ne 6, 3) := by decide +kernel
theorem dX4_giveBack_30 : decode cX4_giveBack 30 = .ok (.bipush (-5), 2) := by decide +kernel
theorem dX4_giveBack_32 : decode cX4_giveBack 32 = .ok (.ireturn, 1) := by decide +kernel
theorem dX4_giveBack_33 : decode cX4_giveBack 33 = .ok (.aload_n 0, 1) := by decide +kernel
theorem dX4_giveBack_34 : decode cX4_giveBack 34 = .ok (.iload_n 1, 1) := by decide +kernel
theorem dX4_giveBack_35 : decode cX4_giveBack 35 = .ok (.invokevirtual 43, 3) := by decide +kernel
theorem dX4_giveBack_38 : decode cX4_giveBack 38 = .ok (.ifCond .ne 19, 3) := by decide +kernel
theorem dX4_giveBack_41 : decode cX4_giveBack 41 = .ok (.aload_n 0, 1) := by decide +kernel
theorem dX4_giveBack_42 : decode cX4_giveBack 42 = .ok (.getfield 7, 3) := by decide +kernel
theorem dX4_giveBack_45 : decode cX4_giveBack 45 = .ok (.bipush 16, 2) := by decide +kernel
theorem dX4_giveBack_47 : decode cX4_giveBack 47 = .ok (.iload_n 1, 1) := by decide +kernel
theorem dX4_giveBack_48 : decode cX4_giveBack 48 = .ok (.bipush 16, 2) := by decide +kernel
theorem dX4_giveBack_50 : decode cX4_giveBack 50 = .ok (.idiv, 1) := by decide +kernel
theorem dX4_giveBack_51 : decode cX4_giveBack 51 = .ok (.iadd, 1) := by decide +kernel
theorem dX4_giveBack_52 : decode cX4_giveBack 52 = .ok (.iaload, 1) := by decide +kernel
theorem dX4_giveBack_53 : decode cX4_giveBack 53 = .ok (.iconst 1, 1) := by decide +kernel
theorem dX4_giveBack_54 : decode cX4_giveBack 54 = .ok (.if_icmp .ne 6, 3) := by decide +kernel
theorem dX4_giveBack_57 : decode cX4_giveBack 57 = .ok (.bipush (-4), 2) := by decide +kernel
theorem dX4_giveBack_59 : decode cX4_giveBack 59 = .ok (.ireturn, 1) := by decide +kernel
theorem dX4_giveBack_60 : decode cX4_giveBack 60 = .ok (.aload_n 0, 1) := by decide +kernel
theorem dX4_giveBack_61 : decode cX4_giveBack 61 = .ok (.aload_n 0, 1) := by decide +kernel
theorem dX4_giveBack_62 : decode cX4_giveBack 62 = .ok (.getfield 7, 3) := by decide +kernel
theorem dX4_giveBack_65 : decode cX4_giveBack 65 = .ok (.invokevirtual 84, 3) := by decide +kernel
theorem dX4_giveBack_68 : decode cX4_giveBack 68 = .ok (.aload_n 0, 1) := by decide +kernel
theorem dX4_giveBack_69 : decode cX4_giveBack 69 = .ok (.iload_n 1, 1) := by decide +kernel
theorem dX4_giveBack_70 : decode cX4_giveBack 70 = .ok (.invokevirtual 78, 3) := by decide +kernel
theorem dX4_giveBack_73 : decode cX4_giveBack 73 = .ok (.aload_n 0, 1) := by decide +kernel
theorem dX4_giveBack_74 : decode cX4_giveBack 74 = .ok (.iload_n 1, 1) := by decide +kernel
theorem dX4_giveBack_75 : decode cX4_giveBack 75 = .ok (.invokevirtual 64, 3) := by decide +kernel
theorem dX4_giveBack_78 : decode cX4_giveBack 78 = .ok (.aload_n 0, 1) := by decide +kernel
theorem dX4_giveBack_79 : decode cX4_giveBack 79 = .ok (.iload_n 1, 1) := by decide +kernel
theorem dX4_giveBack_80 : decode cX4_giveBack 80 = .ok (.iconst 1, 1) := by decide +kernel
theorem dX4_giveBack_81 : decode cX4_giveBack 81 = .ok (.invokevirtual 71, 3) := by decide +kernel
theorem dX4_giveBack_84 : decode cX4_giveBack 84 = .ok (.aload_n 0, 1) := by decide +kernel
theorem dX4_giveBack_85 : decode cX4_giveBack 85 = .ok (.getfield 7, 3) := by decide +kernel
theorem dX4_giveBack_88 : decode cX4_giveBack 88 = .ok (.sipush 148, 3) := by decide +kernel
theorem dX4_giveBack_91 : decode cX4_giveBack 91 = .ok (.iload_n 1, 1) := by decide +kernel
theorem dX4_giveBack_92 : decode cX4_giveBack 92 = .ok (.iadd, 1) := by decide +kernel
theorem dX4_giveBack_93 : decode cX4_giveBack 93 = .ok (.iload_n 1, 1) := by decide +kernel
theorem dX4_giveBack_94 : decode cX4_giveBack 94 = .ok (.iastore, 1) := by decide +kernel
theorem dX4_giveBack_95 : decode cX4_giveBack 95 = .ok (.iload_n 2, 1) := by decide +kernel
theorem dX4_giveBack_96 : decode cX4_giveBack 96 = .ok (.ireturn, 1) := by decide +kernel
set_option maxRecDepth 20000 in
theorem ggX4_givesUp_X4_isAddress : GoodIn wsX4_givesUp wsX4_isAddress := goodIn_r _ [6, 7, 8, 5, 9, 10, 11, 12, 13, 1, 47, 48, 49, 50, 51, 52, 53, 54, 55, 56] (by decide +kernel) (by decide +kernel)
set_option maxRecDepth 20000 in
theorem gX4_givesUp_X4_isAddress : GoodIn wsX4_givesUp (wsV RX4 40 RX4 yX4_isAddress wsX4_isAddress) := goodIn_app (goodIn_of _ (by decide +kernel)) ggX4_givesUp_X4_isAddress
set_option maxRecDepth 20000 in
theorem ggX4_givesUp_X4_isLost : GoodIn wsX4_givesUp wsX4_isLost := goodIn_r _ [17, 1, 47, 48, 49, 50, 51, 52, 53, 54, 55, 56] (by decide +kernel) (by decide +kernel)
set_option maxRecDepth 20000 in
theorem gX4_givesUp_X4_isLost : GoodIn wsX4_givesUp (wsV RX4 75 RX4 yX4_isLost wsX4_isLost) := goodIn_app (goodIn_of _ (by decide +kernel)) ggX4_givesUp_X4_isLost
set_option maxRecDepth 20000 in
theorem ggX4_givesUp_X4_lends : GoodIn wsX4_givesUp wsX4_lends := goodIn_r _ [21, 22, 23, 24, 5, 25, 26, 27, 28, 29, 1, 10, 11, 12, 13, 30, 31, 32, 33, 34, 35, 36, 37, 2, 3, 4, 6, 7, 8, 9, 38, 39, 40, 41, 47, 48, 49, 50, 51, 52, 53, 54, 55, 56] (by decide +kernel) (by decide +kernel)
set_option maxRecDepth 20000 in
theorem gX4_givesUp_X4_lends : GoodIn wsX4_givesUp (wsV RX4 68 RX4 yX4_lends wsX4_lends) := goodIn_app (goodIn_of _ (by decide +kernel)) ggX4_givesUp_X4_lends
set_option maxRecDepth 20000 in
theorem ggX4_givesUp_X4_wears : GoodIn wsX4_givesUp wsX4_wears := goodIn_r _ [45, 1, 46, 47, 48, 49, 50, 51, 52, 53, 54, 55, 56] (by decide +kernel) (by decide +kernel)
set_option maxRecDepth 20000 in
theorem gX4_givesUp_X4_wears : GoodIn wsX4_givesUp (wsV RX4 71 RX4 yX4_wears wsX4_wears) := goodIn_app (goodIn_of _ (by decide +kernel)) ggX4_givesUp_X4_wears
theorem dX4_givesUp_0 : decode cX4_givesUp 0 = .ok (.iconst 0, 1) := by decide +kernel
theorem dX4_givesUp_1 : decode cX4_givesUp 1 = .ok (.istore_n 2, 1) := by decide +kernel
theorem dX4_givesUp_2 : decode cX4_givesUp 2 = .ok (.aload_n 0, 1) := by decide +kernel
theorem dX4_givesUp_3 : decode cX4_givesUp 3 = .ok (.getfield 7, 3) := by decide +kernel
theorem dX4_givesUp_6 : decode cX4_givesUp 6 = .ok (.bipush 16, 2) := by decide +kernel
theorem dX4_givesUp_8 : decode cX4_givesUp 8 = .ok (.iload_n 1, 1) := by decide +kernel
theorem dX4_givesUp_9 : decode cX4_givesUp 9 = .ok (.iadd, 1) := by decide +kernel
theorem dX4_givesUp_10 : decode cX4_givesUp 10 = .ok (.iconst 1, 1) := by decide +kernel
theorem dX4_givesUp_11 : decode cX4_givesUp 11 = .ok (.iastore, 1) := by decide +kernel
theorem dX4_givesUp_12 : decode cX4_givesUp 12 = .ok (.iconst 0, 1) := by decide +kernel
theorem dX4_givesUp_13 : decode cX4_givesUp 13 = .ok (.istore_n 3, 1) := by decide +kernel
theorem dX4_givesUp_14 : decode cX4_givesUp 14 = .ok (.iload_n 3, 1) := by decide +kernel
theorem dX4_givesUp_15 : decode cX4_givesUp 15 = .ok (.bipush 64, 2) := by decide +kernel
theorem dX4_givesUp_17 : decode cX4_givesUp 17 = .ok (.if_icmp .ge 102, 3) := by decide +kernel
theorem dX4_givesUp_20 : decode cX4_givesUp 20 = .ok (.aload_n 0, 1) := by decide +kernel
theorem dX4_givesUp_21 : decode cX4_givesUp 21 = .ok (.iload_n 3, 1) := by decide +kernel
theorem dX4_givesUp_22 : decode cX4_givesUp 22 = .ok (.invokevirtual 40, 3) := by decide +kernel
theorem dX4_givesUp_25 : decode cX4_givesUp 25 = .ok (.ifCond .eq 88, 3) := by decide +kernel
theorem dX4_givesUp_28 : decode cX4_givesUp 28 = .ok (.aload_n 0, 1) := by decide +kernel
theorem dX4_givesUp_29 : decode cX4_givesUp 29 = .ok (.iload_n 3, 1) := by decide +kernel
theorem dX4_givesUp_30 : decode cX4_givesUp 30 = .ok (.invokevirtual 75, 3) := by decide +kernel
theorem dX4_givesUp_33 : decode cX4_givesUp 33 = .ok (.ifCond .ne 80, 3) := by decide +kernel
theorem dX4_givesUp_36 : decode cX4_givesUp 36 = .ok (.aload_n 0, 1) := by decide +kernel
theorem dX4_givesUp_37 : decode cX4_givesUp 37 = .ok (.getfield 7, 3) := by decide +kernel
theorem dX4_givesUp_40 : decode cX4_givesUp 40 = .ok (.sipush 148, 3) := by decide +kernel
theorem dX4_givesUp_43 : decode cX4_givesUp 43 = .ok (.iload_n 3, 1) := by decide +kernel
theorem dX4_givesUp_44 : decode cX4_givesUp 44 = .ok (.iadd, 1) := by decide +kernel
theorem dX4_givesUp_45 : decode cX4_givesUp 45 = .ok (.iaload, 1) := by decide +kernel
theorem dX4_givesUp_46 : decode cX4_givesUp 46 = .ok (.bipush 16, 2) := by decide +kernel
theorem dX4_givesUp_48 : decode cX4_givesUp 48 = .ok (.idiv, 1) := by decide +kernel
theorem dX4_givesUp_49 : decode cX4_givesUp 49 = .ok (.iload_n 1, 1) := by decide +kernel
theorem dX4_givesUp_50 : decode cX4_givesUp 50 = .ok (.if_icmp .ne 63, 3) := by decide +kernel
theorem dX4_givesUp_53 : decode cX4_givesUp 53 = .ok (.aload_n 0, 1) := by decide +kernel
theorem dX4_givesUp_54 : decode cX4_givesUp 54 = .ok (.iload_n 3, 1) := by decide +kernel
theorem dX4_givesUp_55 : decode cX4_givesUp 55 = .ok (.invokevirtual 68, 3) := by decide +kernel
theorem dX4_givesUp_58 : decode cX4_givesUp 58 = .ok (.istore 4, 2) := by decide +kernel
theorem dX4_givesUp_60 : decode cX4_givesUp 60 = .ok (.aload_n 0, 1) := by decide +kernel
theorem dX4_givesUp_61 : decode cX4_givesUp 61 = .ok (.getfield 7, 3) := by decide +kernel
theorem dX4_givesUp_64 : decode cX4_givesUp 64 = .ok (.sipush 148, 3) := by decide +kernel
theorem dX4_givesUp_67 : decode cX4_givesUp 67 = .ok (.iload_n 3, 1) := by decide +kernel
theorem dX4_givesUp_68 : decode cX4_givesUp 68 = .ok (.iadd, 1) := by decide +kernel
theorem dX4_givesUp_69 : decode cX4_givesUp 69 = .ok (.iload 4, 2) := by decide +kernel
theorem dX4_givesUp_71 : decode cX4_givesUp 71 = .ok (.bipush (-5), 2) := by decide +kernel
theorem dX4_givesUp_73 : decode cX4_givesUp 73 = .ok (.if_icmp .ne 7, 3) := by decide +kernel
theorem dX4_givesUp_76 : decode cX4_givesUp 76 = .ok (.iconst (-1), 1) := by decide +kernel
theorem dX4_givesUp_77 : decode cX4_givesUp 77 = .ok (.goto 5, 3) := by decide +kernel
theorem dX4_givesUp_80 : decode cX4_givesUp 80 = .ok (.iload 4, 2) := by decide +kernel
theorem dX4_givesUp_82 : decode cX4_givesUp 82 = .ok (.iastore, 1) := by decide +kernel
theorem dX4_givesUp_83 : decode cX4_givesUp 83 = .ok (.iload 4, 2) := by decide +kernel
theorem dX4_givesUp_85 : decode cX4_givesUp 85 = .ok (.bipush (-5), 2) := by decide +kernel
theorem dX4_givesUp_87 : decode cX4_givesUp 87 = .ok (.if_icmp .ne 19, 3) := by decide +kernel
theorem dX4_givesUp_90 : decode cX4_givesUp 90 = .ok (.iinc 2 1, 3) := by decide +kernel
theorem dX4_givesUp_93 : decode cX4_givesUp 93 = .ok (.aload_n 0, 1) := by decide +kernel
theorem dX4_givesUp_94 : decode cX4_givesUp 94 = .ok (.getfield 7, 3) := by decide +kernel
theorem dX4_givesUp_97 : decode cX4_givesUp 97 = .ok (.iconst 5, 1) := by decide +kernel
theorem dX4_givesUp_98 : decode cX4_givesUp 98 = .ok (.dup2, 1) := by decide +kernel
theorem dX4_givesUp_99 : decode cX4_givesUp 99 = .ok (.iaload, 1) := by decide +kernel
theorem dX4_givesUp_100 : decode cX4_givesUp 100 = .ok (.iconst 1, 1) := by decide +kernel
theorem dX4_givesUp_101 : decode cX4_givesUp 101 = .ok (.iadd, 1) := by decide +kernel
theorem dX4_givesUp_102 : decode cX4_givesUp 102 = .ok (.iastore, 1) := by decide +kernel
theorem dX4_givesUp_103 : decode cX4_givesUp 103 = .ok (.goto 10, 3) := by decide +kernel
theorem dX4_givesUp_106 : decode cX4_givesUp 106 = .ok (.aload_n 0, 1) := by decide +kernel
theorem dX4_givesUp_107 : decode cX4_givesUp 107 = .ok (.iload 4, 2) := by decide +kernel
theorem dX4_givesUp_109 : decode cX4_givesUp 109 = .ok (.iconst 1, 1) := by decide +kernel
theorem dX4_givesUp_110 : decode cX4_givesUp 110 = .ok (.invokevirtual 71, 3) := by decide +kernel
theorem dX4_givesUp_113 : decode cX4_givesUp 113 = .ok (.iinc 3 1, 3) := by decide +kernel
theorem dX4_givesUp_116 : decode cX4_givesUp 116 = .ok (.goto (-102), 3) := by decide +kernel
theorem dX4_givesUp_119 : decode cX4_givesUp 119 = .ok (.iload_n 2, 1) := by decide +kernel
theorem dX4_givesUp_120 : decode cX4_givesUp 120 = .ok (.ireturn, 1) := by decide +kernel
set_option maxRecDepth 20000 in
theorem ggX4_giveUp_X4_isHead : GoodIn wsX4_giveUp wsX4_isHead := goodIn_r _ [5, 6, 7, 4, 8] (by decide +kernel) (by decide +kernel)
set_option maxRecDepth 20000 in
theorem gX4_giveUp_X4_isHead : GoodIn wsX4_giveUp (va_wsS RX4 88 yX4_isHead wsX4_isHead) := goodIn_app (goodIn_of _ (by decide +kernel)) ggX4_giveUp_X4_isHead
set_option maxRecDepth 20000 in
theorem ggX4_giveUp_X4_record : GoodIn wsX4_giveUp wsX4_record := goodIn_r _ [12, 13, 14, 60, 61, 62, 63, 64, 65, 66, 67, 68, 69] (by decide +kernel) (by decide +kernel)
set_option maxRecDepth 20000 in
theorem gX4_giveUp_X4_record : GoodIn wsX4_giveUp (wsV RX4 84 RX4 yX4_record wsX4_record) := goodIn_app (goodIn_of _ (by decide +kernel)) ggX4_giveUp_X4_record
set_option maxRecDepth 20000 in
theorem ggX4_giveUp_X4_givesUp : GoodIn wsX4_giveUp wsX4_givesUp := goodIn_r _ [18, 1, 19, 20, 21, 4, 22, 6, 7, 8, 23, 24, 25, 26, 27, 28, 29, 30, 31, 32, 33, 34, 35, 36, 37, 38, 39, 40, 41, 42, 43, 44, 45, 46, 47, 48, 49, 50, 51, 52, 53, 54, 55, 56, 57, 58, 59, 60, 61, 62, 63, 64, 65, 66, 67, 68, 69] (by decide +kernel) (by decide +kernel)
set_option maxRecDepth 20000 in
theorem gX4_giveUp_X4_givesUp : GoodIn wsX4_giveUp (wsV RX4 112 RX4 yX4_givesUp wsX4_givesUp) := goodIn_app (goodIn_of _ (by decide +kernel)) ggX4_giveUp_X4_givesUp
theorem dX4_giveUp_0 : decode cX4_giveUp 0 = .ok (.iload_n 1, 1) := by decide +kernel
theorem dX4_giveUp_1 : decode cX4_giveUp 1 = .ok (.invokestatic 88, 3) := by decide +kernel
theorem dX4_giveUp_4 : decode cX4_giveUp 4 = .ok (.ifCond .ne 5, 3) := by decide +kernel
theorem dX4_giveUp_7 : decode cX4_giveUp 7 = .ok (.iconst (-1), 1) := by decide +kernel
theorem dX4_giveUp_8 : decode cX4_giveUp 8 = .ok (.ireturn, 1) := by decide +kernel
theorem dX4_giveUp_9 : decode cX4_giveUp 9 = .ok (.aload_n 0, 1) := by decide +kernel
theorem dX4_giveUp_10 : decode cX4_giveUp 10 = .ok (.getfield 7, 3) := by decide +kernel
theorem dX4_giveUp_13 : decode cX4_giveUp 13 = .ok (.bipush 16, 2) := by decide +kernel
theorem dX4_giveUp_15 : decode cX4_giveUp 15 = .ok (.iaload, 1) := by decide +kernel
theorem dX4_giveUp_16 : decode cX4_giveUp 16 = .ok (.aload_n 0, 1) := by decide +kernel
theorem dX4_giveUp_17 : decode cX4_giveUp 17 = .ok (.getfield 7, 3) := by decide +kernel
theorem dX4_giveUp_20 : decode cX4_giveUp 20 = .ok (.bipush 17, 2) := by decide +kernel
theorem dX4_giveUp_22 : decode cX4_giveUp 22 = .ok (.iaload, 1) := by decide +kernel
theorem dX4_giveUp_23 : decode cX4_giveUp 23 = .ok (.iadd, 1) := by decide +kernel
theorem dX4_giveUp_24 : decode cX4_giveUp 24 = .ok (.aload_n 0, 1) := by decide +kernel
theorem dX4_giveUp_25 : decode cX4_giveUp 25 = .ok (.getfield 7, 3) := by decide +kernel
theorem dX4_giveUp_28 : decode cX4_giveUp 28 = .ok (.bipush 18, 2) := by decide +kernel
theorem dX4_giveUp_30 : decode cX4_giveUp 30 = .ok (.iaload, 1) := by decide +kernel
theorem dX4_giveUp_31 : decode cX4_giveUp 31 = .ok (.iadd, 1) := by decide +kernel
theorem dX4_giveUp_32 : decode cX4_giveUp 32 = .ok (.aload_n 0, 1) := by decide +kernel
theorem dX4_giveUp_33 : decode cX4_giveUp 33 = .ok (.getfield 7, 3) := by decide +kernel
theorem dX4_giveUp_36 : decode cX4_giveUp 36 = .ok (.bipush 19, 2) := by decide +kernel
theorem dX4_giveUp_38 : decode cX4_giveUp 38 = .ok (.iaload, 1) := by decide +kernel
theorem dX4_giveUp_39 : decode cX4_giveUp 39 = .ok (.iadd, 1) := by decide +kernel
theorem dX4_giveUp_40 : decode cX4_giveUp 40 = .ok (.aload_n 0, 1) := by decide +kernel
theorem dX4_giveUp_41 : decode cX4_giveUp 41 = .ok (.getfield 7, 3) := by decide +kernel
theorem dX4_giveUp_44 : decode cX4_giveUp 44 = .ok (.bipush 16, 2) := by decide +kernel
theorem dX4_giveUp_46 : decode cX4_giveUp 46 = .ok (.iload_n 1, 1) := by decide +kernel
theorem dX4_giveUp_47 : decode cX4_giveUp 47 = .ok (.iadd, 1) := by decide +kernel
theorem dX4_giveUp_48 : decode cX4_giveUp 48 = .ok (.iaload, 1) := by decide +kernel
theorem dX4_giveUp_49 : decode cX4_giveUp 49 = .ok (.isub, 1) := by decide +kernel
theorem dX4_giveUp_50 : decode cX4_giveUp 50 = .ok (.istore_n 2, 1) := by decide +kernel
theorem dX4_giveUp_51 : decode cX4_giveUp 51 = .ok (.iload_n 2, 1) := by decide +kernel
theorem dX4_giveUp_52 : decode cX4_giveUp 52 = .ok (.iconst 3, 1) := by decide +kernel
theorem dX4_giveUp_53 : decode cX4_giveUp 53 = .ok (.if_icmp .ne 6, 3) := by decide +kernel
theorem dX4_giveUp_56 : decode cX4_giveUp 56 = .ok (.bipush (-4), 2) := by decide +kernel
theorem dX4_giveUp_58 : decode cX4_giveUp 58 = .ok (.ireturn, 1) := by decide +kernel
theorem dX4_giveUp_59 : decode cX4_giveUp 59 = .ok (.aload_n 0, 1) := by decide +kernel
theorem dX4_giveUp_60 : decode cX4_giveUp 60 = .ok (.getfield 7, 3) := by decide +kernel
theorem dX4_giveUp_63 : decode cX4_giveUp 63 = .ok (.bipush 16, 2) := by decide +kernel
theorem dX4_giveUp_65 : decode cX4_giveUp 65 = .ok (.iload_n 1, 1) := by decide +kernel
theorem dX4_giveUp_66 : decode cX4_giveUp 66 = .ok (.iadd, 1) := by decide +kernel
theorem dX4_giveUp_67 : decode cX4_giveUp 67 = .ok (.iaload, 1) := by decide +kernel
theorem dX4_giveUp_68 : decode cX4_giveUp 68 = .ok (.iconst 1, 1) := by decide +kernel
theorem dX4_giveUp_69 : decode cX4_giveUp 69 = .ok (.if_icmp .ne 6, 3) := by decide +kernel
theorem dX4_giveUp_72 : decode cX4_giveUp 72 = .ok (.bipush (-5), 2) := by decide +kernel
theorem dX4_giveUp_74 : decode cX4_giveUp 74 = .ok (.ireturn, 1) := by decide +kernel
theorem dX4_giveUp_75 : decode cX4_giveUp 75 = .ok (.aload_n 0, 1) := by decide +kernel
theorem dX4_giveUp_76 : decode cX4_giveUp 76 = .ok (.aload_n 0, 1) := by decide +kernel
theorem dX4_giveUp_77 : decode cX4_giveUp 77 = .ok (.getfield 7, 3) := by decide +kernel
theorem dX4_giveUp_80 : decode cX4_giveUp 80 = .ok (.invokevirtual 84, 3) := by decide +kernel
theorem dX4_giveUp_83 : decode cX4_giveUp 83 = .ok (.aload_n 0, 1) := by decide +kernel
theorem dX4_giveUp_84 : decode cX4_giveUp 84 = .ok (.iload_n 1, 1) := by decide +kernel
theorem dX4_giveUp_85 : decode cX4_giveUp 85 = .ok (.invokevirtual 112, 3) := by decide +kernel
theorem dX4_giveUp_88 : decode cX4_giveUp 88 = .ok (.ireturn, 1) := by decide +kernel
theorem dX4_stands_0 : decode cX4_stands 0 = .ok (.aload_n 0, 1) := by decide +kernel
theorem dX4_stands_1 : decode cX4_stands 1 = .ok (.getfield 115, 3) := by decide +kernel
theorem dX4_stands_4 : decode cX4_stands 4 = .ok (.aload_n 0, 1) := by decide +kernel
theorem dX4_stands_5 : decode cX4_stands 5 = .ok (.getfield 118, 3) := by decide +kernel
theorem dX4_stands_8 : decode cX4_stands 8 = .ok (.if_icmp .ge 20, 3) := by decide +kernel
theorem dX4_stands_11 : decode cX4_stands 11 = .ok (.aload_n 0, 1) := by decide +kernel
theorem dX4_stands_12 : decode cX4_stands 12 = .ok (.getfield 25, 3) := by decide +kernel
theorem dX4_stands_15 : decode cX4_stands 15 = .ok (.aload_n 0, 1) := by decide +kernel
theorem dX4_stands_16 : decode cX4_stands 16 = .ok (.getfield 115, 3) := by decide +kernel
theorem dX4_stands_19 : decode cX4_stands 19 = .ok (.iaload, 1) := by decide +kernel
theorem dX4_stands_20 : decode cX4_stands 20 = .ok (.iload_n 1, 1) := by decide +kernel
theorem dX4_stands_21 : decode cX4_stands 21 = .ok (.if_icmp .ne 7, 3) := by decide +kernel
theorem dX4_stands_24 : decode cX4_stands 24 = .ok (.iconst 1, 1) := by decide +kernel
theorem dX4_stands_25 : decode cX4_stands 25 = .ok (.goto 4, 3) := by decide +kernel
theorem dX4_stands_28 : decode cX4_stands 28 = .ok (.iconst 0, 1) := by decide +kernel
theorem dX4_stands_29 : decode cX4_stands 29 = .ok (.istore_n 2, 1) := by decide +kernel
theorem dX4_stands_30 : decode cX4_stands 30 = .ok (.aload_n 0, 1) := by decide +kernel
theorem dX4_stands_31 : decode cX4_stands 31 = .ok (.dup, 1) := by decide +kernel
theorem dX4_stands_32 : decode cX4_stands 32 = .ok (.getfield 115, 3) := by decide +kernel
theorem dX4_stands_35 : decode cX4_stands 35 = .ok (.iload_n 2, 1) := by decide +kernel
theorem dX4_stands_36 : decode cX4_stands 36 = .ok (.ifCond .eq 7, 3) := by decide +kernel
theorem dX4_stands_39 : decode cX4_stands 39 = .ok (.iconst 1, 1) := by decide +kernel
theorem dX4_stands_40 : decode cX4_stands 40 = .ok (.goto 4, 3) := by decide +kernel
theorem dX4_stands_43 : decode cX4_stands 43 = .ok (.iconst 0, 1) := by decide +kernel
theorem dX4_stands_44 : decode cX4_stands 44 = .ok (.iadd, 1) := by decide +kernel
theorem dX4_stands_45 : decode cX4_stands 45 = .ok (.putfield 115, 3) := by decide +kernel
theorem dX4_stands_48 : decode cX4_stands 48 = .ok (.iload_n 2, 1) := by decide +kernel
theorem dX4_stands_49 : decode cX4_stands 49 = .ok (.ireturn, 1) := by decide +kernel
set_option maxRecDepth 20000 in
theorem ggX4_number_X4_in : GoodIn wsX4_number wsX4_in := goodIn_r _ [7] (by decide +kernel) (by decide +kernel)
set_option maxRecDepth 20000 in
theorem gX4_number_X4_in : GoodIn wsX4_number (va_wsS RX4 32 yX4_in wsX4_in) := goodIn_app (goodIn_of _ (by decide +kernel)) ggX4_number_X4_in
theorem dX4_number_0 : decode cX4_number 0 = .ok (.aload_n 0, 1) := by decide +kernel
theorem dX4_number_1 : decode cX4_number 1 = .ok (.getfield 115, 3) := by decide +kernel
theorem dX4_number_4 : decode cX4_number 4 = .ok (.aload_n 0, 1) := by decide +kernel
theorem dX4_number_5 : decode cX4_number 5 = .ok (.getfield 118, 3) := by decide +kernel
theorem dX4_number_8 : decode cX4_number 8 = .ok (.if_icmp .eq 22, 3) := by decide +kernel
theorem dX4_number_11 : decode cX4_number 11 = .ok (.aload_n 0, 1) := by decide +kernel
theorem dX4_number_12 : decode cX4_number 12 = .ok (.getfield 25, 3) := by decide +kernel
theorem dX4_number_15 : decode cX4_number 15 = .ok (.aload_n 0, 1) := by decide +kernel
theorem dX4_number_16 : decode cX4_number 16 = .ok (.getfield 115, 3) := by decide +kernel
theorem dX4_number_19 : decode cX4_number 19 = .ok (.iaload, 1) := by decide +kernel
theorem dX4_number_20 : decode cX4_number 20 = .ok (.bipush 48, 2) := by decide +kernel
theorem dX4_number_22 : decode cX4_number 22 = .ok (.bipush 57, 2) := by decide +kernel
theorem dX4_number_24 : decode cX4_number 24 = .ok (.invokestatic 32, 3) := by decide +kernel
theorem dX4_number_27 : decode cX4_number 27 = .ok (.ifCond .ne 5, 3) := by decide +kernel
theorem dX4_number_30 : decode cX4_number 30 = .ok (.iconst (-1), 1) := by decide +kernel
theorem dX4_number_31 : decode cX4_number 31 = .ok (.ireturn, 1) := by decide +kernel
theorem dX4_number_32 : decode cX4_number 32 = .ok (.aload_n 0, 1) := by decide +kernel
theorem dX4_number_33 : decode cX4_number 33 = .ok (.getfield 25, 3) := by decide +kernel
theorem dX4_number_36 : decode cX4_number 36 = .ok (.aload_n 0, 1) := by decide +kernel
theorem dX4_number_37 : decode cX4_number 37 = .ok (.getfield 115, 3) := by decide +kernel
theorem dX4_number_40 : decode cX4_number 40 = .ok (.iaload, 1) := by decide +kernel
theorem dX4_number_41 : decode cX4_number 41 = .ok (.bipush 48, 2) := by decide +kernel
theorem dX4_number_43 : decode cX4_number 43 = .ok (.isub, 1) := by decide +kernel
theorem dX4_number_44 : decode cX4_number 44 = .ok (.istore_n 2, 1) := by decide +kernel
theorem dX4_number_45 : decode cX4_number 45 = .ok (.aload_n 0, 1) := by decide +kernel
theorem dX4_number_46 : decode cX4_number 46 = .ok (.dup, 1) := by decide +kernel
theorem dX4_number_47 : decode cX4_number 47 = .ok (.getfield 115, 3) := by decide +kernel
theorem dX4_number_50 : decode cX4_number 50 = .ok (.iconst 1, 1) := by decide +kernel
theorem dX4_number_51 : decode cX4_number 51 = .ok (.iadd, 1) := by decide +kernel
theorem dX4_number_52 : decode cX4_number 52 = .ok (.putfield 115, 3) := by decide +kernel
theorem dX4_number_55 : decode cX4_number 55 = .ok (.iload_n 2, 1) := by decide +kernel
theorem dX4_number_56 : decode cX4_number 56 = .ok (.ifCond .le 85, 3) := by decide +kernel
theorem dX4_number_59 : decode cX4_number 59 = .ok (.aload_n 0, 1) := by decide +kernel
theorem dX4_number_60 : decode cX4_number 60 = .ok (.getfield 115, 3) := by decide +kernel
theorem dX4_number_63 : decode cX4_number 63 = .ok (.aload_n 0, 1) := by decide +kernel
theorem dX4_number_64 : decode cX4_number 64 = .ok (.getfield 118, 3) := by decide +kernel
theorem dX4_number_67 : decode cX4_number 67 = .ok (.if_icmp .ge 74, 3) := by decide +kernel
theorem dX4_number_70 : decode cX4_number 70 = .ok (.aload_n 0, 1) := by decide +kernel
theorem dX4_number_71 : decode cX4_number 71 = .ok (.getfield 25, 3) := by decide +kernel
theorem dX4_number_74 : decode cX4_number 74 = .ok (.aload_n 0, 1) := by decide +kernel
theorem dX4_number_75 : decode cX4_number 75 = .ok (.getfield 115, 3) := by decide +kernel
theorem dX4_number_78 : decode cX4_number 78 = .ok (.iaload, 1) := by decide +kernel
theorem dX4_number_79 : decode cX4_number 79 = .ok (.bipush 48, 2) := by decide +kernel
theorem dX4_number_81 : decode cX4_number 81 = .ok (.bipush 57, 2) := by decide +kernel
theorem dX4_number_83 : decode cX4_number 83 = .ok (.invokestatic 32, 3) := by decide +kernel
theorem dX4_number_86 : decode cX4_number 86 = .ok (.ifCond .eq 55, 3) := by decide +kernel
theorem dX4_number_89 : decode cX4_number 89 = .ok (.bipush 10, 2) := by decide +kernel
theorem dX4_number_91 : decode cX4_number 91 = .ok (.iload_n 2, 1) := by decide +kernel
theorem dX4_number_92 : decode cX4_number 92 = .ok (.imul, 1) := by decide +kernel
theorem dX4_number_93 : decode cX4_number 93 = .ok (.aload_n 0, 1) := by decide +kernel
theorem dX4_number_94 : decode cX4_number 94 = .ok (.getfield 25, 3) := by decide +kernel
theorem dX4_number_97 : decode cX4_number 97 = .ok (.aload_n 0, 1) := by decide +kernel
theorem dX4_number_98 : decode cX4_number 98 = .ok (.getfield 115, 3) := by decide +kernel
theorem dX4_number_101 : decode cX4_number 101 = .ok (.iaload, 1) := by decide +kernel
theorem dX4_number_102 : decode cX4_number 102 = .ok (.iadd, 1) := by decide +kernel
theorem dX4_number_103 : decode cX4_number 103 = .ok (.bipush 48, 2) := by decide +kernel
theorem dX4_number_105 : decode cX4_number 105 = .ok (.isub, 1) := by decide +kernel
theorem dX4_number_106 : decode cX4_number 106 = .ok (.iload_n 1, 1) := by decide +kernel
theorem dX4_number_107 : decode cX4_number 107 = .ok (.if_icmp .gt 34, 3) := by decide +kernel
theorem dX4_number_110 : decode cX4_number 110 = .ok (.bipush 10, 2) := by decide +kernel
theorem dX4_number_112 : decode cX4_number 112 = .ok (.iload_n 2, 1) := by decide +kernel
theorem dX4_number_113 : decode cX4_number 113 = .ok (.imul, 1) := by decide +kernel
theorem dX4_number_114 : decode cX4_number 114 = .ok (.aload_n 0, 1) := by decide +kernel
theorem dX4_number_115 : decode cX4_number 115 = .ok (.getfield 25, 3) := by decide +kernel
theorem dX4_number_118 : decode cX4_number 118 = .ok (.aload_n 0, 1) := by decide +kernel
theorem dX4_number_119 : decode cX4_number 119 = .ok (.getfield 115, 3) := by decide +kernel
theorem dX4_number_122 : decode cX4_number 122 = .ok (.iaload, 1) := by decide +kernel
theorem dX4_number_123 : decode cX4_number 123 = .ok (.iadd, 1) := by decide +kernel
theorem dX4_number_124 : decode cX4_number 124 = .ok (.bipush 48, 2) := by decide +kernel
theorem dX4_number_126 : decode cX4_number 126 = .ok (.isub, 1) := by decide +kernel
theorem dX4_number_127 : decode cX4_number 127 = .ok (.istore_n 2, 1) := by decide +kernel
theorem dX4_number_128 : decode cX4_number 128 = .ok (.aload_n 0, 1) := by decide +kernel
theorem dX4_number_129 : decode cX4_number 129 = .ok (.dup, 1) := by decide +kernel
theorem dX4_number_130 : decode cX4_number 130 = .ok (.getfield 115, 3) := by decide +kernel
theorem dX4_number_133 : decode cX4_number 133 = .ok (.iconst 1, 1) := by decide +kernel
theorem dX4_number_134 : decode cX4_number 134 = .ok (.iadd, 1) := by decide +kernel
theorem dX4_number_135 : decode cX4_number 135 = .ok (.putfield 115, 3) := by decide +kernel
theorem dX4_number_138 : decode cX4_number 138 = .ok (.goto (-83), 3) := by decide +kernel
theorem dX4_number_141 : decode cX4_number 141 = .ok (.iload_n 2, 1) := by decide +kernel
theorem dX4_number_142 : decode cX4_number 142 = .ok (.ireturn, 1) := by decide +kernel
set_option maxRecDepth 20000 in
theorem ggX4_command_X4_stands : GoodIn wsX4_command wsX4_stands := goodIn_r _ [5, 6, 7, 8, 81, 82, 83, 84, 85, 86, 87, 88, 89, 90] (by decide +kernel) (by decide +kernel)
set_option maxRecDepth 20000 in
theorem gX4_command_X4_stands : GoodIn wsX4_command (wsV RX4 121 RX4 yX4_stands wsX4_stands) := goodIn_app (goodIn_of _ (by decide +kernel)) ggX4_command_X4_stands
set_option maxRecDepth 20000 in
theorem ggX4_command_X4_number : GoodIn wsX4_command wsX4_number := goodIn_r _ [12, 6, 7, 8, 13, 14, 4, 15, 81, 82, 83, 84, 85, 86, 87, 88, 89, 90] (by decide +kernel) (by decide +kernel)
set_option maxRecDepth 20000 in
theorem gX4_command_X4_number : GoodIn wsX4_command (wsV RX4 124 RX4 yX4_number wsX4_number) := goodIn_app (goodIn_of _ (by decide +kernel)) ggX4_command_X4_number
set_option maxRecDepth 20000 in
theorem ggX4_command_X4_reads : GoodIn wsX4_command wsX4_reads := goodIn_r _ [19, 20, 21, 22, 23, 4, 24, 13, 14, 15, 25, 26, 27, 28, 29, 30, 31, 32, 33, 34, 35, 36, 37, 38, 39, 40, 41, 42, 43, 44, 45, 46, 47, 48, 49, 50, 51, 52, 53, 54, 55, 56, 57, 58, 59, 60, 61, 62, 63, 64, 65, 66, 67, 68, 69, 70, 71, 72, 73, 74, 75, 76, 81, 82, 83, 84, 85, 86, 87, 88, 89, 90] (by decide +kernel) (by decide +kernel)
set_option maxRecDepth 20000 in
theorem gX4_command_X4_reads : GoodIn wsX4_command (wsV RX4 98 RX4 yX4_reads wsX4_reads) := goodIn_app (goodIn_of _ (by decide +kernel)) ggX4_command_X4_reads
set_option maxRecDepth 20000 in
theorem ggX4_command_X4_writes : GoodIn wsX4_command wsX4_writes := goodIn_r _ [80, 20, 21, 22, 23, 4, 24, 13, 14, 15, 25, 26, 27, 28, 29, 30, 31, 32, 57, 58, 59, 60, 61, 62, 63, 64, 65, 66, 67, 68, 53, 54, 55, 56, 69, 70, 71, 72, 73, 74, 75, 76, 33, 34, 35, 36, 37, 38, 39, 40, 41, 42, 43, 44, 45, 46, 47, 48, 49, 50, 51, 52, 81, 82, 83, 84, 85, 86, 87, 88, 89, 90] (by decide +kernel) (by decide +kernel)
set_option maxRecDepth 20000 in
theorem gX4_command_X4_writes : GoodIn wsX4_command (wsV RX4 101 RX4 yX4_writes wsX4_writes) := goodIn_app (goodIn_of _ (by decide +kernel)) ggX4_command_X4_writes
theorem dX4_command_0 : decode cX4_command 0 = .ok (.aload_n 0, 1) := by decide +kernel
theorem dX4_command_1 : decode cX4_command 1 = .ok (.bipush 114, 2) := by decide +kernel
theorem dX4_command_3 : decode cX4_command 3 = .ok (.invokevirtual 121, 3) := by decide +kernel
theorem dX4_command_6 : decode cX4_command 6 = .ok (.istore_n 2, 1) := by decide +kernel
theorem dX4_command_7 : decode cX4_command 7 = .ok (.iload_n 2, 1) := by decide +kernel
theorem dX4_command_8 : decode cX4_command 8 = .ok (.ifCond .ne 16, 3) := by decide +kernel
theorem dX4_command_11 : decode cX4_command 11 = .ok (.aload_n 0, 1) := by decide +kernel
theorem dX4_command_12 : decode cX4_command 12 = .ok (.bipush 119, 2) := by decide +kernel
theorem dX4_command_14 : decode cX4_command 14 = .ok (.invokevirtual 121, 3) := by decide +kernel
theorem dX4_command_17 : decode cX4_command 17 = .ok (.ifCond .ne 7, 3) := by decide +kernel
theorem dX4_command_20 : decode cX4_command 20 = .ok (.sipush (-1000), 3) := by decide +kernel
theorem dX4_command_23 : decode cX4_command 23 = .ok (.ireturn, 1) := by decide +kernel
theorem dX4_command_24 : decode cX4_command 24 = .ok (.aload_n 0, 1) := by decide +kernel
theorem dX4_command_25 : decode cX4_command 25 = .ok (.bipush 63, 2) := by decide +kernel
theorem dX4_command_27 : decode cX4_command 27 = .ok (.invokevirtual 124, 3) := by decide +kernel
theorem dX4_command_30 : decode cX4_command 30 = .ok (.istore_n 3, 1) := by decide +kernel
theorem dX4_command_31 : decode cX4_command 31 = .ok (.iload_n 3, 1) := by decide +kernel
theorem dX4_command_32 : decode cX4_command 32 = .ok (.ifCond .lt 16, 3) := by decide +kernel
theorem dX4_command_35 : decode cX4_command 35 = .ok (.iload_n 2, 1) := by decide +kernel
theorem dX4_command_36 : decode cX4_command 36 = .ok (.ifCond .ne 16, 3) := by decide +kernel
theorem dX4_command_39 : decode cX4_command 39 = .ok (.aload_n 0, 1) := by decide +kernel
theorem dX4_command_40 : decode cX4_command 40 = .ok (.bipush 61, 2) := by decide +kernel
theorem dX4_command_42 : decode cX4_command 42 = .ok (.invokevirtual 121, 3) := by decide +kernel
theorem dX4_command_45 : decode cX4_command 45 = .ok (.ifCond .ne 7, 3) := by decide +kernel
theorem dX4_command_48 : decode cX4_command 48 = .ok (.sipush (-1000), 3) := by decide +kernel
theorem dX4_command_51 : decode cX4_command 51 = .ok (.ireturn, 1) := by decide +kernel
theorem dX4_command_52 : decode cX4_command 52 = .ok (.iload_n 2, 1) := by decide +kernel
theorem dX4_command_53 : decode cX4_command 53 = .ok (.ifCond .eq 7, 3) := by decide +kernel
theorem dX4_command_56 : decode cX4_command 56 = .ok (.iconst 0, 1) := by decide +kernel
theorem dX4_command_57 : decode cX4_command 57 = .ok (.goto 10, 3) := by decide +kernel
theorem dX4_command_60 : decode cX4_command 60 = .ok (.aload_n 0, 1) := by decide +kernel
theorem dX4_command_61 : decode cX4_command 61 = .ok (.sipush 999, 3) := by decide +kernel
theorem dX4_command_64 : decode cX4_command 64 = .ok (.invokevirtual 124, 3) := by decide +kernel
theorem dX4_command_67 : decode cX4_command 67 = .ok (.istore 4, 2) := by decide +kernel
theorem dX4_command_69 : decode cX4_command 69 = .ok (.iload 4, 2) := by decide +kernel
theorem dX4_command_71 : decode cX4_command 71 = .ok (.ifCond .ge 7, 3) := by decide +kernel
theorem dX4_command_74 : decode cX4_command 74 = .ok (.sipush (-1000), 3) := by decide +kernel
theorem dX4_command_77 : decode cX4_command 77 = .ok (.ireturn, 1) := by decide +kernel
theorem dX4_command_78 : decode cX4_command 78 = .ok (.iload_n 1, 1) := by decide +kernel
theorem dX4_command_79 : decode cX4_command 79 = .ok (.ifCond .ne 7, 3) := by decide +kernel
theorem dX4_command_82 : decode cX4_command 82 = .ok (.iconst 0, 1) := by decide +kernel
theorem dX4_command_83 : decode cX4_command 83 = .ok (.goto 22, 3) := by decide +kernel
theorem dX4_command_86 : decode cX4_command 86 = .ok (.iload_n 2, 1) := by decide +kernel
theorem dX4_command_87 : decode cX4_command 87 = .ok (.ifCond .eq 11, 3) := by decide +kernel
theorem dX4_command_90 : decode cX4_command 90 = .ok (.aload_n 0, 1) := by decide +kernel
theorem dX4_command_91 : decode cX4_command 91 = .ok (.iload_n 3, 1) := by decide +kernel
theorem dX4_command_92 : decode cX4_command 92 = .ok (.invokevirtual 98, 3) := by decide +kernel
theorem dX4_command_95 : decode cX4_command 95 = .ok (.goto 10, 3) := by decide +kernel
theorem dX4_command_98 : decode cX4_command 98 = .ok (.aload_n 0, 1) := by decide +kernel
theorem dX4_command_99 : decode cX4_command 99 = .ok (.iload_n 3, 1) := by decide +kernel
theorem dX4_command_100 : decode cX4_command 100 = .ok (.iload 4, 2) := by decide +kernel
theorem dX4_command_102 : decode cX4_command 102 = .ok (.invokevirtual 101, 3) := by decide +kernel
theorem dX4_command_105 : decode cX4_command 105 = .ok (.ireturn, 1) := by decide +kernel
set_option maxRecDepth 20000 in
theorem ggX4_commands_X4_command : GoodIn wsX4_commands wsX4_command := goodIn_r _ [7, 8, 9, 10, 6, 11, 1, 2, 12, 13, 14, 15, 16, 17, 18, 19, 20, 21, 22, 23, 24, 25, 26, 27, 28, 29, 30, 31, 32, 33, 34, 35, 36, 37, 38, 39, 40, 41, 42, 43, 44, 45, 46, 47, 48, 49, 50, 51, 52, 53, 54, 55, 56, 57, 58, 59, 60, 61, 62, 63, 64, 65, 66, 67, 68, 69, 70, 71, 72, 73, 74, 75, 76, 77, 78, 79, 80, 81, 82, 83, 84, 85, 86, 87, 88, 89, 90, 91, 92, 93, 94] (by decide +kernel) (by decide +kernel)
set_option maxRecDepth 20000 in
theorem gX4_commands_X4_command : GoodIn wsX4_commands (wsV RX4 127 RX4 yX4_command wsX4_command) := goodIn_app (goodIn_of _ (by decide +kernel)) ggX4_commands_X4_command
set_option maxRecDepth 20000 in
theorem ggX4_commands_X4_stands : GoodIn wsX4_commands wsX4_stands := goodIn_r _ [11, 1, 2, 12, 85, 86, 87, 88, 89, 90, 91, 92, 93, 94] (by decide +kernel) (by decide +kernel)
set_option maxRecDepth 20000 in
theorem gX4_commands_X4_stands : GoodIn wsX4_commands (wsV RX4 121 RX4 yX4_stands wsX4_stands) := goodIn_app (goodIn_of _ (by decide +kernel)) ggX4_commands_X4_stands
theorem dX4_commands_0 : decode cX4_commands 0 = .ok (.aload_n 0, 1) := by decide +kernel
theorem dX4_commands_1 : decode cX4_commands 1 = .ok (.iconst 0, 1) := by decide +kernel
theorem dX4_commands_2 : decode cX4_commands 2 = .ok (.putfield 115, 3) := by decide +kernel
theorem dX4_commands_5 : decode cX4_commands 5 = .ok (.iconst 0, 1) := by decide +kernel
theorem dX4_commands_6 : decode cX4_commands 6 = .ok (.istore_n 1, 1) := by decide +kernel
theorem dX4_commands_7 : decode cX4_commands 7 = .ok (.aload_n 0, 1) := by decide +kernel
theorem dX4_commands_8 : decode cX4_commands 8 = .ok (.iconst 0, 1) := by decide +kernel
theorem dX4_commands_9 : decode cX4_commands 9 = .ok (.invokevirtual 127, 3) := by decide +kernel
theorem dX4_commands_12 : decode cX4_commands 12 = .ok (.ifCond .lt 30, 3) := by decide +kernel
theorem dX4_commands_15 : decode cX4_commands 15 = .ok (.iinc 1 1, 3) := by decide +kernel
theorem dX4_commands_18 : decode cX4_commands 18 = .ok (.aload_n 0, 1) := by decide +kernel
theorem dX4_commands_19 : decode cX4_commands 19 = .ok (.getfield 115, 3) := by decide +kernel
theorem dX4_commands_22 : decode cX4_commands 22 = .ok (.aload_n 0, 1) := by decide +kernel
theorem dX4_commands_23 : decode cX4_commands 23 = .ok (.getfield 118, 3) := by decide +kernel
theorem dX4_commands_26 : decode cX4_commands 26 = .ok (.if_icmp .ne 5, 3) := by decide +kernel
theorem dX4_commands_29 : decode cX4_commands 29 = .ok (.iload_n 1, 1) := by decide +kernel
theorem dX4_commands_30 : decode cX4_commands 30 = .ok (.ireturn, 1) := by decide +kernel
theorem dX4_commands_31 : decode cX4_commands 31 = .ok (.aload_n 0, 1) := by decide +kernel
theorem dX4_commands_32 : decode cX4_commands 32 = .ok (.bipush 59, 2) := by decide +kernel
theorem dX4_commands_34 : decode cX4_commands 34 = .ok (.invokevirtual 121, 3) := by decide +kernel
theorem dX4_commands_37 : decode cX4_commands 37 = .ok (.ifCond .ne (-30), 3) := by decide +kernel
theorem dX4_commands_40 : decode cX4_commands 40 = .ok (.iconst 0, 1) := by decide +kernel
theorem dX4_commands_41 : decode cX4_commands 41 = .ok (.ireturn, 1) := by decide +kernel
theorem dX4_commands_42 : decode cX4_commands 42 = .ok (.iconst 0, 1) := by decide +kernel
theorem dX4_commands_43 : decode cX4_commands 43 = .ok (.ireturn, 1) := by decide +kernel
set_option maxRecDepth 20000 in
theorem ggX4_perform_X4_commands : GoodIn wsX4_perform wsX4_commands := goodIn_r _ [8, 1, 9, 10, 11, 12, 7, 13, 14, 15, 16, 17, 18, 19, 20, 21, 22, 23, 24, 25, 26, 27, 28, 29, 2, 30, 31, 32, 33, 34, 35, 36, 37, 38, 39, 40, 41, 42, 43, 44, 45, 46, 47, 48, 49, 50, 51, 52, 53, 54, 55, 56, 57, 58, 59, 60, 61, 62, 63, 64, 65, 66, 67, 68, 69, 70, 71, 72, 73, 74, 75, 76, 77, 78, 79, 80, 81, 82, 83, 84, 85, 86, 87, 88, 89, 99, 100, 101, 102, 103, 104, 105, 106, 107, 108] (by decide +kernel) (by decide +kernel)
set_option maxRecDepth 20000 in
theorem gX4_perform_X4_commands : GoodIn wsX4_perform (wsV RX4 131 RX4 yX4_commands wsX4_commands) := goodIn_app (goodIn_of _ (by decide +kernel)) ggX4_perform_X4_commands
set_option maxRecDepth 20000 in
theorem ggX4_perform_X4_copies : GoodIn wsX4_perform wsX4_copies := goodIn_r _ [92] (by decide +kernel) (by decide +kernel)
set_option maxRecDepth 20000 in
theorem gX4_perform_X4_copies : GoodIn wsX4_perform (va_wsS RX4 94 yX4_copies wsX4_copies) := goodIn_app (goodIn_of _ (by decide +kernel)) ggX4_perform_X4_copies
set_option maxRecDepth 20000 in
theorem ggX4_perform_X4_command : GoodIn wsX4_perform wsX4_command := goodIn_r _ [13, 14, 15, 16, 7, 17, 1, 9, 18, 19, 20, 21, 22, 23, 24, 25, 26, 27, 28, 29, 2, 30, 31, 32, 33, 34, 35, 36, 37, 38, 39, 40, 41, 42, 43, 44, 45, 46, 47, 48, 49, 50, 51, 52, 53, 54, 55, 56, 57, 58, 59, 60, 61, 62, 63, 64, 65, 66, 67, 68, 69, 70, 71, 72, 73, 74, 75, 76, 77, 78, 79, 80, 81, 82, 83, 84, 85, 86, 87, 88, 89, 99, 100, 101, 102, 103, 104, 105, 106, 107, 108] (by decide +kernel) (by decide +kernel)
set_option maxRecDepth 20000 in
theorem gX4_perform_X4_command : GoodIn wsX4_perform (wsV RX4 127 RX4 yX4_command wsX4_command) := goodIn_app (goodIn_of _ (by decide +kernel)) ggX4_perform_X4_command
set_option maxRecDepth 20000 in
theorem ggX4_perform_X4_record : GoodIn wsX4_perform wsX4_record := goodIn_r _ [96, 97, 98, 99, 100, 101, 102, 103, 104, 105, 106, 107, 108] (by decide +kernel) (by decide +kernel)
set_option maxRecDepth 20000 in
theorem gX4_perform_X4_record : GoodIn wsX4_perform (wsV RX4 84 RX4 yX4_record wsX4_record) := goodIn_app (goodIn_of _ (by decide +kernel)) ggX4_perform_X4_record
theorem dX4_perform_0 : decode cX4_perform 0 = .ok (.aload_n 0, 1) := by decide +kernel
theorem dX4_perform_1 : decode cX4_perform 1 = .ok (.invokevirtual 131, 3) := by decide +kernel
theorem dX4_perform_4 : decode cX4_perform 4 = .ok (.istore_n 1, 1) := by decide +kernel
theorem dX4_perform_5 : decode cX4_perform 5 = .ok (.iload_n 1, 1) := by decide +kernel
theorem dX4_perform_6 : decode cX4_perform 6 = .ok (.ifCond .ne 11, 3) := by decide +kernel
theorem dX4_perform_9 : decode cX4_perform 9 = .ok (.bipush (-100), 2) := by decide +kernel
theorem dX4_perform_11 : decode cX4_perform 11 = .ok (.aload_n 0, 1) := by decide +kernel
theorem dX4_perform_12 : decode cX4_perform 12 = .ok (.getfield 115, 3) := by decide +kernel
theorem dX4_perform_15 : decode cX4_perform 15 = .ok (.isub, 1) := by decide +kernel
theorem dX4_perform_16 : decode cX4_perform 16 = .ok (.ireturn, 1) := by decide +kernel
theorem dX4_perform_17 : decode cX4_perform 17 = .ok (.aload_n 0, 1) := by decide +kernel
theorem dX4_perform_18 : decode cX4_perform 18 = .ok (.getfield 7, 3) := by decide +kernel
theorem dX4_perform_21 : decode cX4_perform 21 = .ok (.aload_n 0, 1) := by decide +kernel
theorem dX4_perform_22 : decode cX4_perform 22 = .ok (.getfield 13, 3) := by decide +kernel
theorem dX4_perform_25 : decode cX4_perform 25 = .ok (.invokestatic 94, 3) := by decide +kernel
theorem dX4_perform_28 : decode cX4_perform 28 = .ok (.aload_n 0, 1) := by decide +kernel
theorem dX4_perform_29 : decode cX4_perform 29 = .ok (.iconst 0, 1) := by decide +kernel
theorem dX4_perform_30 : decode cX4_perform 30 = .ok (.putfield 115, 3) := by decide +kernel
theorem dX4_perform_33 : decode cX4_perform 33 = .ok (.iconst 0, 1) := by decide +kernel
theorem dX4_perform_34 : decode cX4_perform 34 = .ok (.istore_n 2, 1) := by decide +kernel
theorem dX4_perform_35 : decode cX4_perform 35 = .ok (.iload_n 2, 1) := by decide +kernel
theorem dX4_perform_36 : decode cX4_perform 36 = .ok (.iload_n 1, 1) := by decide +kernel
theorem dX4_perform_37 : decode cX4_perform 37 = .ok (.if_icmp .ge 42, 3) := by decide +kernel
theorem dX4_perform_40 : decode cX4_perform 40 = .ok (.aload_n 0, 1) := by decide +kernel
theorem dX4_perform_41 : decode cX4_perform 41 = .ok (.iconst 1, 1) := by decide +kernel
theorem dX4_perform_42 : decode cX4_perform 42 = .ok (.invokevirtual 127, 3) := by decide +kernel
theorem dX4_perform_45 : decode cX4_perform 45 = .ok (.istore_n 3, 1) := by decide +kernel
theorem dX4_perform_46 : decode cX4_perform 46 = .ok (.iload_n 3, 1) := by decide +kernel
theorem dX4_perform_47 : decode cX4_perform 47 = .ok (.ifCond .ge 16, 3) := by decide +kernel
theorem dX4_perform_50 : decode cX4_perform 50 = .ok (.aload_n 0, 1) := by decide +kernel
theorem dX4_perform_51 : decode cX4_perform 51 = .ok (.getfield 13, 3) := by decide +kernel
theorem dX4_perform_54 : decode cX4_perform 54 = .ok (.aload_n 0, 1) := by decide +kernel
theorem dX4_perform_55 : decode cX4_perform 55 = .ok (.getfield 7, 3) := by decide +kernel
theorem dX4_perform_58 : decode cX4_perform 58 = .ok (.invokestatic 94, 3) := by decide +kernel
theorem dX4_perform_61 : decode cX4_perform 61 = .ok (.iload_n 3, 1) := by decide +kernel
theorem dX4_perform_62 : decode cX4_perform 62 = .ok (.ireturn, 1) := by decide +kernel
theorem dX4_perform_63 : decode cX4_perform 63 = .ok (.aload_n 0, 1) := by decide +kernel
theorem dX4_perform_64 : decode cX4_perform 64 = .ok (.dup, 1) := by decide +kernel
theorem dX4_perform_65 : decode cX4_perform 65 = .ok (.getfield 115, 3) := by decide +kernel
theorem dX4_perform_68 : decode cX4_perform 68 = .ok (.iconst 1, 1) := by decide +kernel
theorem dX4_perform_69 : decode cX4_perform 69 = .ok (.iadd, 1) := by decide +kernel
theorem dX4_perform_70 : decode cX4_perform 70 = .ok (.putfield 115, 3) := by decide +kernel
theorem dX4_perform_73 : decode cX4_perform 73 = .ok (.iinc 2 1, 3) := by decide +kernel
theorem dX4_perform_76 : decode cX4_perform 76 = .ok (.goto (-41), 3) := by decide +kernel
theorem dX4_perform_79 : decode cX4_perform 79 = .ok (.aload_n 0, 1) := by decide +kernel
theorem dX4_perform_80 : decode cX4_perform 80 = .ok (.aload_n 0, 1) := by decide +kernel
theorem dX4_perform_81 : decode cX4_perform 81 = .ok (.getfield 13, 3) := by decide +kernel
theorem dX4_perform_84 : decode cX4_perform 84 = .ok (.invokevirtual 84, 3) := by decide +kernel
theorem dX4_perform_87 : decode cX4_perform 87 = .ok (.iload_n 1, 1) := by decide +kernel
theorem dX4_perform_88 : decode cX4_perform 88 = .ok (.ireturn, 1) := by decide +kernel
theorem dX4_type_0 : decode cX4_type 0 = .ok (.aload_n 0, 1) := by decide +kernel
theorem dX4_type_1 : decode cX4_type 1 = .ok (.getfield 118, 3) := by decide +kernel
theorem dX4_type_4 : decode cX4_type 4 = .ok (.bipush 60, 2) := by decide +kernel
theorem dX4_type_6 : decode cX4_type 6 = .ok (.if_icmp .ne 6, 3) := by decide +kernel
theorem dX4_type_9 : decode cX4_type 9 = .ok (.bipush (-3), 2) := by decide +kernel
theorem dX4_type_11 : decode cX4_type 11 = .ok (.ireturn, 1) := by decide +kernel
theorem dX4_type_12 : decode cX4_type 12 = .ok (.aload_n 0, 1) := by decide +kernel
theorem dX4_type_13 : decode cX4_type 13 = .ok (.getfield 25, 3) := by decide +kernel
theorem dX4_type_16 : decode cX4_type 16 = .ok (.aload_n 0, 1) := by decide +kernel
theorem dX4_type_17 : decode cX4_type 17 = .ok (.getfield 118, 3) := by decide +kernel
theorem dX4_type_20 : decode cX4_type 20 = .ok (.iload_n 1, 1) := by decide +kernel
theorem dX4_type_21 : decode cX4_type 21 = .ok (.iastore, 1) := by decide +kernel
theorem dX4_type_22 : decode cX4_type 22 = .ok (.aload_n 0, 1) := by decide +kernel
theorem dX4_type_23 : decode cX4_type 23 = .ok (.dup, 1) := by decide +kernel
theorem dX4_type_24 : decode cX4_type 24 = .ok (.getfield 118, 3) := by decide +kernel
theorem dX4_type_27 : decode cX4_type 27 = .ok (.iconst 1, 1) := by decide +kernel
theorem dX4_type_28 : decode cX4_type 28 = .ok (.iadd, 1) := by decide +kernel
theorem dX4_type_29 : decode cX4_type 29 = .ok (.putfield 118, 3) := by decide +kernel
theorem dX4_type_32 : decode cX4_type 32 = .ok (.aload_n 0, 1) := by decide +kernel
theorem dX4_type_33 : decode cX4_type 33 = .ok (.getfield 118, 3) := by decide +kernel
theorem dX4_type_36 : decode cX4_type 36 = .ok (.ireturn, 1) := by decide +kernel
theorem dX4_clearText_0 : decode cX4_clearText 0 = .ok (.aload_n 0, 1) := by decide +kernel
theorem dX4_clearText_1 : decode cX4_clearText 1 = .ok (.getfield 118, 3) := by decide +kernel
theorem dX4_clearText_4 : decode cX4_clearText 4 = .ok (.istore_n 1, 1) := by decide +kernel
theorem dX4_clearText_5 : decode cX4_clearText 5 = .ok (.aload_n 0, 1) := by decide +kernel
theorem dX4_clearText_6 : decode cX4_clearText 6 = .ok (.iconst 0, 1) := by decide +kernel
theorem dX4_clearText_7 : decode cX4_clearText 7 = .ok (.putfield 118, 3) := by decide +kernel
theorem dX4_clearText_10 : decode cX4_clearText 10 = .ok (.iload_n 1, 1) := by decide +kernel
theorem dX4_clearText_11 : decode cX4_clearText 11 = .ok (.ireturn, 1) := by decide +kernel
theorem dX4_undo_0 : decode cX4_undo 0 = .ok (.aload_n 0, 1) := by decide +kernel
theorem dX4_undo_1 : decode cX4_undo 1 = .ok (.getfield 28, 3) := by decide +kernel
theorem dX4_undo_4 : decode cX4_undo 4 = .ok (.ifCond .ne 6, 3) := by decide +kernel
theorem dX4_undo_7 : decode cX4_undo 7 = .ok (.bipush (-5), 2) := by decide +kernel
theorem dX4_undo_9 : decode cX4_undo 9 = .ok (.ireturn, 1) := by decide +kernel
theorem dX4_undo_10 : decode cX4_undo 10 = .ok (.aload_n 0, 1) := by decide +kernel
theorem dX4_undo_11 : decode cX4_undo 11 = .ok (.dup, 1) := by decide +kernel
theorem dX4_undo_12 : decode cX4_undo 12 = .ok (.getfield 28, 3) := by decide +kernel
theorem dX4_undo_15 : decode cX4_undo 15 = .ok (.iconst 1, 1) := by decide +kernel
theorem dX4_undo_16 : decode cX4_undo 16 = .ok (.isub, 1) := by decide +kernel
theorem dX4_undo_17 : decode cX4_undo 17 = .ok (.putfield 28, 3) := by decide +kernel
theorem dX4_undo_20 : decode cX4_undo 20 = .ok (.iconst 0, 1) := by decide +kernel
theorem dX4_undo_21 : decode cX4_undo 21 = .ok (.istore_n 1, 1) := by decide +kernel
theorem dX4_undo_22 : decode cX4_undo 22 = .ok (.iload_n 1, 1) := by decide +kernel
theorem dX4_undo_23 : decode cX4_undo 23 = .ok (.sipush 276, 3) := by decide +kernel
theorem dX4_undo_26 : decode cX4_undo 26 = .ok (.if_icmp .ge 30, 3) := by decide +kernel
theorem dX4_undo_29 : decode cX4_undo 29 = .ok (.aload_n 0, 1) := by decide +kernel
theorem dX4_undo_30 : decode cX4_undo 30 = .ok (.getfield 7, 3) := by decide +kernel
theorem dX4_undo_33 : decode cX4_undo 33 = .ok (.iload_n 1, 1) := by decide +kernel
theorem dX4_undo_34 : decode cX4_undo 34 = .ok (.aload_n 0, 1) := by decide +kernel
theorem dX4_undo_35 : decode cX4_undo 35 = .ok (.getfield 22, 3) := by decide +kernel
theorem dX4_undo_38 : decode cX4_undo 38 = .ok (.sipush 276, 3) := by decide +kernel
theorem dX4_undo_41 : decode cX4_undo 41 = .ok (.aload_n 0, 1) := by decide +kernel
theorem dX4_undo_42 : decode cX4_undo 42 = .ok (.getfield 28, 3) := by decide +kernel
theorem dX4_undo_45 : decode cX4_undo 45 = .ok (.imul, 1) := by decide +kernel
theorem dX4_undo_46 : decode cX4_undo 46 = .ok (.iload_n 1, 1) := by decide +kernel
theorem dX4_undo_47 : decode cX4_undo 47 = .ok (.iadd, 1) := by decide +kernel
theorem dX4_undo_48 : decode cX4_undo 48 = .ok (.iaload, 1) := by decide +kernel
theorem dX4_undo_49 : decode cX4_undo 49 = .ok (.iastore, 1) := by decide +kernel
theorem dX4_undo_50 : decode cX4_undo 50 = .ok (.iinc 1 1, 3) := by decide +kernel
theorem dX4_undo_53 : decode cX4_undo 53 = .ok (.goto (-31), 3) := by decide +kernel
theorem dX4_undo_56 : decode cX4_undo 56 = .ok (.aload_n 0, 1) := by decide +kernel
theorem dX4_undo_57 : decode cX4_undo 57 = .ok (.getfield 28, 3) := by decide +kernel
theorem dX4_undo_60 : decode cX4_undo 60 = .ok (.ireturn, 1) := by decide +kernel
set_option maxRecDepth 20000 in
theorem ggX4_keep_X4_copies : GoodIn wsX4_keep wsX4_copies := goodIn_r _ [7] (by decide +kernel) (by decide +kernel)
set_option maxRecDepth 20000 in
theorem gX4_keep_X4_copies : GoodIn wsX4_keep (va_wsS RX4 94 yX4_copies wsX4_copies) := goodIn_app (goodIn_of _ (by decide +kernel)) ggX4_keep_X4_copies
theorem dX4_keep_0 : decode cX4_keep 0 = .ok (.aload_n 0, 1) := by decide +kernel
theorem dX4_keep_1 : decode cX4_keep 1 = .ok (.getfield 7, 3) := by decide +kernel
theorem dX4_keep_4 : decode cX4_keep 4 = .ok (.aload_n 0, 1) := by decide +kernel
theorem dX4_keep_5 : decode cX4_keep 5 = .ok (.getfield 19, 3) := by decide +kernel
theorem dX4_keep_8 : decode cX4_keep 8 = .ok (.invokestatic 94, 3) := by decide +kernel
theorem dX4_keep_11 : decode cX4_keep 11 = .ok (.aload_n 0, 1) := by decide +kernel
theorem dX4_keep_12 : decode cX4_keep 12 = .ok (.iconst 1, 1) := by decide +kernel
theorem dX4_keep_13 : decode cX4_keep 13 = .ok (.putfield 135, 3) := by decide +kernel
theorem dX4_keep_16 : decode cX4_keep 16 = .ok (.aload_n 0, 1) := by decide +kernel
theorem dX4_keep_17 : decode cX4_keep 17 = .ok (.getfield 7, 3) := by decide +kernel
theorem dX4_keep_20 : decode cX4_keep 20 = .ok (.iconst 3, 1) := by decide +kernel
theorem dX4_keep_21 : decode cX4_keep 21 = .ok (.iaload, 1) := by decide +kernel
theorem dX4_keep_22 : decode cX4_keep 22 = .ok (.ireturn, 1) := by decide +kernel
set_option maxRecDepth 20000 in
theorem ggX4_restore_X4_record : GoodIn wsX4_restore wsX4_record := goodIn_r _ [8, 9, 10, 14, 15, 16, 17, 18, 19, 20, 21, 22, 23] (by decide +kernel) (by decide +kernel)
set_option maxRecDepth 20000 in
theorem gX4_restore_X4_record : GoodIn wsX4_restore (wsV RX4 84 RX4 yX4_record wsX4_record) := goodIn_app (goodIn_of _ (by decide +kernel)) ggX4_restore_X4_record
set_option maxRecDepth 20000 in
theorem ggX4_restore_X4_copies : GoodIn wsX4_restore wsX4_copies := goodIn_r _ [13] (by decide +kernel) (by decide +kernel)
set_option maxRecDepth 20000 in
theorem gX4_restore_X4_copies : GoodIn wsX4_restore (va_wsS RX4 94 yX4_copies wsX4_copies) := goodIn_app (goodIn_of _ (by decide +kernel)) ggX4_restore_X4_copies
theorem dX4_restore_0 : decode cX4_restore 0 = .ok (.aload_n 0, 1) := by decide +kernel
theorem dX4_restore_1 : decode cX4_restore 1 = .ok (.getfield 135, 3) := by decide +kernel
theorem dX4_restore_4 : decode cX4_restore 4 = .ok (.ifCond .ne 6, 3) := by decide +kernel
theorem dX4_restore_7 : decode cX4_restore 7 = .ok (.bipush (-5), 2) := by decide +kernel
theorem dX4_restore_9 : decode cX4_restore 9 = .ok (.ireturn, 1) := by decide +kernel
theorem dX4_restore_10 : decode cX4_restore 10 = .ok (.aload_n 0, 1) := by decide +kernel
theorem dX4_restore_11 : decode cX4_restore 11 = .ok (.aload_n 0, 1) := by decide +kernel
theorem dX4_restore_12 : decode cX4_restore 12 = .ok (.getfield 7, 3) := by decide +kernel
theorem dX4_restore_15 : decode cX4_restore 15 = .ok (.invokevirtual 84, 3) := by decide +kernel
theorem dX4_restore_18 : decode cX4_restore 18 = .ok (.aload_n 0, 1) := by decide +kernel
theorem dX4_restore_19 : decode cX4_restore 19 = .ok (.getfield 19, 3) := by decide +kernel
theorem dX4_restore_22 : decode cX4_restore 22 = .ok (.aload_n 0, 1) := by decide +kernel
theorem dX4_restore_23 : decode cX4_restore 23 = .ok (.getfield 7, 3) := by decide +kernel
theorem dX4_restore_26 : decode cX4_restore 26 = .ok (.invokestatic 94, 3) := by decide +kernel
theorem dX4_restore_29 : decode cX4_restore 29 = .ok (.aload_n 0, 1) := by decide +kernel
theorem dX4_restore_30 : decode cX4_restore 30 = .ok (.getfield 7, 3) := by decide +kernel
theorem dX4_restore_33 : decode cX4_restore 33 = .ok (.iconst 3, 1) := by decide +kernel
theorem dX4_restore_34 : decode cX4_restore 34 = .ok (.iaload, 1) := by decide +kernel
theorem dX4_restore_35 : decode cX4_restore 35 = .ok (.ireturn, 1) := by decide +kernel
set_option maxRecDepth 20000 in
theorem ggX4_address_X4_isAddress : GoodIn wsX4_address wsX4_isAddress := goodIn_r _ [6, 7, 8, 5, 9, 10, 11, 12, 13, 1, 49, 50, 51, 52, 53, 54, 55, 56, 57, 58] (by decide +kernel) (by decide +kernel)
set_option maxRecDepth 20000 in
theorem gX4_address_X4_isAddress : GoodIn wsX4_address (wsV RX4 40 RX4 yX4_isAddress wsX4_isAddress) := goodIn_app (goodIn_of _ (by decide +kernel)) ggX4_address_X4_isAddress
set_option maxRecDepth 20000 in
theorem ggX4_address_X4_in : GoodIn wsX4_address wsX4_in := goodIn_r _ [9] (by decide +kernel) (by decide +kernel)
set_option maxRecDepth 20000 in
theorem gX4_address_X4_in : GoodIn wsX4_address (va_wsS RX4 32 yX4_in wsX4_in) := goodIn_app (goodIn_of _ (by decide +kernel)) ggX4_address_X4_in
set_option maxRecDepth 20000 in
theorem ggX4_address_X4_isLost : GoodIn wsX4_address wsX4_isLost := goodIn_r _ [17, 1, 49, 50, 51, 52, 53, 54, 55, 56, 57, 58] (by decide +kernel) (by decide +kernel)
set_option maxRecDepth 20000 in
theorem gX4_address_X4_isLost : GoodIn wsX4_address (wsV RX4 75 RX4 yX4_isLost wsX4_isLost) := goodIn_app (goodIn_of _ (by decide +kernel)) ggX4_address_X4_isLost
set_option maxRecDepth 20000 in
theorem ggX4_address_X4_lends : GoodIn wsX4_address wsX4_lends := goodIn_r _ [21, 22, 23, 24, 5, 25, 26, 27, 28, 29, 1, 10, 11, 12, 13, 30, 31, 32, 33, 34, 35, 36, 37, 2, 3, 4, 6, 7, 8, 9, 38, 39, 40, 41, 49, 50, 51, 52, 53, 54, 55, 56, 57, 58] (by decide +kernel) (by decide +kernel)
set_option maxRecDepth 20000 in
theorem gX4_address_X4_lends : GoodIn wsX4_address (wsV RX4 68 RX4 yX4_lends wsX4_lends) := goodIn_app (goodIn_of _ (by decide +kernel)) ggX4_address_X4_lends
set_option maxRecDepth 20000 in
theorem ggX4_address_X4_steps : GoodIn wsX4_address wsX4_steps := goodIn_r _ [45, 1, 46, 47, 5, 48, 49, 50, 51, 52, 53, 54, 55, 56, 57, 58] (by decide +kernel) (by decide +kernel)
set_option maxRecDepth 20000 in
theorem gX4_address_X4_steps : GoodIn wsX4_address (wsV RX4 139 RX4 yX4_steps wsX4_steps) := goodIn_app (goodIn_of _ (by decide +kernel)) ggX4_address_X4_steps
theorem dX4_address_0 : decode cX4_address 0 = .ok (.aload_n 0, 1) := by decide +kernel
theorem dX4_address_1 : decode cX4_address 1 = .ok (.iload_n 1, 1) := by decide +kernel
theorem dX4_address_2 : decode cX4_address 2 = .ok (.invokevirtual 40, 3) := by decide +kernel
theorem dX4_address_5 : decode cX4_address 5 = .ok (.ifCond .ne 5, 3) := by decide +kernel
theorem dX4_address_8 : decode cX4_address 8 = .ok (.iconst (-1), 1) := by decide +kernel
theorem dX4_address_9 : decode cX4_address 9 = .ok (.ireturn, 1) := by decide +kernel
theorem dX4_address_10 : decode cX4_address 10 = .ok (.iload_n 2, 1) := by decide +kernel
theorem dX4_address_11 : decode cX4_address 11 = .ok (.iconst 0, 1) := by decide +kernel
theorem dX4_address_12 : decode cX4_address 12 = .ok (.iconst 5, 1) := by decide +kernel
theorem dX4_address_13 : decode cX4_address 13 = .ok (.invokestatic 32, 3) := by decide +kernel
theorem dX4_address_16 : decode cX4_address 16 = .ok (.ifCond .ne 6, 3) := by decide +kernel
theorem dX4_address_19 : decode cX4_address 19 = .ok (.bipush (-2), 2) := by decide +kernel
theorem dX4_address_21 : decode cX4_address 21 = .ok (.ireturn, 1) := by decide +kernel
theorem dX4_address_22 : decode cX4_address 22 = .ok (.aload_n 0, 1) := by decide +kernel
theorem dX4_address_23 : decode cX4_address 23 = .ok (.iload_n 1, 1) := by decide +kernel
theorem dX4_address_24 : decode cX4_address 24 = .ok (.invokevirtual 75, 3) := by decide +kernel
theorem dX4_address_27 : decode cX4_address 27 = .ok (.istore_n 3, 1) := by decide +kernel
theorem dX4_address_28 : decode cX4_address 28 = .ok (.iload_n 2, 1) := by decide +kernel
theorem dX4_address_29 : decode cX4_address 29 = .ok (.iconst 3, 1) := by decide +kernel
theorem dX4_address_30 : decode cX4_address 30 = .ok (.if_icmp .ne 9, 3) := by decide +kernel
theorem dX4_address_33 : decode cX4_address 33 = .ok (.aload_n 0, 1) := by decide +kernel
theorem dX4_address_34 : decode cX4_address 34 = .ok (.iload_n 1, 1) := by decide +kernel
theorem dX4_address_35 : decode cX4_address 35 = .ok (.invokevirtual 68, 3) := by decide +kernel
theorem dX4_address_38 : decode cX4_address 38 = .ok (.ireturn, 1) := by decide +kernel
theorem dX4_address_39 : decode cX4_address 39 = .ok (.iload_n 2, 1) := by decide +kernel
theorem dX4_address_40 : decode cX4_address 40 = .ok (.iconst 5, 1) := by decide +kernel
theorem dX4_address_41 : decode cX4_address 41 = .ok (.if_icmp .ne 14, 3) := by decide +kernel
theorem dX4_address_44 : decode cX4_address 44 = .ok (.aload_n 0, 1) := by decide +kernel
theorem dX4_address_45 : decode cX4_address 45 = .ok (.getfield 7, 3) := by decide +kernel
theorem dX4_address_48 : decode cX4_address 48 = .ok (.sipush 212, 3) := by decide +kernel
theorem dX4_address_51 : decode cX4_address 51 = .ok (.iload_n 1, 1) := by decide +kernel
theorem dX4_address_52 : decode cX4_address 52 = .ok (.iadd, 1) := by decide +kernel
theorem dX4_address_53 : decode cX4_address 53 = .ok (.iaload, 1) := by decide +kernel
theorem dX4_address_54 : decode cX4_address 54 = .ok (.ireturn, 1) := by decide +kernel
theorem dX4_address_55 : decode cX4_address 55 = .ok (.iload_n 2, 1) := by decide +kernel
theorem dX4_address_56 : decode cX4_address 56 = .ok (.iconst 2, 1) := by decide +kernel
theorem dX4_address_57 : decode cX4_address 57 = .ok (.if_icmp .ne 27, 3) := by decide +kernel
theorem dX4_address_60 : decode cX4_address 60 = .ok (.iload_n 3, 1) := by decide +kernel
theorem dX4_address_61 : decode cX4_address 61 = .ok (.ifCond .ne 21, 3) := by decide +kernel
theorem dX4_address_64 : decode cX4_address 64 = .ok (.aload_n 0, 1) := by decide +kernel
theorem dX4_address_65 : decode cX4_address 65 = .ok (.getfield 7, 3) := by decide +kernel
theorem dX4_address_68 : decode cX4_address 68 = .ok (.sipush 148, 3) := by decide +kernel
theorem dX4_address_71 : decode cX4_address 71 = .ok (.iload_n 1, 1) := by decide +kernel
theorem dX4_address_72 : decode cX4_address 72 = .ok (.iadd, 1) := by decide +kernel
theorem dX4_address_73 : decode cX4_address 73 = .ok (.iaload, 1) := by decide +kernel
theorem dX4_address_74 : decode cX4_address 74 = .ok (.iload_n 1, 1) := by decide +kernel
theorem dX4_address_75 : decode cX4_address 75 = .ok (.if_icmp .eq 7, 3) := by decide +kernel
theorem dX4_address_78 : decode cX4_address 78 = .ok (.iconst 1, 1) := by decide +kernel
theorem dX4_address_79 : decode cX4_address 79 = .ok (.goto 4, 3) := by decide +kernel
theorem dX4_address_82 : decode cX4_address 82 = .ok (.iconst 0, 1) := by decide +kernel
theorem dX4_address_83 : decode cX4_address 83 = .ok (.ireturn, 1) := by decide +kernel
theorem dX4_address_84 : decode cX4_address 84 = .ok (.iload_n 3, 1) := by decide +kernel
theorem dX4_address_85 : decode cX4_address 85 = .ok (.ifCond .eq 8, 3) := by decide +kernel
theorem dX4_address_88 : decode cX4_address 88 = .ok (.bipush (-5), 2) := by decide +kernel
theorem dX4_address_90 : decode cX4_address 90 = .ok (.goto 42, 3) := by decide +kernel
theorem dX4_address_93 : decode cX4_address 93 = .ok (.iload_n 2, 1) := by decide +kernel
theorem dX4_address_94 : decode cX4_address 94 = .ok (.ifCond .ne 15, 3) := by decide +kernel
theorem dX4_address_97 : decode cX4_address 97 = .ok (.aload_n 0, 1) := by decide +kernel
theorem dX4_address_98 : decode cX4_address 98 = .ok (.getfield 7, 3) := by decide +kernel
theorem dX4_address_101 : decode cX4_address 101 = .ok (.bipush 84, 2) := by decide +kernel
theorem dX4_address_103 : decode cX4_address 103 = .ok (.iload_n 1, 1) := by decide +kernel
theorem dX4_address_104 : decode cX4_address 104 = .ok (.iadd, 1) := by decide +kernel
end
section
theorem dX4_address_105 : decode cX4_address 105 = .ok (.iaload, 1) := by decide +kernel
theorem dX4_address_106 : decode cX4_address 106 = .ok (.goto 26, 3) := by decide +kernel
theorem dX4_address_109 : decode cX4_address 109 = .ok (.iload_n 2, 1) := by decide +kernel
theorem dX4_address_110 : decode cX4_address 110 = .ok (.iconst 1, 1) := by decide +kernel
theorem dX4_address_111 : decode cX4_address 111 = .ok (.if_icmp .ne 16, 3) := by decide +kernel
theorem dX4_address_114 : decode cX4_address 114 = .ok (.aload_n 0, 1) := by decide +kernel
theorem dX4_address_115 : decode cX4_address 115 = .ok (.getfield 7, 3) := by decide +kernel
theorem dX4_address_118 : decode cX4_address 118 = .ok (.sipush 148, 3) := by decide +kernel
theorem dX4_address_121 : decode cX4_address 121 = .ok (.iload_n 1, 1) := by decide +kernel
theorem dX4_address_122 : decode cX4_address 122 = .ok (.iadd, 1) := by decide +kernel
theorem dX4_address_123 : decode cX4_address 123 = .ok (.iaload, 1) := by decide +kernel
theorem dX4_address_124 : decode cX4_address 124 = .ok (.goto 8, 3) := by decide +kernel
theorem dX4_address_127 : decode cX4_address 127 = .ok (.aload_n 0, 1) := by decide +kernel
theorem dX4_address_128 : decode cX4_address 128 = .ok (.iload_n 1, 1) := by decide +kernel
theorem dX4_address_129 : decode cX4_address 129 = .ok (.invokevirtual 139, 3) := by decide +kernel
theorem dX4_address_132 : decode cX4_address 132 = .ok (.ireturn, 1) := by decide +kernel
set_option maxRecDepth 20000 in
theorem ggX4_sector_X4_in : GoodIn wsX4_sector wsX4_in := goodIn_r _ [5] (by decide +kernel) (by decide +kernel)
set_option maxRecDepth 20000 in
theorem gX4_sector_X4_in : GoodIn wsX4_sector (va_wsS RX4 32 yX4_in wsX4_in) := goodIn_app (goodIn_of _ (by decide +kernel)) ggX4_sector_X4_in
set_option maxRecDepth 20000 in
theorem ggX4_sector_X4_state : GoodIn wsX4_sector wsX4_state := goodIn_r _ [9, 1, 26, 27, 28, 29, 30, 31, 32, 33, 34, 35] (by decide +kernel) (by decide +kernel)
set_option maxRecDepth 20000 in
theorem gX4_sector_X4_state : GoodIn wsX4_sector (wsV RX4 43 RX4 yX4_state wsX4_state) := goodIn_app (goodIn_of _ (by decide +kernel)) ggX4_sector_X4_state
set_option maxRecDepth 20000 in
theorem ggX4_sector_X4_isSpare : GoodIn wsX4_sector wsX4_isSpare := goodIn_r _ [13, 1, 26, 27, 28, 29, 30, 31, 32, 33, 34, 35] (by decide +kernel) (by decide +kernel)
set_option maxRecDepth 20000 in
theorem gX4_sector_X4_isSpare : GoodIn wsX4_sector (wsV RX4 36 RX4 yX4_isSpare wsX4_isSpare) := goodIn_app (goodIn_of _ (by decide +kernel)) ggX4_sector_X4_isSpare
set_option maxRecDepth 20000 in
theorem ggX4_sector_X4_serves : GoodIn wsX4_sector wsX4_serves := goodIn_r _ [17, 1, 18, 19, 20, 4, 21, 2, 3, 5, 10, 11, 12, 13, 26, 27, 28, 29, 30, 31, 32, 33, 34, 35] (by decide +kernel) (by decide +kernel)
set_option maxRecDepth 20000 in
theorem gX4_sector_X4_serves : GoodIn wsX4_sector (wsV RX4 47 RX4 yX4_serves wsX4_serves) := goodIn_app (goodIn_of _ (by decide +kernel)) ggX4_sector_X4_serves
set_option maxRecDepth 20000 in
theorem ggX4_sector_X4_isFree : GoodIn wsX4_sector wsX4_isFree := goodIn_r _ [25, 1, 10, 11, 12, 4, 13, 6, 7, 8, 9, 14, 15, 16, 17, 18, 19, 20, 21, 2, 3, 5, 26, 27, 28, 29, 30, 31, 32, 33, 34, 35] (by decide +kernel) (by decide +kernel)
set_option maxRecDepth 20000 in
theorem gX4_sector_X4_isFree : GoodIn wsX4_sector (wsV RX4 50 RX4 yX4_isFree wsX4_isFree) := goodIn_app (goodIn_of _ (by decide +kernel)) ggX4_sector_X4_isFree
theorem dX4_sector_0 : decode cX4_sector 0 = .ok (.iload_n 1, 1) := by decide +kernel
theorem dX4_sector_1 : decode cX4_sector 1 = .ok (.iconst 0, 1) := by decide +kernel
theorem dX4_sector_2 : decode cX4_sector 2 = .ok (.bipush 63, 2) := by decide +kernel
theorem dX4_sector_4 : decode cX4_sector 4 = .ok (.invokestatic 32, 3) := by decide +kernel
theorem dX4_sector_7 : decode cX4_sector 7 = .ok (.ifCond .ne 5, 3) := by decide +kernel
theorem dX4_sector_10 : decode cX4_sector 10 = .ok (.iconst (-1), 1) := by decide +kernel
theorem dX4_sector_11 : decode cX4_sector 11 = .ok (.ireturn, 1) := by decide +kernel
theorem dX4_sector_12 : decode cX4_sector 12 = .ok (.iload_n 2, 1) := by decide +kernel
theorem dX4_sector_13 : decode cX4_sector 13 = .ok (.iconst 0, 1) := by decide +kernel
theorem dX4_sector_14 : decode cX4_sector 14 = .ok (.iconst 4, 1) := by decide +kernel
theorem dX4_sector_15 : decode cX4_sector 15 = .ok (.invokestatic 32, 3) := by decide +kernel
theorem dX4_sector_18 : decode cX4_sector 18 = .ok (.ifCond .ne 6, 3) := by decide +kernel
theorem dX4_sector_21 : decode cX4_sector 21 = .ok (.bipush (-2), 2) := by decide +kernel
theorem dX4_sector_23 : decode cX4_sector 23 = .ok (.ireturn, 1) := by decide +kernel
theorem dX4_sector_24 : decode cX4_sector 24 = .ok (.iload_n 2, 1) := by decide +kernel
theorem dX4_sector_25 : decode cX4_sector 25 = .ok (.iconst 2, 1) := by decide +kernel
theorem dX4_sector_26 : decode cX4_sector 26 = .ok (.if_icmp .ge 25, 3) := by decide +kernel
theorem dX4_sector_29 : decode cX4_sector 29 = .ok (.iload_n 2, 1) := by decide +kernel
theorem dX4_sector_30 : decode cX4_sector 30 = .ok (.ifCond .ne 15, 3) := by decide +kernel
theorem dX4_sector_33 : decode cX4_sector 33 = .ok (.aload_n 0, 1) := by decide +kernel
theorem dX4_sector_34 : decode cX4_sector 34 = .ok (.getfield 7, 3) := by decide +kernel
theorem dX4_sector_37 : decode cX4_sector 37 = .ok (.bipush 20, 2) := by decide +kernel
theorem dX4_sector_39 : decode cX4_sector 39 = .ok (.iload_n 1, 1) := by decide +kernel
theorem dX4_sector_40 : decode cX4_sector 40 = .ok (.iadd, 1) := by decide +kernel
theorem dX4_sector_41 : decode cX4_sector 41 = .ok (.iaload, 1) := by decide +kernel
theorem dX4_sector_42 : decode cX4_sector 42 = .ok (.goto 8, 3) := by decide +kernel
theorem dX4_sector_45 : decode cX4_sector 45 = .ok (.aload_n 0, 1) := by decide +kernel
theorem dX4_sector_46 : decode cX4_sector 46 = .ok (.iload_n 1, 1) := by decide +kernel
theorem dX4_sector_47 : decode cX4_sector 47 = .ok (.invokevirtual 43, 3) := by decide +kernel
theorem dX4_sector_50 : decode cX4_sector 50 = .ok (.ireturn, 1) := by decide +kernel
theorem dX4_sector_51 : decode cX4_sector 51 = .ok (.iload_n 2, 1) := by decide +kernel
theorem dX4_sector_52 : decode cX4_sector 52 = .ok (.iconst 2, 1) := by decide +kernel
theorem dX4_sector_53 : decode cX4_sector 53 = .ok (.if_icmp .ne 19, 3) := by decide +kernel
theorem dX4_sector_56 : decode cX4_sector 56 = .ok (.aload_n 0, 1) := by decide +kernel
theorem dX4_sector_57 : decode cX4_sector 57 = .ok (.iload_n 1, 1) := by decide +kernel
theorem dX4_sector_58 : decode cX4_sector 58 = .ok (.invokevirtual 36, 3) := by decide +kernel
theorem dX4_sector_61 : decode cX4_sector 61 = .ok (.ifCond .eq 7, 3) := by decide +kernel
theorem dX4_sector_64 : decode cX4_sector 64 = .ok (.iconst 1, 1) := by decide +kernel
theorem dX4_sector_65 : decode cX4_sector 65 = .ok (.goto 33, 3) := by decide +kernel
theorem dX4_sector_68 : decode cX4_sector 68 = .ok (.iconst 0, 1) := by decide +kernel
theorem dX4_sector_69 : decode cX4_sector 69 = .ok (.goto 29, 3) := by decide +kernel
theorem dX4_sector_72 : decode cX4_sector 72 = .ok (.iload_n 2, 1) := by decide +kernel
theorem dX4_sector_73 : decode cX4_sector 73 = .ok (.iconst 3, 1) := by decide +kernel
theorem dX4_sector_74 : decode cX4_sector 74 = .ok (.if_icmp .ne 11, 3) := by decide +kernel
theorem dX4_sector_77 : decode cX4_sector 77 = .ok (.aload_n 0, 1) := by decide +kernel
theorem dX4_sector_78 : decode cX4_sector 78 = .ok (.iload_n 1, 1) := by decide +kernel
theorem dX4_sector_79 : decode cX4_sector 79 = .ok (.invokevirtual 47, 3) := by decide +kernel
theorem dX4_sector_82 : decode cX4_sector 82 = .ok (.goto 16, 3) := by decide +kernel
theorem dX4_sector_85 : decode cX4_sector 85 = .ok (.aload_n 0, 1) := by decide +kernel
theorem dX4_sector_86 : decode cX4_sector 86 = .ok (.iload_n 1, 1) := by decide +kernel
theorem dX4_sector_87 : decode cX4_sector 87 = .ok (.invokevirtual 50, 3) := by decide +kernel
theorem dX4_sector_90 : decode cX4_sector 90 = .ok (.ifCond .eq 7, 3) := by decide +kernel
theorem dX4_sector_93 : decode cX4_sector 93 = .ok (.iconst 1, 1) := by decide +kernel
theorem dX4_sector_94 : decode cX4_sector 94 = .ok (.goto 4, 3) := by decide +kernel
theorem dX4_sector_97 : decode cX4_sector 97 = .ok (.iconst 0, 1) := by decide +kernel
theorem dX4_sector_98 : decode cX4_sector 98 = .ok (.ireturn, 1) := by decide +kernel
set_option maxRecDepth 20000 in
theorem ggX4_across_X4_isAddress : GoodIn wsX4_across wsX4_isAddress := goodIn_r _ [6, 7, 8, 5, 9, 10, 11, 12, 13, 1, 18, 19, 20, 21, 22, 23, 24, 25, 26, 27] (by decide +kernel) (by decide +kernel)
set_option maxRecDepth 20000 in
theorem gX4_across_X4_isAddress : GoodIn wsX4_across (wsV RX4 40 RX4 yX4_isAddress wsX4_isAddress) := goodIn_app (goodIn_of _ (by decide +kernel)) ggX4_across_X4_isAddress
set_option maxRecDepth 20000 in
theorem ggX4_across_X4_isLost : GoodIn wsX4_across wsX4_isLost := goodIn_r _ [17, 1, 18, 19, 20, 21, 22, 23, 24, 25, 26, 27] (by decide +kernel) (by decide +kernel)
set_option maxRecDepth 20000 in
theorem gX4_across_X4_isLost : GoodIn wsX4_across (wsV RX4 75 RX4 yX4_isLost wsX4_isLost) := goodIn_app (goodIn_of _ (by decide +kernel)) ggX4_across_X4_isLost
theorem dX4_across_0 : decode cX4_across 0 = .ok (.iconst 0, 1) := by decide +kernel
theorem dX4_across_1 : decode cX4_across 1 = .ok (.istore_n 3, 1) := by decide +kernel
theorem dX4_across_2 : decode cX4_across 2 = .ok (.iconst 0, 1) := by decide +kernel
theorem dX4_across_3 : decode cX4_across 3 = .ok (.istore 4, 2) := by decide +kernel
theorem dX4_across_5 : decode cX4_across 5 = .ok (.iload 4, 2) := by decide +kernel
theorem dX4_across_7 : decode cX4_across 7 = .ok (.bipush 64, 2) := by decide +kernel
theorem dX4_across_9 : decode cX4_across 9 = .ok (.if_icmp .ge 99, 3) := by decide +kernel
theorem dX4_across_12 : decode cX4_across 12 = .ok (.aload_n 0, 1) := by decide +kernel
theorem dX4_across_13 : decode cX4_across 13 = .ok (.iload 4, 2) := by decide +kernel
theorem dX4_across_15 : decode cX4_across 15 = .ok (.invokevirtual 40, 3) := by decide +kernel
theorem dX4_across_18 : decode cX4_across 18 = .ok (.ifCond .eq 38, 3) := by decide +kernel
theorem dX4_across_21 : decode cX4_across 21 = .ok (.aload_n 0, 1) := by decide +kernel
theorem dX4_across_22 : decode cX4_across 22 = .ok (.iload 4, 2) := by decide +kernel
theorem dX4_across_24 : decode cX4_across 24 = .ok (.invokevirtual 75, 3) := by decide +kernel
theorem dX4_across_27 : decode cX4_across 27 = .ok (.ifCond .ne 29, 3) := by decide +kernel
theorem dX4_across_30 : decode cX4_across 30 = .ok (.aload_n 0, 1) := by decide +kernel
theorem dX4_across_31 : decode cX4_across 31 = .ok (.getfield 7, 3) := by decide +kernel
theorem dX4_across_34 : decode cX4_across 34 = .ok (.sipush 148, 3) := by decide +kernel
theorem dX4_across_37 : decode cX4_across 37 = .ok (.iload 4, 2) := by decide +kernel
theorem dX4_across_39 : decode cX4_across 39 = .ok (.iadd, 1) := by decide +kernel
theorem dX4_across_40 : decode cX4_across 40 = .ok (.iaload, 1) := by decide +kernel
theorem dX4_across_41 : decode cX4_across 41 = .ok (.bipush 16, 2) := by decide +kernel
theorem dX4_across_43 : decode cX4_across 43 = .ok (.idiv, 1) := by decide +kernel
theorem dX4_across_44 : decode cX4_across 44 = .ok (.iload 4, 2) := by decide +kernel
theorem dX4_across_46 : decode cX4_across 46 = .ok (.bipush 16, 2) := by decide +kernel
theorem dX4_across_48 : decode cX4_across 48 = .ok (.idiv, 1) := by decide +kernel
theorem dX4_across_49 : decode cX4_across 49 = .ok (.if_icmp .eq 7, 3) := by decide +kernel
theorem dX4_across_52 : decode cX4_across 52 = .ok (.iconst 1, 1) := by decide +kernel
theorem dX4_across_53 : decode cX4_across 53 = .ok (.goto 4, 3) := by decide +kernel
theorem dX4_across_56 : decode cX4_across 56 = .ok (.iconst 0, 1) := by decide +kernel
theorem dX4_across_57 : decode cX4_across 57 = .ok (.istore 5, 2) := by decide +kernel
theorem dX4_across_59 : decode cX4_across 59 = .ok (.iload_n 3, 1) := by decide +kernel
theorem dX4_across_60 : decode cX4_across 60 = .ok (.iload 5, 2) := by decide +kernel
theorem dX4_across_62 : decode cX4_across 62 = .ok (.ifCond .eq 37, 3) := by decide +kernel
theorem dX4_across_65 : decode cX4_across 65 = .ok (.iload_n 2, 1) := by decide +kernel
theorem dX4_across_66 : decode cX4_across 66 = .ok (.ifCond .ne 20, 3) := by decide +kernel
theorem dX4_across_69 : decode cX4_across 69 = .ok (.aload_n 0, 1) := by decide +kernel
theorem dX4_across_70 : decode cX4_across 70 = .ok (.getfield 7, 3) := by decide +kernel
theorem dX4_across_73 : decode cX4_across 73 = .ok (.sipush 148, 3) := by decide +kernel
theorem dX4_across_76 : decode cX4_across 76 = .ok (.iload 4, 2) := by decide +kernel
theorem dX4_across_78 : decode cX4_across 78 = .ok (.iadd, 1) := by decide +kernel
theorem dX4_across_79 : decode cX4_across 79 = .ok (.iaload, 1) := by decide +kernel
theorem dX4_across_80 : decode cX4_across 80 = .ok (.bipush 16, 2) := by decide +kernel
theorem dX4_across_82 : decode cX4_across 82 = .ok (.idiv, 1) := by decide +kernel
theorem dX4_across_83 : decode cX4_across 83 = .ok (.goto 8, 3) := by decide +kernel
theorem dX4_across_86 : decode cX4_across 86 = .ok (.iload 4, 2) := by decide +kernel
theorem dX4_across_88 : decode cX4_across 88 = .ok (.bipush 16, 2) := by decide +kernel
theorem dX4_across_90 : decode cX4_across 90 = .ok (.idiv, 1) := by decide +kernel
theorem dX4_across_91 : decode cX4_across 91 = .ok (.iload_n 1, 1) := by decide +kernel
theorem dX4_across_92 : decode cX4_across 92 = .ok (.if_icmp .ne 7, 3) := by decide +kernel
theorem dX4_across_95 : decode cX4_across 95 = .ok (.iconst 1, 1) := by decide +kernel
theorem dX4_across_96 : decode cX4_across 96 = .ok (.goto 4, 3) := by decide +kernel
theorem dX4_across_99 : decode cX4_across 99 = .ok (.iconst 0, 1) := by decide +kernel
theorem dX4_across_100 : decode cX4_across 100 = .ok (.iadd, 1) := by decide +kernel
theorem dX4_across_101 : decode cX4_across 101 = .ok (.istore_n 3, 1) := by decide +kernel
theorem dX4_across_102 : decode cX4_across 102 = .ok (.iinc 4 1, 3) := by decide +kernel
theorem dX4_across_105 : decode cX4_across 105 = .ok (.goto (-100), 3) := by decide +kernel
theorem dX4_across_108 : decode cX4_across 108 = .ok (.iload_n 3, 1) := by decide +kernel
theorem dX4_across_109 : decode cX4_across 109 = .ok (.ireturn, 1) := by decide +kernel
set_option maxRecDepth 20000 in
theorem ggX4_inState_X4_state : GoodIn wsX4_inState wsX4_state := goodIn_r _ [5, 6, 7, 8, 9, 10, 11, 12, 13, 14, 15, 16] (by decide +kernel) (by decide +kernel)
set_option maxRecDepth 20000 in
theorem gX4_inState_X4_state : GoodIn wsX4_inState (wsV RX4 43 RX4 yX4_state wsX4_state) := goodIn_app (goodIn_of _ (by decide +kernel)) ggX4_inState_X4_state
theorem dX4_inState_0 : decode cX4_inState 0 = .ok (.iconst 0, 1) := by decide +kernel
theorem dX4_inState_1 : decode cX4_inState 1 = .ok (.istore_n 3, 1) := by decide +kernel
theorem dX4_inState_2 : decode cX4_inState 2 = .ok (.iconst 0, 1) := by decide +kernel
theorem dX4_inState_3 : decode cX4_inState 3 = .ok (.istore 4, 2) := by decide +kernel
theorem dX4_inState_5 : decode cX4_inState 5 = .ok (.iload 4, 2) := by decide +kernel
theorem dX4_inState_7 : decode cX4_inState 7 = .ok (.bipush 16, 2) := by decide +kernel
theorem dX4_inState_9 : decode cX4_inState 9 = .ok (.if_icmp .ge 32, 3) := by decide +kernel
theorem dX4_inState_12 : decode cX4_inState 12 = .ok (.iload_n 3, 1) := by decide +kernel
theorem dX4_inState_13 : decode cX4_inState 13 = .ok (.aload_n 0, 1) := by decide +kernel
theorem dX4_inState_14 : decode cX4_inState 14 = .ok (.bipush 16, 2) := by decide +kernel
theorem dX4_inState_16 : decode cX4_inState 16 = .ok (.iload_n 1, 1) := by decide +kernel
theorem dX4_inState_17 : decode cX4_inState 17 = .ok (.imul, 1) := by decide +kernel
theorem dX4_inState_18 : decode cX4_inState 18 = .ok (.iload 4, 2) := by decide +kernel
theorem dX4_inState_20 : decode cX4_inState 20 = .ok (.iadd, 1) := by decide +kernel
theorem dX4_inState_21 : decode cX4_inState 21 = .ok (.invokevirtual 43, 3) := by decide +kernel
theorem dX4_inState_24 : decode cX4_inState 24 = .ok (.iload_n 2, 1) := by decide +kernel
theorem dX4_inState_25 : decode cX4_inState 25 = .ok (.if_icmp .ne 7, 3) := by decide +kernel
theorem dX4_inState_28 : decode cX4_inState 28 = .ok (.iconst 1, 1) := by decide +kernel
theorem dX4_inState_29 : decode cX4_inState 29 = .ok (.goto 4, 3) := by decide +kernel
theorem dX4_inState_32 : decode cX4_inState 32 = .ok (.iconst 0, 1) := by decide +kernel
theorem dX4_inState_33 : decode cX4_inState 33 = .ok (.iadd, 1) := by decide +kernel
theorem dX4_inState_34 : decode cX4_inState 34 = .ok (.istore_n 3, 1) := by decide +kernel
theorem dX4_inState_35 : decode cX4_inState 35 = .ok (.iinc 4 1, 3) := by decide +kernel
theorem dX4_inState_38 : decode cX4_inState 38 = .ok (.goto (-33), 3) := by decide +kernel
theorem dX4_inState_41 : decode cX4_inState 41 = .ok (.iload_n 3, 1) := by decide +kernel
theorem dX4_inState_42 : decode cX4_inState 42 = .ok (.ireturn, 1) := by decide +kernel
set_option maxRecDepth 20000 in
theorem ggX4_head_X4_isHead : GoodIn wsX4_head wsX4_isHead := goodIn_r _ [5, 6, 7, 4, 8] (by decide +kernel) (by decide +kernel)
set_option maxRecDepth 20000 in
theorem gX4_head_X4_isHead : GoodIn wsX4_head (va_wsS RX4 88 yX4_isHead wsX4_isHead) := goodIn_app (goodIn_of _ (by decide +kernel)) ggX4_head_X4_isHead
set_option maxRecDepth 20000 in
theorem ggX4_head_X4_in : GoodIn wsX4_head wsX4_in := goodIn_r _ [8] (by decide +kernel) (by decide +kernel)
set_option maxRecDepth 20000 in
theorem gX4_head_X4_in : GoodIn wsX4_head (va_wsS RX4 32 yX4_in wsX4_in) := goodIn_app (goodIn_of _ (by decide +kernel)) ggX4_head_X4_in
set_option maxRecDepth 20000 in
theorem ggX4_head_X4_frees : GoodIn wsX4_head wsX4_frees := goodIn_r _ [12, 13, 14, 15, 4, 16, 1, 17, 18, 19, 20, 21, 22, 23, 24, 25, 26, 27, 28, 29, 30, 31, 32, 6, 7, 8, 53, 54, 55, 56, 57, 58, 59, 60, 61, 62] (by decide +kernel) (by decide +kernel)
set_option maxRecDepth 20000 in
theorem gX4_head_X4_frees : GoodIn wsX4_head (wsV RX4 56 RX4 yX4_frees wsX4_frees) := goodIn_app (goodIn_of _ (by decide +kernel)) ggX4_head_X4_frees
set_option maxRecDepth 20000 in
theorem ggX4_head_X4_across : GoodIn wsX4_head wsX4_across := goodIn_r _ [36, 1, 29, 30, 31, 4, 32, 6, 7, 8, 17, 18, 19, 20, 37, 38, 39, 40, 53, 54, 55, 56, 57, 58, 59, 60, 61, 62] (by decide +kernel) (by decide +kernel)
set_option maxRecDepth 20000 in
theorem gX4_head_X4_across : GoodIn wsX4_head (wsV RX4 142 RX4 yX4_across wsX4_across) := goodIn_app (goodIn_of _ (by decide +kernel)) ggX4_head_X4_across
set_option maxRecDepth 20000 in
theorem ggX4_head_X4_lost : GoodIn wsX4_head wsX4_lost := goodIn_r _ [44, 29, 30, 31, 4, 32, 6, 7, 8, 17, 18, 19, 20, 1, 37, 38, 39, 40, 53, 54, 55, 56, 57, 58, 59, 60, 61, 62] (by decide +kernel) (by decide +kernel)
set_option maxRecDepth 20000 in
theorem gX4_head_X4_lost : GoodIn wsX4_head (wsV RX4 109 RX4 yX4_lost wsX4_lost) := goodIn_app (goodIn_of _ (by decide +kernel)) ggX4_head_X4_lost
set_option maxRecDepth 20000 in
theorem ggX4_head_X4_wear : GoodIn wsX4_head wsX4_wear := goodIn_r _ [48, 1, 53, 54, 55, 56, 57, 58, 59, 60, 61, 62] (by decide +kernel) (by decide +kernel)
set_option maxRecDepth 20000 in
theorem gX4_head_X4_wear : GoodIn wsX4_head (wsV RX4 91 RX4 yX4_wear wsX4_wear) := goodIn_app (goodIn_of _ (by decide +kernel)) ggX4_head_X4_wear
set_option maxRecDepth 20000 in
theorem ggX4_head_X4_inState : GoodIn wsX4_head wsX4_inState := goodIn_r _ [52, 21, 22, 23, 4, 24, 1, 53, 54, 55, 56, 57, 58, 59, 60, 61, 62] (by decide +kernel) (by decide +kernel)
set_option maxRecDepth 20000 in
theorem gX4_head_X4_inState : GoodIn wsX4_head (wsV RX4 145 RX4 yX4_inState wsX4_inState) := goodIn_app (goodIn_of _ (by decide +kernel)) ggX4_head_X4_inState
theorem dX4_head_0 : decode cX4_head 0 = .ok (.iload_n 1, 1) := by decide +kernel
theorem dX4_head_1 : decode cX4_head 1 = .ok (.invokestatic 88, 3) := by decide +kernel
theorem dX4_head_4 : decode cX4_head 4 = .ok (.ifCond .ne 5, 3) := by decide +kernel
theorem dX4_head_7 : decode cX4_head 7 = .ok (.iconst (-1), 1) := by decide +kernel
theorem dX4_head_8 : decode cX4_head 8 = .ok (.ireturn, 1) := by decide +kernel
theorem dX4_head_9 : decode cX4_head 9 = .ok (.iload_n 2, 1) := by decide +kernel
theorem dX4_head_10 : decode cX4_head 10 = .ok (.iconst 0, 1) := by decide +kernel
theorem dX4_head_11 : decode cX4_head 11 = .ok (.bipush 9, 2) := by decide +kernel
theorem dX4_head_13 : decode cX4_head 13 = .ok (.invokestatic 32, 3) := by decide +kernel
theorem dX4_head_16 : decode cX4_head 16 = .ok (.ifCond .ne 6, 3) := by decide +kernel
theorem dX4_head_19 : decode cX4_head 19 = .ok (.bipush (-2), 2) := by decide +kernel
theorem dX4_head_21 : decode cX4_head 21 = .ok (.ireturn, 1) := by decide +kernel
theorem dX4_head_22 : decode cX4_head 22 = .ok (.iload_n 2, 1) := by decide +kernel
theorem dX4_head_23 : decode cX4_head 23 = .ok (.iconst 2, 1) := by decide +kernel
theorem dX4_head_24 : decode cX4_head 24 = .ok (.if_icmp .ge 22, 3) := by decide +kernel
theorem dX4_head_27 : decode cX4_head 27 = .ok (.aload_n 0, 1) := by decide +kernel
theorem dX4_head_28 : decode cX4_head 28 = .ok (.getfield 7, 3) := by decide +kernel
theorem dX4_head_31 : decode cX4_head 31 = .ok (.iload_n 2, 1) := by decide +kernel
theorem dX4_head_32 : decode cX4_head 32 = .ok (.ifCond .ne 8, 3) := by decide +kernel
theorem dX4_head_35 : decode cX4_head 35 = .ok (.bipush 8, 2) := by decide +kernel
theorem dX4_head_37 : decode cX4_head 37 = .ok (.goto 5, 3) := by decide +kernel
theorem dX4_head_40 : decode cX4_head 40 = .ok (.bipush 12, 2) := by decide +kernel
theorem dX4_head_42 : decode cX4_head 42 = .ok (.iload_n 1, 1) := by decide +kernel
theorem dX4_head_43 : decode cX4_head 43 = .ok (.iadd, 1) := by decide +kernel
theorem dX4_head_44 : decode cX4_head 44 = .ok (.iaload, 1) := by decide +kernel
theorem dX4_head_45 : decode cX4_head 45 = .ok (.ireturn, 1) := by decide +kernel
theorem dX4_head_46 : decode cX4_head 46 = .ok (.iload_n 2, 1) := by decide +kernel
theorem dX4_head_47 : decode cX4_head 47 = .ok (.iconst 4, 1) := by decide +kernel
theorem dX4_head_48 : decode cX4_head 48 = .ok (.if_icmp .ge 26, 3) := by decide +kernel
theorem dX4_head_51 : decode cX4_head 51 = .ok (.iload_n 2, 1) := by decide +kernel
theorem dX4_head_52 : decode cX4_head 52 = .ok (.iconst 2, 1) := by decide +kernel
theorem dX4_head_53 : decode cX4_head 53 = .ok (.if_icmp .ne 11, 3) := by decide +kernel
theorem dX4_head_56 : decode cX4_head 56 = .ok (.aload_n 0, 1) := by decide +kernel
theorem dX4_head_57 : decode cX4_head 57 = .ok (.iload_n 1, 1) := by decide +kernel
theorem dX4_head_58 : decode cX4_head 58 = .ok (.invokevirtual 56, 3) := by decide +kernel
theorem dX4_head_61 : decode cX4_head 61 = .ok (.goto 12, 3) := by decide +kernel
theorem dX4_head_64 : decode cX4_head 64 = .ok (.aload_n 0, 1) := by decide +kernel
theorem dX4_head_65 : decode cX4_head 65 = .ok (.getfield 7, 3) := by decide +kernel
theorem dX4_head_68 : decode cX4_head 68 = .ok (.bipush 16, 2) := by decide +kernel
theorem dX4_head_70 : decode cX4_head 70 = .ok (.iload_n 1, 1) := by decide +kernel
theorem dX4_head_71 : decode cX4_head 71 = .ok (.iadd, 1) := by decide +kernel
theorem dX4_head_72 : decode cX4_head 72 = .ok (.iaload, 1) := by decide +kernel
theorem dX4_head_73 : decode cX4_head 73 = .ok (.ireturn, 1) := by decide +kernel
theorem dX4_head_74 : decode cX4_head 74 = .ok (.iload_n 2, 1) := by decide +kernel
theorem dX4_head_75 : decode cX4_head 75 = .ok (.bipush 6, 2) := by decide +kernel
theorem dX4_head_77 : decode cX4_head 77 = .ok (.if_icmp .ge 12, 3) := by decide +kernel
theorem dX4_head_80 : decode cX4_head 80 = .ok (.aload_n 0, 1) := by decide +kernel
theorem dX4_head_81 : decode cX4_head 81 = .ok (.iload_n 1, 1) := by decide +kernel
theorem dX4_head_82 : decode cX4_head 82 = .ok (.iload_n 2, 1) := by decide +kernel
theorem dX4_head_83 : decode cX4_head 83 = .ok (.iconst 4, 1) := by decide +kernel
theorem dX4_head_84 : decode cX4_head 84 = .ok (.isub, 1) := by decide +kernel
theorem dX4_head_85 : decode cX4_head 85 = .ok (.invokevirtual 142, 3) := by decide +kernel
theorem dX4_head_88 : decode cX4_head 88 = .ok (.ireturn, 1) := by decide +kernel
theorem dX4_head_89 : decode cX4_head 89 = .ok (.iload_n 2, 1) := by decide +kernel
theorem dX4_head_90 : decode cX4_head 90 = .ok (.bipush 6, 2) := by decide +kernel
theorem dX4_head_92 : decode cX4_head 92 = .ok (.if_icmp .ne 11, 3) := by decide +kernel
theorem dX4_head_95 : decode cX4_head 95 = .ok (.aload_n 0, 1) := by decide +kernel
theorem dX4_head_96 : decode cX4_head 96 = .ok (.iload_n 1, 1) := by decide +kernel
theorem dX4_head_97 : decode cX4_head 97 = .ok (.invokevirtual 109, 3) := by decide +kernel
theorem dX4_head_100 : decode cX4_head 100 = .ok (.goto 26, 3) := by decide +kernel
theorem dX4_head_103 : decode cX4_head 103 = .ok (.iload_n 2, 1) := by decide +kernel
theorem dX4_head_104 : decode cX4_head 104 = .ok (.bipush 7, 2) := by decide +kernel
theorem dX4_head_106 : decode cX4_head 106 = .ok (.if_icmp .ne 11, 3) := by decide +kernel
theorem dX4_head_109 : decode cX4_head 109 = .ok (.aload_n 0, 1) := by decide +kernel
theorem dX4_head_110 : decode cX4_head 110 = .ok (.iload_n 1, 1) := by decide +kernel
theorem dX4_head_111 : decode cX4_head 111 = .ok (.invokevirtual 91, 3) := by decide +kernel
theorem dX4_head_114 : decode cX4_head 114 = .ok (.goto 12, 3) := by decide +kernel
theorem dX4_head_117 : decode cX4_head 117 = .ok (.aload_n 0, 1) := by decide +kernel
theorem dX4_head_118 : decode cX4_head 118 = .ok (.iload_n 1, 1) := by decide +kernel
theorem dX4_head_119 : decode cX4_head 119 = .ok (.iload_n 2, 1) := by decide +kernel
theorem dX4_head_120 : decode cX4_head 120 = .ok (.bipush 7, 2) := by decide +kernel
theorem dX4_head_122 : decode cX4_head 122 = .ok (.isub, 1) := by decide +kernel
theorem dX4_head_123 : decode cX4_head 123 = .ok (.invokevirtual 145, 3) := by decide +kernel
theorem dX4_head_126 : decode cX4_head 126 = .ok (.ireturn, 1) := by decide +kernel
set_option maxRecDepth 20000 in
theorem ggX4_readsLeft_X4_isAddress : GoodIn wsX4_readsLeft wsX4_isAddress := goodIn_r _ [7, 8, 9, 6, 10, 11, 12, 13, 14, 1, 70, 71, 72, 73, 74, 75, 76, 77, 78, 79] (by decide +kernel) (by decide +kernel)
set_option maxRecDepth 20000 in
theorem gX4_readsLeft_X4_isAddress : GoodIn wsX4_readsLeft (wsV RX4 40 RX4 yX4_isAddress wsX4_isAddress) := goodIn_app (goodIn_of _ (by decide +kernel)) ggX4_readsLeft_X4_isAddress
set_option maxRecDepth 20000 in
theorem ggX4_readsLeft_X4_copies : GoodIn wsX4_readsLeft wsX4_copies := goodIn_r _ [17] (by decide +kernel) (by decide +kernel)
set_option maxRecDepth 20000 in
theorem gX4_readsLeft_X4_copies : GoodIn wsX4_readsLeft (va_wsS RX4 94 yX4_copies wsX4_copies) := goodIn_app (goodIn_of _ (by decide +kernel)) ggX4_readsLeft_X4_copies
set_option maxRecDepth 20000 in
theorem ggX4_readsLeft_X4_reads : GoodIn wsX4_readsLeft wsX4_reads := goodIn_r _ [21, 1, 3, 4, 5, 6, 7, 8, 9, 10, 11, 12, 13, 14, 22, 23, 24, 25, 26, 27, 28, 29, 30, 31, 32, 33, 34, 35, 36, 37, 38, 39, 40, 41, 42, 43, 44, 45, 46, 47, 48, 49, 50, 51, 52, 53, 54, 55, 56, 57, 58, 59, 60, 61, 62, 63, 64, 65, 66, 67, 68, 69, 70, 71, 72, 73, 74, 75, 76, 77, 78, 79] (by decide +kernel) (by decide +kernel)
set_option maxRecDepth 20000 in
theorem gX4_readsLeft_X4_reads : GoodIn wsX4_readsLeft (wsV RX4 98 RX4 yX4_reads wsX4_reads) := goodIn_app (goodIn_of _ (by decide +kernel)) ggX4_readsLeft_X4_reads
theorem dX4_readsLeft_0 : decode cX4_readsLeft 0 = .ok (.aload_n 0, 1) := by decide +kernel
theorem dX4_readsLeft_1 : decode cX4_readsLeft 1 = .ok (.iload_n 1, 1) := by decide +kernel
theorem dX4_readsLeft_2 : decode cX4_readsLeft 2 = .ok (.invokevirtual 40, 3) := by decide +kernel
theorem dX4_readsLeft_5 : decode cX4_readsLeft 5 = .ok (.ifCond .ne 5, 3) := by decide +kernel
theorem dX4_readsLeft_8 : decode cX4_readsLeft 8 = .ok (.iconst (-1), 1) := by decide +kernel
theorem dX4_readsLeft_9 : decode cX4_readsLeft 9 = .ok (.ireturn, 1) := by decide +kernel
theorem dX4_readsLeft_10 : decode cX4_readsLeft 10 = .ok (.aload_n 0, 1) := by decide +kernel
theorem dX4_readsLeft_11 : decode cX4_readsLeft 11 = .ok (.getfield 7, 3) := by decide +kernel
theorem dX4_readsLeft_14 : decode cX4_readsLeft 14 = .ok (.sipush 148, 3) := by decide +kernel
theorem dX4_readsLeft_17 : decode cX4_readsLeft 17 = .ok (.iload_n 1, 1) := by decide +kernel
theorem dX4_readsLeft_18 : decode cX4_readsLeft 18 = .ok (.iadd, 1) := by decide +kernel
theorem dX4_readsLeft_19 : decode cX4_readsLeft 19 = .ok (.iaload, 1) := by decide +kernel
theorem dX4_readsLeft_20 : decode cX4_readsLeft 20 = .ok (.istore_n 2, 1) := by decide +kernel
theorem dX4_readsLeft_21 : decode cX4_readsLeft 21 = .ok (.iload_n 2, 1) := by decide +kernel
theorem dX4_readsLeft_22 : decode cX4_readsLeft 22 = .ok (.ifCond .ge 6, 3) := by decide +kernel
theorem dX4_readsLeft_25 : decode cX4_readsLeft 25 = .ok (.bipush (-4), 2) := by decide +kernel
theorem dX4_readsLeft_27 : decode cX4_readsLeft 27 = .ok (.ireturn, 1) := by decide +kernel
theorem dX4_readsLeft_28 : decode cX4_readsLeft 28 = .ok (.aload_n 0, 1) := by decide +kernel
theorem dX4_readsLeft_29 : decode cX4_readsLeft 29 = .ok (.getfield 7, 3) := by decide +kernel
theorem dX4_readsLeft_32 : decode cX4_readsLeft 32 = .ok (.aload_n 0, 1) := by decide +kernel
theorem dX4_readsLeft_33 : decode cX4_readsLeft 33 = .ok (.getfield 13, 3) := by decide +kernel
theorem dX4_readsLeft_36 : decode cX4_readsLeft 36 = .ok (.invokestatic 94, 3) := by decide +kernel
theorem dX4_readsLeft_39 : decode cX4_readsLeft 39 = .ok (.iconst 0, 1) := by decide +kernel
theorem dX4_readsLeft_40 : decode cX4_readsLeft 40 = .ok (.istore_n 3, 1) := by decide +kernel
theorem dX4_readsLeft_41 : decode cX4_readsLeft 41 = .ok (.iload_n 3, 1) := by decide +kernel
theorem dX4_readsLeft_42 : decode cX4_readsLeft 42 = .ok (.sipush 2000, 3) := by decide +kernel
theorem dX4_readsLeft_45 : decode cX4_readsLeft 45 = .ok (.if_icmp .ge 30, 3) := by decide +kernel
theorem dX4_readsLeft_48 : decode cX4_readsLeft 48 = .ok (.aload_n 0, 1) := by decide +kernel
theorem dX4_readsLeft_49 : decode cX4_readsLeft 49 = .ok (.getfield 7, 3) := by decide +kernel
theorem dX4_readsLeft_52 : decode cX4_readsLeft 52 = .ok (.sipush 148, 3) := by decide +kernel
theorem dX4_readsLeft_55 : decode cX4_readsLeft 55 = .ok (.iload_n 1, 1) := by decide +kernel
theorem dX4_readsLeft_56 : decode cX4_readsLeft 56 = .ok (.iadd, 1) := by decide +kernel
theorem dX4_readsLeft_57 : decode cX4_readsLeft 57 = .ok (.iaload, 1) := by decide +kernel
theorem dX4_readsLeft_58 : decode cX4_readsLeft 58 = .ok (.iload_n 2, 1) := by decide +kernel
theorem dX4_readsLeft_59 : decode cX4_readsLeft 59 = .ok (.if_icmp .ne 16, 3) := by decide +kernel
theorem dX4_readsLeft_62 : decode cX4_readsLeft 62 = .ok (.aload_n 0, 1) := by decide +kernel
theorem dX4_readsLeft_63 : decode cX4_readsLeft 63 = .ok (.iload_n 1, 1) := by decide +kernel
theorem dX4_readsLeft_64 : decode cX4_readsLeft 64 = .ok (.invokevirtual 98, 3) := by decide +kernel
theorem dX4_readsLeft_67 : decode cX4_readsLeft 67 = .ok (.istore 4, 2) := by decide +kernel
theorem dX4_readsLeft_69 : decode cX4_readsLeft 69 = .ok (.iinc 3 1, 3) := by decide +kernel
theorem dX4_readsLeft_72 : decode cX4_readsLeft 72 = .ok (.goto (-31), 3) := by decide +kernel
theorem dX4_readsLeft_75 : decode cX4_readsLeft 75 = .ok (.aload_n 0, 1) := by decide +kernel
theorem dX4_readsLeft_76 : decode cX4_readsLeft 76 = .ok (.getfield 7, 3) := by decide +kernel
theorem dX4_readsLeft_79 : decode cX4_readsLeft 79 = .ok (.sipush 148, 3) := by decide +kernel
theorem dX4_readsLeft_82 : decode cX4_readsLeft 82 = .ok (.iload_n 1, 1) := by decide +kernel
theorem dX4_readsLeft_83 : decode cX4_readsLeft 83 = .ok (.iadd, 1) := by decide +kernel
theorem dX4_readsLeft_84 : decode cX4_readsLeft 84 = .ok (.iaload, 1) := by decide +kernel
theorem dX4_readsLeft_85 : decode cX4_readsLeft 85 = .ok (.iload_n 2, 1) := by decide +kernel
theorem dX4_readsLeft_86 : decode cX4_readsLeft 86 = .ok (.if_icmp .eq 7, 3) := by decide +kernel
theorem dX4_readsLeft_89 : decode cX4_readsLeft 89 = .ok (.iconst 1, 1) := by decide +kernel
theorem dX4_readsLeft_90 : decode cX4_readsLeft 90 = .ok (.goto 4, 3) := by decide +kernel
theorem dX4_readsLeft_93 : decode cX4_readsLeft 93 = .ok (.iconst 0, 1) := by decide +kernel
theorem dX4_readsLeft_94 : decode cX4_readsLeft 94 = .ok (.istore 4, 2) := by decide +kernel
theorem dX4_readsLeft_96 : decode cX4_readsLeft 96 = .ok (.aload_n 0, 1) := by decide +kernel
theorem dX4_readsLeft_97 : decode cX4_readsLeft 97 = .ok (.getfield 13, 3) := by decide +kernel
theorem dX4_readsLeft_100 : decode cX4_readsLeft 100 = .ok (.aload_n 0, 1) := by decide +kernel
theorem dX4_readsLeft_101 : decode cX4_readsLeft 101 = .ok (.getfield 7, 3) := by decide +kernel
theorem dX4_readsLeft_104 : decode cX4_readsLeft 104 = .ok (.invokestatic 94, 3) := by decide +kernel
theorem dX4_readsLeft_107 : decode cX4_readsLeft 107 = .ok (.iload 4, 2) := by decide +kernel
theorem dX4_readsLeft_109 : decode cX4_readsLeft 109 = .ok (.ifCond .eq 7, 3) := by decide +kernel
theorem dX4_readsLeft_112 : decode cX4_readsLeft 112 = .ok (.iload_n 3, 1) := by decide +kernel
theorem dX4_readsLeft_113 : decode cX4_readsLeft 113 = .ok (.goto 5, 3) := by decide +kernel
theorem dX4_readsLeft_116 : decode cX4_readsLeft 116 = .ok (.bipush (-5), 2) := by decide +kernel
theorem dX4_readsLeft_118 : decode cX4_readsLeft 118 = .ok (.ireturn, 1) := by decide +kernel
set_option maxRecDepth 20000 in
theorem ggX4_wouldLose_X4_isHead : GoodIn wsX4_wouldLose wsX4_isHead := goodIn_r _ [6, 7, 8, 5, 9] (by decide +kernel) (by decide +kernel)
set_option maxRecDepth 20000 in
theorem gX4_wouldLose_X4_isHead : GoodIn wsX4_wouldLose (va_wsS RX4 88 yX4_isHead wsX4_isHead) := goodIn_app (goodIn_of _ (by decide +kernel)) ggX4_wouldLose_X4_isHead
set_option maxRecDepth 20000 in
theorem ggX4_wouldLose_X4_copies : GoodIn wsX4_wouldLose wsX4_copies := goodIn_r _ [12] (by decide +kernel) (by decide +kernel)
set_option maxRecDepth 20000 in
theorem gX4_wouldLose_X4_copies : GoodIn wsX4_wouldLose (va_wsS RX4 94 yX4_copies wsX4_copies) := goodIn_app (goodIn_of _ (by decide +kernel)) ggX4_wouldLose_X4_copies
set_option maxRecDepth 20000 in
theorem ggX4_wouldLose_X4_givesUp : GoodIn wsX4_wouldLose wsX4_givesUp := goodIn_r _ [16, 1, 17, 18, 19, 5, 20, 7, 8, 9, 21, 22, 23, 24, 25, 26, 27, 28, 29, 30, 31, 32, 33, 34, 35, 36, 37, 38, 39, 40, 41, 42, 43, 44, 45, 46, 47, 48, 49, 50, 51, 52, 53, 54, 55, 56, 57, 58, 59, 60, 61, 62, 63, 64, 65, 66, 67] (by decide +kernel) (by decide +kernel)
set_option maxRecDepth 20000 in
theorem gX4_wouldLose_X4_givesUp : GoodIn wsX4_wouldLose (wsV RX4 112 RX4 yX4_givesUp wsX4_givesUp) := goodIn_app (goodIn_of _ (by decide +kernel)) ggX4_wouldLose_X4_givesUp
theorem dX4_wouldLose_0 : decode cX4_wouldLose 0 = .ok (.iload_n 1, 1) := by decide +kernel
theorem dX4_wouldLose_1 : decode cX4_wouldLose 1 = .ok (.invokestatic 88, 3) := by decide +kernel
theorem dX4_wouldLose_4 : decode cX4_wouldLose 4 = .ok (.ifCond .ne 5, 3) := by decide +kernel
theorem dX4_wouldLose_7 : decode cX4_wouldLose 7 = .ok (.iconst (-1), 1) := by decide +kernel
theorem dX4_wouldLose_8 : decode cX4_wouldLose 8 = .ok (.ireturn, 1) := by decide +kernel
theorem dX4_wouldLose_9 : decode cX4_wouldLose 9 = .ok (.aload_n 0, 1) := by decide +kernel
theorem dX4_wouldLose_10 : decode cX4_wouldLose 10 = .ok (.getfield 7, 3) := by decide +kernel
theorem dX4_wouldLose_13 : decode cX4_wouldLose 13 = .ok (.bipush 16, 2) := by decide +kernel
theorem dX4_wouldLose_15 : decode cX4_wouldLose 15 = .ok (.iload_n 1, 1) := by decide +kernel
theorem dX4_wouldLose_16 : decode cX4_wouldLose 16 = .ok (.iadd, 1) := by decide +kernel
theorem dX4_wouldLose_17 : decode cX4_wouldLose 17 = .ok (.iaload, 1) := by decide +kernel
theorem dX4_wouldLose_18 : decode cX4_wouldLose 18 = .ok (.iconst 1, 1) := by decide +kernel
theorem dX4_wouldLose_19 : decode cX4_wouldLose 19 = .ok (.if_icmp .ne 6, 3) := by decide +kernel
theorem dX4_wouldLose_22 : decode cX4_wouldLose 22 = .ok (.bipush (-5), 2) := by decide +kernel
theorem dX4_wouldLose_24 : decode cX4_wouldLose 24 = .ok (.ireturn, 1) := by decide +kernel
theorem dX4_wouldLose_25 : decode cX4_wouldLose 25 = .ok (.aload_n 0, 1) := by decide +kernel
theorem dX4_wouldLose_26 : decode cX4_wouldLose 26 = .ok (.getfield 7, 3) := by decide +kernel
theorem dX4_wouldLose_29 : decode cX4_wouldLose 29 = .ok (.aload_n 0, 1) := by decide +kernel
theorem dX4_wouldLose_30 : decode cX4_wouldLose 30 = .ok (.getfield 13, 3) := by decide +kernel
theorem dX4_wouldLose_33 : decode cX4_wouldLose 33 = .ok (.invokestatic 94, 3) := by decide +kernel
theorem dX4_wouldLose_36 : decode cX4_wouldLose 36 = .ok (.aload_n 0, 1) := by decide +kernel
theorem dX4_wouldLose_37 : decode cX4_wouldLose 37 = .ok (.iload_n 1, 1) := by decide +kernel
theorem dX4_wouldLose_38 : decode cX4_wouldLose 38 = .ok (.invokevirtual 112, 3) := by decide +kernel
theorem dX4_wouldLose_41 : decode cX4_wouldLose 41 = .ok (.istore_n 2, 1) := by decide +kernel
theorem dX4_wouldLose_42 : decode cX4_wouldLose 42 = .ok (.aload_n 0, 1) := by decide +kernel
theorem dX4_wouldLose_43 : decode cX4_wouldLose 43 = .ok (.getfield 13, 3) := by decide +kernel
theorem dX4_wouldLose_46 : decode cX4_wouldLose 46 = .ok (.aload_n 0, 1) := by decide +kernel
theorem dX4_wouldLose_47 : decode cX4_wouldLose 47 = .ok (.getfield 7, 3) := by decide +kernel
theorem dX4_wouldLose_50 : decode cX4_wouldLose 50 = .ok (.invokestatic 94, 3) := by decide +kernel
theorem dX4_wouldLose_53 : decode cX4_wouldLose 53 = .ok (.iload_n 2, 1) := by decide +kernel
theorem dX4_wouldLose_54 : decode cX4_wouldLose 54 = .ok (.ireturn, 1) := by decide +kernel
set_option maxRecDepth 20000 in
theorem ggX4_ahead_X4_isAddress : GoodIn wsX4_ahead wsX4_isAddress := goodIn_r _ [6, 7, 8, 5, 9, 10, 11, 12, 13, 1, 18, 19, 20, 21, 22, 23, 24, 25, 26, 27] (by decide +kernel) (by decide +kernel)
set_option maxRecDepth 20000 in
theorem gX4_ahead_X4_isAddress : GoodIn wsX4_ahead (wsV RX4 40 RX4 yX4_isAddress wsX4_isAddress) := goodIn_app (goodIn_of _ (by decide +kernel)) ggX4_ahead_X4_isAddress
set_option maxRecDepth 20000 in
theorem ggX4_ahead_X4_isLost : GoodIn wsX4_ahead wsX4_isLost := goodIn_r _ [17, 1, 18, 19, 20, 21, 22, 23, 24, 25, 26, 27] (by decide +kernel) (by decide +kernel)
set_option maxRecDepth 20000 in
theorem gX4_ahead_X4_isLost : GoodIn wsX4_ahead (wsV RX4 75 RX4 yX4_isLost wsX4_isLost) := goodIn_app (goodIn_of _ (by decide +kernel)) ggX4_ahead_X4_isLost
theorem dX4_ahead_0 : decode cX4_ahead 0 = .ok (.aload_n 0, 1) := by decide +kernel
theorem dX4_ahead_1 : decode cX4_ahead 1 = .ok (.getfield 7, 3) := by decide +kernel
theorem dX4_ahead_4 : decode cX4_ahead 4 = .ok (.bipush 20, 2) := by decide +kernel
theorem dX4_ahead_6 : decode cX4_ahead 6 = .ok (.aload_n 0, 1) := by decide +kernel
theorem dX4_ahead_7 : decode cX4_ahead 7 = .ok (.getfield 7, 3) := by decide +kernel
theorem dX4_ahead_10 : decode cX4_ahead 10 = .ok (.sipush 148, 3) := by decide +kernel
theorem dX4_ahead_13 : decode cX4_ahead 13 = .ok (.iload_n 1, 1) := by decide +kernel
theorem dX4_ahead_14 : decode cX4_ahead 14 = .ok (.iadd, 1) := by decide +kernel
theorem dX4_ahead_15 : decode cX4_ahead 15 = .ok (.iaload, 1) := by decide +kernel
theorem dX4_ahead_16 : decode cX4_ahead 16 = .ok (.iadd, 1) := by decide +kernel
theorem dX4_ahead_17 : decode cX4_ahead 17 = .ok (.iaload, 1) := by decide +kernel
theorem dX4_ahead_18 : decode cX4_ahead 18 = .ok (.istore_n 2, 1) := by decide +kernel
theorem dX4_ahead_19 : decode cX4_ahead 19 = .ok (.iconst 0, 1) := by decide +kernel
theorem dX4_ahead_20 : decode cX4_ahead 20 = .ok (.istore_n 3, 1) := by decide +kernel
theorem dX4_ahead_21 : decode cX4_ahead 21 = .ok (.iconst 0, 1) := by decide +kernel
theorem dX4_ahead_22 : decode cX4_ahead 22 = .ok (.istore 4, 2) := by decide +kernel
theorem dX4_ahead_24 : decode cX4_ahead 24 = .ok (.iload 4, 2) := by decide +kernel
theorem dX4_ahead_26 : decode cX4_ahead 26 = .ok (.bipush 64, 2) := by decide +kernel
theorem dX4_ahead_28 : decode cX4_ahead 28 = .ok (.if_icmp .ge 74, 3) := by decide +kernel
theorem dX4_ahead_31 : decode cX4_ahead 31 = .ok (.aload_n 0, 1) := by decide +kernel
theorem dX4_ahead_32 : decode cX4_ahead 32 = .ok (.iload 4, 2) := by decide +kernel
theorem dX4_ahead_34 : decode cX4_ahead 34 = .ok (.invokevirtual 40, 3) := by decide +kernel
theorem dX4_ahead_37 : decode cX4_ahead 37 = .ok (.ifCond .eq 59, 3) := by decide +kernel
theorem dX4_ahead_40 : decode cX4_ahead 40 = .ok (.aload_n 0, 1) := by decide +kernel
theorem dX4_ahead_41 : decode cX4_ahead 41 = .ok (.iload 4, 2) := by decide +kernel
theorem dX4_ahead_43 : decode cX4_ahead 43 = .ok (.invokevirtual 75, 3) := by decide +kernel
theorem dX4_ahead_46 : decode cX4_ahead 46 = .ok (.ifCond .ne 50, 3) := by decide +kernel
theorem dX4_ahead_49 : decode cX4_ahead 49 = .ok (.aload_n 0, 1) := by decide +kernel
theorem dX4_ahead_50 : decode cX4_ahead 50 = .ok (.getfield 7, 3) := by decide +kernel
theorem dX4_ahead_53 : decode cX4_ahead 53 = .ok (.bipush 20, 2) := by decide +kernel
theorem dX4_ahead_55 : decode cX4_ahead 55 = .ok (.aload_n 0, 1) := by decide +kernel
theorem dX4_ahead_56 : decode cX4_ahead 56 = .ok (.getfield 7, 3) := by decide +kernel
theorem dX4_ahead_59 : decode cX4_ahead 59 = .ok (.sipush 148, 3) := by decide +kernel
theorem dX4_ahead_62 : decode cX4_ahead 62 = .ok (.iload 4, 2) := by decide +kernel
theorem dX4_ahead_64 : decode cX4_ahead 64 = .ok (.iadd, 1) := by decide +kernel
theorem dX4_ahead_65 : decode cX4_ahead 65 = .ok (.iaload, 1) := by decide +kernel
theorem dX4_ahead_66 : decode cX4_ahead 66 = .ok (.iadd, 1) := by decide +kernel
theorem dX4_ahead_67 : decode cX4_ahead 67 = .ok (.iaload, 1) := by decide +kernel
theorem dX4_ahead_68 : decode cX4_ahead 68 = .ok (.istore 5, 2) := by decide +kernel
theorem dX4_ahead_70 : decode cX4_ahead 70 = .ok (.iload_n 3, 1) := by decide +kernel
theorem dX4_ahead_71 : decode cX4_ahead 71 = .ok (.iload 5, 2) := by decide +kernel
theorem dX4_ahead_73 : decode cX4_ahead 73 = .ok (.iload_n 2, 1) := by decide +kernel
theorem dX4_ahead_74 : decode cX4_ahead 74 = .ok (.if_icmp .gt 15, 3) := by decide +kernel
theorem dX4_ahead_77 : decode cX4_ahead 77 = .ok (.iload 5, 2) := by decide +kernel
theorem dX4_ahead_79 : decode cX4_ahead 79 = .ok (.iload_n 2, 1) := by decide +kernel
theorem dX4_ahead_80 : decode cX4_ahead 80 = .ok (.if_icmp .ne 13, 3) := by decide +kernel
theorem dX4_ahead_83 : decode cX4_ahead 83 = .ok (.iload 4, 2) := by decide +kernel
theorem dX4_ahead_85 : decode cX4_ahead 85 = .ok (.iload_n 1, 1) := by decide +kernel
theorem dX4_ahead_86 : decode cX4_ahead 86 = .ok (.if_icmp .ge 7, 3) := by decide +kernel
theorem dX4_ahead_89 : decode cX4_ahead 89 = .ok (.iconst 1, 1) := by decide +kernel
theorem dX4_ahead_90 : decode cX4_ahead 90 = .ok (.goto 4, 3) := by decide +kernel
theorem dX4_ahead_93 : decode cX4_ahead 93 = .ok (.iconst 0, 1) := by decide +kernel
theorem dX4_ahead_94 : decode cX4_ahead 94 = .ok (.iadd, 1) := by decide +kernel
theorem dX4_ahead_95 : decode cX4_ahead 95 = .ok (.istore_n 3, 1) := by decide +kernel
theorem dX4_ahead_96 : decode cX4_ahead 96 = .ok (.iinc 4 1, 3) := by decide +kernel
theorem dX4_ahead_99 : decode cX4_ahead 99 = .ok (.goto (-75), 3) := by decide +kernel
theorem dX4_ahead_102 : decode cX4_ahead 102 = .ok (.iload_n 3, 1) := by decide +kernel
theorem dX4_ahead_103 : decode cX4_ahead 103 = .ok (.ireturn, 1) := by decide +kernel
set_option maxRecDepth 20000 in
theorem ggX4_worst_X4_isAddress : GoodIn wsX4_worst wsX4_isAddress := goodIn_r _ [5, 6, 7, 4, 8, 9, 10, 11, 12, 13, 22, 23, 24, 25, 26, 27, 28, 29, 30, 31] (by decide +kernel) (by decide +kernel)
set_option maxRecDepth 20000 in
theorem gX4_worst_X4_isAddress : GoodIn wsX4_worst (wsV RX4 40 RX4 yX4_isAddress wsX4_isAddress) := goodIn_app (goodIn_of _ (by decide +kernel)) ggX4_worst_X4_isAddress
set_option maxRecDepth 20000 in
theorem ggX4_worst_X4_isLost : GoodIn wsX4_worst wsX4_isLost := goodIn_r _ [17, 13, 22, 23, 24, 25, 26, 27, 28, 29, 30, 31] (by decide +kernel) (by decide +kernel)
set_option maxRecDepth 20000 in
theorem gX4_worst_X4_isLost : GoodIn wsX4_worst (wsV RX4 75 RX4 yX4_isLost wsX4_isLost) := goodIn_app (goodIn_of _ (by decide +kernel)) ggX4_worst_X4_isLost
set_option maxRecDepth 20000 in
theorem ggX4_worst_X4_ahead : GoodIn wsX4_worst wsX4_ahead := goodIn_r _ [21, 13, 1, 2, 3, 4, 5, 6, 7, 8, 9, 10, 11, 12, 14, 15, 16, 17, 22, 23, 24, 25, 26, 27, 28, 29, 30, 31] (by decide +kernel) (by decide +kernel)
set_option maxRecDepth 20000 in
theorem gX4_worst_X4_ahead : GoodIn wsX4_worst (wsV RX4 148 RX4 yX4_ahead wsX4_ahead) := goodIn_app (goodIn_of _ (by decide +kernel)) ggX4_worst_X4_ahead
theorem dX4_worst_0 : decode cX4_worst 0 = .ok (.iload_n 1, 1) := by decide +kernel
theorem dX4_worst_1 : decode cX4_worst 1 = .ok (.ifCond .ge 6, 3) := by decide +kernel
theorem dX4_worst_4 : decode cX4_worst 4 = .ok (.bipush (-2), 2) := by decide +kernel
theorem dX4_worst_6 : decode cX4_worst 6 = .ok (.ireturn, 1) := by decide +kernel
theorem dX4_worst_7 : decode cX4_worst 7 = .ok (.iconst 0, 1) := by decide +kernel
theorem dX4_worst_8 : decode cX4_worst 8 = .ok (.istore_n 2, 1) := by decide +kernel
theorem dX4_worst_9 : decode cX4_worst 9 = .ok (.iload_n 2, 1) := by decide +kernel
theorem dX4_worst_10 : decode cX4_worst 10 = .ok (.bipush 64, 2) := by decide +kernel
theorem dX4_worst_12 : decode cX4_worst 12 = .ok (.if_icmp .ge 36, 3) := by decide +kernel
theorem dX4_worst_15 : decode cX4_worst 15 = .ok (.aload_n 0, 1) := by decide +kernel
theorem dX4_worst_16 : decode cX4_worst 16 = .ok (.iload_n 2, 1) := by decide +kernel
theorem dX4_worst_17 : decode cX4_worst 17 = .ok (.invokevirtual 40, 3) := by decide +kernel
theorem dX4_worst_20 : decode cX4_worst 20 = .ok (.ifCond .eq 22, 3) := by decide +kernel
theorem dX4_worst_23 : decode cX4_worst 23 = .ok (.aload_n 0, 1) := by decide +kernel
theorem dX4_worst_24 : decode cX4_worst 24 = .ok (.iload_n 2, 1) := by decide +kernel
theorem dX4_worst_25 : decode cX4_worst 25 = .ok (.invokevirtual 75, 3) := by decide +kernel
theorem dX4_worst_28 : decode cX4_worst 28 = .ok (.ifCond .ne 14, 3) := by decide +kernel
theorem dX4_worst_31 : decode cX4_worst 31 = .ok (.aload_n 0, 1) := by decide +kernel
theorem dX4_worst_32 : decode cX4_worst 32 = .ok (.iload_n 2, 1) := by decide +kernel
theorem dX4_worst_33 : decode cX4_worst 33 = .ok (.invokevirtual 148, 3) := by decide +kernel
theorem dX4_worst_36 : decode cX4_worst 36 = .ok (.iload_n 1, 1) := by decide +kernel
theorem dX4_worst_37 : decode cX4_worst 37 = .ok (.if_icmp .ne 5, 3) := by decide +kernel
theorem dX4_worst_40 : decode cX4_worst 40 = .ok (.iload_n 2, 1) := by decide +kernel
theorem dX4_worst_41 : decode cX4_worst 41 = .ok (.ireturn, 1) := by decide +kernel
theorem dX4_worst_42 : decode cX4_worst 42 = .ok (.iinc 2 1, 3) := by decide +kernel
theorem dX4_worst_45 : decode cX4_worst 45 = .ok (.goto (-36), 3) := by decide +kernel
theorem dX4_worst_48 : decode cX4_worst 48 = .ok (.bipush (-5), 2) := by decide +kernel
theorem dX4_worst_50 : decode cX4_worst 50 = .ok (.ireturn, 1) := by decide +kernel
set_option maxRecDepth 20000 in
theorem ggX4_count_X4_in : GoodIn wsX4_count wsX4_in := goodIn_r _ [7] (by decide +kernel) (by decide +kernel)
set_option maxRecDepth 20000 in
theorem gX4_count_X4_in : GoodIn wsX4_count (va_wsS RX4 32 yX4_in wsX4_in) := goodIn_app (goodIn_of _ (by decide +kernel)) ggX4_count_X4_in
set_option maxRecDepth 20000 in
theorem ggX4_count_X4_isAddress : GoodIn wsX4_count wsX4_isAddress := goodIn_r _ [11, 4, 5, 6, 7, 12, 13, 14, 15, 1, 32, 33, 34, 35, 36, 37, 38, 39, 40, 41] (by decide +kernel) (by decide +kernel)
set_option maxRecDepth 20000 in
theorem gX4_count_X4_isAddress : GoodIn wsX4_count (wsV RX4 40 RX4 yX4_isAddress wsX4_isAddress) := goodIn_app (goodIn_of _ (by decide +kernel)) ggX4_count_X4_isAddress
set_option maxRecDepth 20000 in
theorem ggX4_count_X4_isLost : GoodIn wsX4_count wsX4_isLost := goodIn_r _ [19, 1, 32, 33, 34, 35, 36, 37, 38, 39, 40, 41] (by decide +kernel) (by decide +kernel)
set_option maxRecDepth 20000 in
theorem gX4_count_X4_isLost : GoodIn wsX4_count (wsV RX4 75 RX4 yX4_isLost wsX4_isLost) := goodIn_app (goodIn_of _ (by decide +kernel)) ggX4_count_X4_isLost
set_option maxRecDepth 20000 in
theorem ggX4_count_X4_isFree : GoodIn wsX4_count wsX4_isFree := goodIn_r _ [23, 1, 12, 13, 14, 6, 15, 24, 25, 26, 27, 28, 29, 30, 31, 8, 9, 10, 11, 4, 5, 7, 32, 33, 34, 35, 36, 37, 38, 39, 40, 41] (by decide +kernel) (by decide +kernel)
set_option maxRecDepth 20000 in
theorem gX4_count_X4_isFree : GoodIn wsX4_count (wsV RX4 50 RX4 yX4_isFree wsX4_isFree) := goodIn_app (goodIn_of _ (by decide +kernel)) ggX4_count_X4_isFree
theorem dX4_count_0 : decode cX4_count 0 = .ok (.iload_n 1, 1) := by decide +kernel
theorem dX4_count_1 : decode cX4_count 1 = .ok (.iconst 0, 1) := by decide +kernel
theorem dX4_count_2 : decode cX4_count 2 = .ok (.bipush 13, 2) := by decide +kernel
theorem dX4_count_4 : decode cX4_count 4 = .ok (.invokestatic 32, 3) := by decide +kernel
theorem dX4_count_7 : decode cX4_count 7 = .ok (.ifCond .ne 6, 3) := by decide +kernel
theorem dX4_count_10 : decode cX4_count 10 = .ok (.bipush (-2), 2) := by decide +kernel
theorem dX4_count_12 : decode cX4_count 12 = .ok (.ireturn, 1) := by decide +kernel
theorem dX4_count_13 : decode cX4_count 13 = .ok (.iload_n 1, 1) := by decide +kernel
theorem dX4_count_14 : decode cX4_count 14 = .ok (.ifCond .ne 10, 3) := by decide +kernel
theorem dX4_count_17 : decode cX4_count 17 = .ok (.aload_n 0, 1) := by decide +kernel
theorem dX4_count_18 : decode cX4_count 18 = .ok (.getfield 7, 3) := by decide +kernel
theorem dX4_count_21 : decode cX4_count 21 = .ok (.iconst 0, 1) := by decide +kernel
theorem dX4_count_22 : decode cX4_count 22 = .ok (.iaload, 1) := by decide +kernel
theorem dX4_count_23 : decode cX4_count 23 = .ok (.ireturn, 1) := by decide +kernel
theorem dX4_count_24 : decode cX4_count 24 = .ok (.iload_n 1, 1) := by decide +kernel
theorem dX4_count_25 : decode cX4_count 25 = .ok (.bipush 11, 2) := by decide +kernel
theorem dX4_count_27 : decode cX4_count 27 = .ok (.if_icmp .le 21, 3) := by decide +kernel
theorem dX4_count_30 : decode cX4_count 30 = .ok (.iload_n 1, 1) := by decide +kernel
theorem dX4_count_31 : decode cX4_count 31 = .ok (.bipush 12, 2) := by decide +kernel
theorem dX4_count_33 : decode cX4_count 33 = .ok (.if_icmp .ne 10, 3) := by decide +kernel
theorem dX4_count_36 : decode cX4_count 36 = .ok (.aload_n 0, 1) := by decide +kernel
theorem dX4_count_37 : decode cX4_count 37 = .ok (.getfield 28, 3) := by decide +kernel
theorem dX4_count_40 : decode cX4_count 40 = .ok (.goto 7, 3) := by decide +kernel
theorem dX4_count_43 : decode cX4_count 43 = .ok (.aload_n 0, 1) := by decide +kernel
theorem dX4_count_44 : decode cX4_count 44 = .ok (.getfield 118, 3) := by decide +kernel
theorem dX4_count_47 : decode cX4_count 47 = .ok (.ireturn, 1) := by decide +kernel
theorem dX4_count_48 : decode cX4_count 48 = .ok (.iload_n 1, 1) := by decide +kernel
theorem dX4_count_49 : decode cX4_count 49 = .ok (.iconst 4, 1) := by decide +kernel
theorem dX4_count_50 : decode cX4_count 50 = .ok (.if_icmp .le 12, 3) := by decide +kernel
theorem dX4_count_53 : decode cX4_count 53 = .ok (.aload_n 0, 1) := by decide +kernel
theorem dX4_count_54 : decode cX4_count 54 = .ok (.getfield 7, 3) := by decide +kernel
theorem dX4_count_57 : decode cX4_count 57 = .ok (.iload_n 1, 1) := by decide +kernel
theorem dX4_count_58 : decode cX4_count 58 = .ok (.iconst 4, 1) := by decide +kernel
theorem dX4_count_59 : decode cX4_count 59 = .ok (.isub, 1) := by decide +kernel
theorem dX4_count_60 : decode cX4_count 60 = .ok (.iaload, 1) := by decide +kernel
theorem dX4_count_61 : decode cX4_count 61 = .ok (.ireturn, 1) := by decide +kernel
theorem dX4_count_62 : decode cX4_count 62 = .ok (.iconst 0, 1) := by decide +kernel
theorem dX4_count_63 : decode cX4_count 63 = .ok (.istore_n 2, 1) := by decide +kernel
theorem dX4_count_64 : decode cX4_count 64 = .ok (.iconst 0, 1) := by decide +kernel
theorem dX4_count_65 : decode cX4_count 65 = .ok (.istore_n 3, 1) := by decide +kernel
theorem dX4_count_66 : decode cX4_count 66 = .ok (.iload_n 3, 1) := by decide +kernel
theorem dX4_count_67 : decode cX4_count 67 = .ok (.bipush 64, 2) := by decide +kernel
theorem dX4_count_69 : decode cX4_count 69 = .ok (.if_icmp .ge 97, 3) := by decide +kernel
theorem dX4_count_72 : decode cX4_count 72 = .ok (.aload_n 0, 1) := by decide +kernel
theorem dX4_count_73 : decode cX4_count 73 = .ok (.iload_n 3, 1) := by decide +kernel
theorem dX4_count_74 : decode cX4_count 74 = .ok (.invokevirtual 40, 3) := by decide +kernel
theorem dX4_count_77 : decode cX4_count 77 = .ok (.istore 4, 2) := by decide +kernel
theorem dX4_count_79 : decode cX4_count 79 = .ok (.iload_n 2, 1) := by decide +kernel
theorem dX4_count_80 : decode cX4_count 80 = .ok (.iload_n 1, 1) := by decide +kernel
theorem dX4_count_81 : decode cX4_count 81 = .ok (.iconst 1, 1) := by decide +kernel
theorem dX4_count_82 : decode cX4_count 82 = .ok (.if_icmp .ne 8, 3) := by decide +kernel
theorem dX4_count_85 : decode cX4_count 85 = .ok (.iload 4, 2) := by decide +kernel
theorem dX4_count_87 : decode cX4_count 87 = .ok (.ifCond .ne 66, 3) := by decide +kernel
theorem dX4_count_90 : decode cX4_count 90 = .ok (.iload_n 1, 1) := by decide +kernel
theorem dX4_count_91 : decode cX4_count 91 = .ok (.iconst 2, 1) := by decide +kernel
theorem dX4_count_92 : decode cX4_count 92 = .ok (.if_icmp .ne 16, 3) := by decide +kernel
theorem dX4_count_95 : decode cX4_count 95 = .ok (.iload 4, 2) := by decide +kernel
theorem dX4_count_97 : decode cX4_count 97 = .ok (.ifCond .eq 11, 3) := by decide +kernel
theorem dX4_count_100 : decode cX4_count 100 = .ok (.aload_n 0, 1) := by decide +kernel
theorem dX4_count_101 : decode cX4_count 101 = .ok (.iload_n 3, 1) := by decide +kernel
theorem dX4_count_102 : decode cX4_count 102 = .ok (.invokevirtual 75, 3) := by decide +kernel
theorem dX4_count_105 : decode cX4_count 105 = .ok (.ifCond .ne 48, 3) := by decide +kernel
theorem dX4_count_108 : decode cX4_count 108 = .ok (.iload_n 1, 1) := by decide +kernel
theorem dX4_count_109 : decode cX4_count 109 = .ok (.iconst 3, 1) := by decide +kernel
theorem dX4_count_110 : decode cX4_count 110 = .ok (.if_icmp .ne 30, 3) := by decide +kernel
theorem dX4_count_113 : decode cX4_count 113 = .ok (.iload 4, 2) := by decide +kernel
theorem dX4_count_115 : decode cX4_count 115 = .ok (.ifCond .eq 25, 3) := by decide +kernel
theorem dX4_count_118 : decode cX4_count 118 = .ok (.aload_n 0, 1) := by decide +kernel
theorem dX4_count_119 : decode cX4_count 119 = .ok (.iload_n 3, 1) := by decide +kernel
theorem dX4_count_120 : decode cX4_count 120 = .ok (.invokevirtual 75, 3) := by decide +kernel
theorem dX4_count_123 : decode cX4_count 123 = .ok (.ifCond .ne 17, 3) := by decide +kernel
theorem dX4_count_126 : decode cX4_count 126 = .ok (.aload_n 0, 1) := by decide +kernel
theorem dX4_count_127 : decode cX4_count 127 = .ok (.getfield 7, 3) := by decide +kernel
theorem dX4_count_130 : decode cX4_count 130 = .ok (.sipush 148, 3) := by decide +kernel
theorem dX4_count_133 : decode cX4_count 133 = .ok (.iload_n 3, 1) := by decide +kernel
theorem dX4_count_134 : decode cX4_count 134 = .ok (.iadd, 1) := by decide +kernel
theorem dX4_count_135 : decode cX4_count 135 = .ok (.iaload, 1) := by decide +kernel
theorem dX4_count_136 : decode cX4_count 136 = .ok (.iload_n 3, 1) := by decide +kernel
theorem dX4_count_137 : decode cX4_count 137 = .ok (.if_icmp .ne 16, 3) := by decide +kernel
theorem dX4_count_140 : decode cX4_count 140 = .ok (.iload_n 1, 1) := by decide +kernel
theorem dX4_count_141 : decode cX4_count 141 = .ok (.iconst 4, 1) := by decide +kernel
theorem dX4_count_142 : decode cX4_count 142 = .ok (.if_icmp .ne 15, 3) := by decide +kernel
theorem dX4_count_145 : decode cX4_count 145 = .ok (.aload_n 0, 1) := by decide +kernel
theorem dX4_count_146 : decode cX4_count 146 = .ok (.iload_n 3, 1) := by decide +kernel
theorem dX4_count_147 : decode cX4_count 147 = .ok (.invokevirtual 50, 3) := by decide +kernel
theorem dX4_count_150 : decode cX4_count 150 = .ok (.ifCond .eq 7, 3) := by decide +kernel
theorem dX4_count_153 : decode cX4_count 153 = .ok (.iconst 1, 1) := by decide +kernel
theorem dX4_count_154 : decode cX4_count 154 = .ok (.goto 4, 3) := by decide +kernel
theorem dX4_count_157 : decode cX4_count 157 = .ok (.iconst 0, 1) := by decide +kernel
theorem dX4_count_158 : decode cX4_count 158 = .ok (.iadd, 1) := by decide +kernel
theorem dX4_count_159 : decode cX4_count 159 = .ok (.istore_n 2, 1) := by decide +kernel
theorem dX4_count_160 : decode cX4_count 160 = .ok (.iinc 3 1, 3) := by decide +kernel
theorem dX4_count_163 : decode cX4_count 163 = .ok (.goto (-97), 3) := by decide +kernel
theorem dX4_count_166 : decode cX4_count 166 = .ok (.iload_n 2, 1) := by decide +kernel
theorem dX4_count_167 : decode cX4_count 167 = .ok (.ireturn, 1) := by decide +kernel
theorem dJ9_abs_0f7a4_0 : decode cJ9_abs_0f7a4 0 = .ok (.iload_n 0, 1) := by decide +kernel
theorem dJ9_abs_0f7a4_1 : decode cJ9_abs_0f7a4 1 = .ok (.ifCond .ge 8, 3) := by decide +kernel
theorem dJ9_abs_0f7a4_4 : decode cJ9_abs_0f7a4 4 = .ok (.iload_n 0, 1) := by decide +kernel
theorem dJ9_abs_0f7a4_5 : decode cJ9_abs_0f7a4 5 = .ok (.ineg, 1) := by decide +kernel
theorem dJ9_abs_0f7a4_6 : decode cJ9_abs_0f7a4 6 = .ok (.goto 4, 3) := by decide +kernel
theorem dJ9_abs_0f7a4_9 : decode cJ9_abs_0f7a4 9 = .ok (.iload_n 0, 1) := by decide +kernel
theorem dJ9_abs_0f7a4_10 : decode cJ9_abs_0f7a4 10 = .ok (.ireturn, 1) := by decide +kernel
set_option maxRecDepth 20000 in
theorem ggL_law_X3_init : GoodIn wsL_law wsX3_init := goodIn_r _ [8, 9, 10, 11, 12, 13, 14, 15, 16, 17, 18, 19, 20, 21, 22, 23, 24, 25, 26, 27, 28, 29, 30, 31, 32, 33, 34, 35, 36, 37, 38, 39, 40, 41, 42, 43, 44, 45, 46, 47, 48, 49, 50, 51, 52, 53, 54, 55, 56, 2, 57, 58, 59, 60, 61, 62, 63, 64, 65, 66, 67, 68, 69, 70, 71, 72, 73, 74, 75, 76, 77, 78, 79, 680, 681, 682, 683, 684, 685, 686, 687, 688, 689, 690, 691, 692, 693, 694, 664, 665, 666, 667, 668, 669, 695, 696, 697, 698, 699, 700, 701, 702, 703] (by decide +kernel) (by decide +kernel)
set_option maxRecDepth 20000 in
theorem gL_law_X3_init : GoodIn wsL_law (wsX3_init) := ggL_law_X3_init
set_option maxRecDepth 20000 in
theorem ggL_law_X4_init : GoodIn wsL_law wsX4_init := goodIn_r _ [82, 83, 10, 11, 32, 84, 85, 86, 87, 88, 89, 670, 671, 672, 673, 674, 675, 676, 677, 678, 679] (by decide +kernel) (by decide +kernel)
set_option maxRecDepth 20000 in
theorem gL_law_X4_init : GoodIn wsL_law (wsX4_init) := ggL_law_X4_init
set_option maxRecDepth 20000 in
theorem ggL_law_X3_setLimit : GoodIn wsL_law wsX3_setLimit := goodIn_r _ [93, 16, 94, 95, 96, 2, 97, 15, 98, 99, 100, 14, 101, 31, 33, 102, 103, 104, 105, 34, 36, 37, 38, 39, 40, 41, 42, 43, 44, 45, 46, 47, 106, 107, 108, 109, 110, 111, 112, 113, 21, 114, 115, 116, 20, 117, 69, 68, 67, 118, 664, 665, 666, 667, 668, 669, 680, 681, 682, 683, 684, 685, 686, 687, 688, 689, 690, 691, 692, 693, 694, 695, 696, 697] (by decide +kernel) (by decide +kernel)
set_option maxRecDepth 20000 in
theorem gL_law_X3_setLimit : GoodIn wsL_law (wsV RL 13 RX3 yX3_setLimit wsX3_setLimit) := goodIn_app (goodIn_of _ (by decide +kernel)) ggL_law_X3_setLimit
set_option maxRecDepth 20000 in
theorem ggL_law_X4_setLimit : GoodIn wsL_law wsX4_setLimit := goodIn_r _ [122, 84, 123, 124, 5, 125, 126, 127, 128, 129, 130, 88, 670, 671, 672, 673, 674, 675, 676, 677, 678, 679] (by decide +kernel) (by decide +kernel)
set_option maxRecDepth 20000 in
theorem gL_law_X4_setLimit : GoodIn wsL_law (wsV RL 17 RX4 yX4_setLimit wsX4_setLimit) := goodIn_app (goodIn_of _ (by decide +kernel)) ggL_law_X4_setLimit
set_option maxRecDepth 20000 in
theorem ggL_law_X3_setHead : GoodIn wsL_law wsX3_setHead := goodIn_r _ [134, 16, 135, 136, 2, 137, 94, 95, 96, 97, 15, 98, 99, 100, 14, 101, 31, 33, 102, 103, 104, 105, 34, 36, 37, 38, 39, 40, 41, 42, 43, 44, 45, 46, 47, 138, 139, 140, 141, 142, 143, 144, 145, 146, 147, 148, 149, 48, 49, 50, 51, 52, 53, 54, 55, 56, 57, 58, 59, 60, 61, 110, 111, 112, 113, 21, 114, 115, 116, 20, 117, 69, 68, 67, 118, 664, 665, 666, 667, 668, 669, 680, 681, 682, 683, 684, 685, 686, 687, 688, 689, 690, 691, 692, 693, 694, 695, 696, 697] (by decide +kernel) (by decide +kernel)
set_option maxRecDepth 20000 in
theorem gL_law_X3_setHead : GoodIn wsL_law (wsV RL 18 RX3 yX3_setHead wsX3_setHead) := goodIn_app (goodIn_of _ (by decide +kernel)) ggL_law_X3_setHead
set_option maxRecDepth 20000 in
theorem ggL_law_X4_setHead : GoodIn wsL_law wsX4_setHead := goodIn_r _ [153, 84, 154, 155, 5, 156, 123, 124, 125, 157, 158, 159, 160, 126, 127, 128, 129, 130, 88, 670, 671, 672, 673, 674, 675, 676, 677, 678, 679] (by decide +kernel) (by decide +kernel)
set_option maxRecDepth 20000 in
theorem gL_law_X4_setHead : GoodIn wsL_law (wsV RL 22 RX4 yX4_setHead wsX4_setHead) := goodIn_app (goodIn_of _ (by decide +kernel)) ggL_law_X4_setHead
set_option maxRecDepth 20000 in
theorem ggL_law_X3_read : GoodIn wsL_law wsX3_read := goodIn_r _ [164, 16, 94, 95, 96, 2, 97, 15, 98, 99, 100, 14, 101, 31, 33, 102, 103, 104, 105, 34, 36, 37, 38, 39, 40, 41, 42, 43, 44, 45, 46, 47, 165, 166, 167, 168, 52, 53, 54, 55, 56, 57, 58, 59, 60, 61, 169, 170, 171, 172, 173, 174, 175, 176, 177, 178, 179, 180, 181, 182, 183, 184, 185, 186, 187, 188, 189, 190, 191, 192, 193, 194, 195, 196, 197, 198, 199, 200, 201, 202, 203, 204, 205, 206, 207, 208, 209, 210, 211, 212, 213, 214, 215, 216, 217, 218, 219, 220, 221, 222, 223, 224, 225, 226, 227, 228, 229, 230, 231, 232, 233, 234, 235, 236, 237, 238, 239, 240, 110, 111, 112, 113, 21, 114, 115, 116, 20, 117, 69, 68, 67, 118, 664, 665, 666, 667, 668, 669, 680, 681, 682, 683, 684, 685, 686, 687, 688, 689, 690, 691, 692, 693, 694, 695, 696, 697] (by decide +kernel) (by decide +kernel)
set_option maxRecDepth 20000 in
theorem gL_law_X3_read : GoodIn wsL_law (wsV RL 23 RX3 yX3_read wsX3_read) := goodIn_app (goodIn_of _ (by decide +kernel)) ggL_law_X3_read
set_option maxRecDepth 20000 in
theorem ggL_law_X4_read : GoodIn wsL_law wsX4_read := goodIn_r _ [244, 84, 85, 245, 246, 5, 247, 248, 249, 250, 251, 252, 253, 254, 255, 123, 124, 125, 256, 257, 258, 259, 260, 261, 262, 263, 264, 265, 266, 267, 268, 269, 270, 271, 272, 273, 274, 275, 276, 277, 278, 279, 280, 281, 282, 283, 284, 285, 286, 287, 288, 289, 290, 291, 292, 293, 294, 295, 296, 297, 298, 299, 300, 301, 302, 303, 304, 305, 306, 307, 126, 127, 128, 129, 130, 88, 670, 671, 672, 673, 674, 675, 676, 677, 678, 679] (by decide +kernel) (by decide +kernel)
set_option maxRecDepth 20000 in
theorem gL_law_X4_read : GoodIn wsL_law (wsV RL 26 RX4 yX4_read wsX4_read) := goodIn_app (goodIn_of _ (by decide +kernel)) ggL_law_X4_read
set_option maxRecDepth 20000 in
theorem ggL_law_X3_write : GoodIn wsL_law wsX3_write := goodIn_r _ [311, 16, 94, 95, 96, 2, 97, 15, 98, 99, 100, 14, 101, 31, 33, 102, 103, 104, 105, 34, 36, 37, 38, 39, 40, 41, 42, 43, 44, 45, 46, 47, 312, 313, 314, 315, 52, 53, 54, 55, 56, 57, 58, 59, 60, 61, 169, 170, 171, 172, 201, 202, 203, 204, 205, 206, 207, 208, 209, 210, 211, 212, 197, 198, 199, 200, 213, 214, 215, 216, 217, 218, 219, 220, 221, 222, 223, 224, 173, 174, 175, 176, 177, 178, 179, 180, 181, 182, 183, 184, 185, 186, 187, 188, 229, 230, 231, 232, 193, 194, 195, 196, 225, 226, 227, 228, 233, 234, 235, 236, 237, 238, 239, 240, 110, 111, 112, 113, 21, 114, 115, 116, 20, 117, 69, 68, 67, 118, 664, 665, 666, 667, 668, 669, 680, 681, 682, 683, 684, 685, 686, 687, 688, 689, 690, 691, 692, 693, 694, 695, 696, 697] (by decide +kernel) (by decide +kernel)
set_option maxRecDepth 20000 in
theorem gL_law_X3_write : GoodIn wsL_law (wsV RL 27 RX3 yX3_write wsX3_write) := goodIn_app (goodIn_of _ (by decide +kernel)) ggL_law_X3_write
set_option maxRecDepth 20000 in
theorem ggL_law_X4_write : GoodIn wsL_law wsX4_write := goodIn_r _ [319, 84, 85, 245, 246, 5, 247, 320, 321, 322, 323, 252, 253, 254, 255, 123, 124, 125, 256, 257, 258, 259, 260, 261, 262, 263, 288, 289, 290, 291, 292, 293, 294, 295, 296, 297, 298, 299, 284, 285, 286, 287, 300, 301, 302, 303, 304, 305, 306, 307, 264, 265, 266, 267, 268, 269, 270, 271, 272, 273, 274, 275, 276, 277, 278, 279, 280, 281, 282, 283, 126, 127, 128, 129, 130, 88, 670, 671, 672, 673, 674, 675, 676, 677, 678, 679] (by decide +kernel) (by decide +kernel)
set_option maxRecDepth 20000 in
theorem gL_law_X4_write : GoodIn wsL_law (wsV RL 31 RX4 yX4_write wsX4_write) := goodIn_app (goodIn_of _ (by decide +kernel)) ggL_law_X4_write
set_option maxRecDepth 20000 in
theorem ggL_law_X3_copy : GoodIn wsL_law wsX3_copy := goodIn_r _ [327, 15, 16, 328, 53, 54, 14, 55, 34, 56, 2, 57, 58, 59, 60, 61, 94, 95, 96, 97, 98, 99, 100, 101, 31, 33, 102, 103, 104, 105, 36, 37, 38, 39, 40, 41, 42, 43, 44, 45, 46, 47, 329, 330, 331, 332, 333, 166, 167, 168, 52, 169, 170, 171, 172, 173, 174, 175, 176, 177, 178, 179, 180, 181, 182, 183, 184, 185, 186, 187, 188, 189, 190, 191, 192, 193, 194, 195, 196, 197, 198, 199, 200, 201, 202, 203, 204, 205, 206, 207, 208, 209, 210, 211, 212, 213, 214, 215, 216, 217, 218, 219, 220, 221, 222, 223, 224, 225, 226, 227, 228, 229, 230, 231, 232, 233, 234, 235, 236, 237, 238, 239, 240, 334, 313, 314, 315, 110, 111, 112, 113, 21, 114, 115, 116, 20, 117, 69, 68, 67, 118, 664, 665, 666, 667, 668, 669, 680, 681, 682, 683, 684, 685, 686, 687, 688, 689, 690, 691, 692, 693, 694, 695, 696, 697] (by decide +kernel) (by decide +kernel)
set_option maxRecDepth 20000 in
theorem gL_law_X3_copy : GoodIn wsL_law (wsV RL 32 RX3 yX3_copy wsX3_copy) := goodIn_app (goodIn_of _ (by decide +kernel)) ggL_law_X3_copy
set_option maxRecDepth 20000 in
theorem ggL_law_X4_copy : GoodIn wsL_law wsX4_copy := goodIn_r _ [338, 84, 85, 252, 253, 254, 5, 255, 123, 124, 125, 256, 257, 258, 259, 245, 246, 247, 339, 340, 341, 342, 86, 248, 249, 250, 251, 260, 261, 262, 263, 264, 265, 266, 267, 268, 269, 270, 271, 272, 273, 274, 275, 276, 277, 278, 279, 280, 281, 282, 283, 284, 285, 286, 287, 288, 289, 290, 291, 292, 293, 294, 295, 296, 297, 298, 299, 300, 301, 302, 303, 304, 305, 306, 307, 320, 321, 322, 323, 126, 127, 128, 129, 130, 88, 670, 671, 672, 673, 674, 675, 676, 677, 678, 679] (by decide +kernel) (by decide +kernel)
set_option maxRecDepth 20000 in
theorem gL_law_X4_copy : GoodIn wsL_law (wsV RL 36 RX4 yX4_copy wsX4_copy) := goodIn_app (goodIn_of _ (by decide +kernel)) ggL_law_X4_copy
set_option maxRecDepth 20000 in
theorem ggL_law_X3_test : GoodIn wsL_law wsX3_test := goodIn_r _ [346, 16, 135, 136, 2, 137, 94, 95, 96, 97, 15, 98, 99, 100, 14, 101, 31, 33, 102, 103, 104, 105, 34, 36, 37, 38, 39, 40, 41, 42, 43, 44, 45, 46, 47, 347, 348, 349, 350, 351, 352, 353, 354, 169, 170, 171, 172, 333, 166, 167, 168, 52, 53, 54, 55, 56, 57, 58, 59, 60, 61, 173, 174, 175, 176, 177, 178, 179, 180, 181, 182, 183, 184, 185, 186, 187, 188, 189, 190, 191, 192, 193, 194, 195, 196, 197, 198, 199, 200, 201, 202, 203, 204, 205, 206, 207, 208, 209, 210, 211, 212, 213, 214, 215, 216, 217, 218, 219, 220, 221, 222, 223, 224, 225, 226, 227, 228, 229, 230, 231, 232, 233, 234, 235, 236, 237, 238, 239, 240, 110, 111, 112, 113, 21, 114, 115, 116, 20, 117, 69, 68, 67, 118, 664, 665, 666, 667, 668, 669, 680, 681, 682, 683, 684, 685, 686, 687, 688, 689, 690, 691, 692, 693, 694, 695, 696, 697] (by decide +kernel) (by decide +kernel)
set_option maxRecDepth 20000 in
theorem gL_law_X3_test : GoodIn wsL_law (wsV RL 37 RX3 yX3_test wsX3_test) := goodIn_app (goodIn_of _ (by decide +kernel)) ggL_law_X3_test
set_option maxRecDepth 20000 in
theorem ggL_law_X4_test : GoodIn wsL_law wsX4_test := goodIn_r _ [358, 84, 154, 155, 5, 156, 123, 124, 125, 359, 360, 361, 362, 252, 253, 254, 255, 256, 257, 258, 259, 260, 261, 262, 263, 126, 127, 128, 129, 130, 88, 248, 249, 250, 251, 264, 265, 266, 267, 268, 269, 270, 271, 272, 273, 274, 275, 276, 277, 278, 279, 280, 281, 282, 283, 284, 285, 286, 287, 288, 289, 290, 291, 292, 293, 294, 295, 296, 297, 298, 299, 300, 301, 302, 303, 304, 305, 306, 307, 670, 671, 672, 673, 674, 675, 676, 677, 678, 679] (by decide +kernel) (by decide +kernel)
set_option maxRecDepth 20000 in
theorem gL_law_X4_test : GoodIn wsL_law (wsV RL 40 RX4 yX4_test wsX4_test) := goodIn_app (goodIn_of _ (by decide +kernel)) ggL_law_X4_test
set_option maxRecDepth 20000 in
theorem ggL_law_X3_perform : GoodIn wsL_law wsX3_perform := goodIn_r _ [366, 25, 16, 367, 368, 369, 24, 370, 79, 78, 371, 372, 373, 374, 375, 376, 377, 378, 379, 380, 381, 382, 75, 74, 383, 384, 385, 386, 387, 388, 389, 390, 391, 392, 393, 394, 76, 77, 94, 95, 96, 2, 97, 15, 98, 99, 100, 14, 101, 31, 33, 102, 103, 104, 105, 34, 36, 37, 38, 39, 40, 41, 42, 43, 44, 45, 46, 47, 395, 396, 397, 398, 399, 400, 401, 402, 403, 404, 405, 406, 165, 166, 167, 168, 52, 53, 54, 55, 56, 57, 58, 59, 60, 61, 169, 170, 171, 172, 173, 174, 175, 176, 177, 178, 179, 180, 181, 182, 183, 184, 185, 186, 187, 188, 189, 190, 191, 192, 193, 194, 195, 196, 197, 198, 199, 200, 201, 202, 203, 204, 205, 206, 207, 208, 209, 210, 211, 212, 213, 214, 215, 216, 217, 218, 219, 220, 221, 222, 223, 224, 225, 226, 227, 228, 229, 230, 231, 232, 233, 234, 235, 236, 237, 238, 239, 240, 312, 313, 314, 315, 110, 111, 112, 113, 21, 114, 115, 116, 20, 117, 69, 68, 67, 118, 664, 665, 666, 667, 668, 669, 698, 699, 700, 701, 702, 703, 680, 681, 682, 683, 684, 685, 686, 687, 688, 689, 690, 691, 692, 693, 694, 695, 696, 697] (by decide +kernel) (by decide +kernel)
set_option maxRecDepth 20000 in
theorem gL_law_X3_perform : GoodIn wsL_law (wsV RL 41 RX3 yX3_perform wsX3_perform) := goodIn_app (goodIn_of _ (by decide +kernel)) ggL_law_X3_perform
set_option maxRecDepth 20000 in
theorem ggL_law_X4_perform : GoodIn wsL_law wsX4_perform := goodIn_r _ [410, 411, 84, 85, 412, 413, 414, 5, 415, 416, 417, 418, 419, 420, 421, 422, 423, 424, 89, 425, 426, 427, 428, 123, 124, 125, 248, 249, 250, 251, 252, 253, 254, 255, 256, 257, 258, 259, 260, 261, 262, 263, 264, 265, 266, 267, 268, 269, 270, 271, 272, 273, 274, 275, 276, 277, 278, 279, 280, 281, 282, 283, 284, 285, 286, 287, 288, 289, 290, 291, 292, 293, 294, 295, 296, 297, 298, 299, 300, 301, 302, 303, 304, 305, 306, 307, 320, 321, 322, 323, 245, 246, 247, 126, 127, 128, 129, 130, 88, 670, 671, 672, 673, 674, 675, 676, 677, 678, 679] (by decide +kernel) (by decide +kernel)
set_option maxRecDepth 20000 in
theorem gL_law_X4_perform : GoodIn wsL_law (wsV RL 45 RX4 yX4_perform wsX4_perform) := goodIn_app (goodIn_of _ (by decide +kernel)) ggL_law_X4_perform
set_option maxRecDepth 20000 in
theorem ggL_law_X3_giveBack : GoodIn wsL_law wsX3_giveBack := goodIn_r _ [432, 16, 94, 95, 96, 2, 97, 15, 98, 99, 100, 14, 101, 31, 33, 102, 103, 104, 105, 34, 36, 37, 38, 39, 40, 41, 42, 43, 44, 45, 46, 47, 433, 434, 435, 436, 52, 53, 54, 55, 56, 57, 58, 59, 60, 61, 437, 438, 439, 440, 169, 170, 171, 172, 197, 198, 199, 200, 173, 174, 175, 176, 177, 178, 179, 180, 181, 182, 183, 184, 185, 186, 187, 188, 225, 226, 227, 228, 229, 230, 231, 232, 217, 218, 219, 220, 221, 222, 223, 224, 110, 111, 112, 113, 21, 114, 115, 116, 20, 117, 69, 68, 67, 118, 664, 665, 666, 667, 668, 669, 680, 681, 682, 683, 684, 685, 686, 687, 688, 689, 690, 691, 692, 693, 694, 695, 696, 697] (by decide +kernel) (by decide +kernel)
set_option maxRecDepth 20000 in
theorem gL_law_X3_giveBack : GoodIn wsL_law (wsV RL 46 RX3 yX3_giveBack wsX3_giveBack) := goodIn_app (goodIn_of _ (by decide +kernel)) ggL_law_X3_giveBack
set_option maxRecDepth 20000 in
theorem ggL_law_X4_giveBack : GoodIn wsL_law wsX4_giveBack := goodIn_r _ [444, 84, 252, 253, 254, 5, 255, 123, 124, 125, 256, 257, 258, 259, 284, 285, 286, 287, 126, 127, 128, 129, 130, 88, 264, 265, 266, 267, 268, 269, 270, 271, 272, 273, 274, 275, 276, 277, 278, 279, 670, 671, 672, 673, 674, 675, 676, 677, 678, 679] (by decide +kernel) (by decide +kernel)
set_option maxRecDepth 20000 in
theorem gL_law_X4_giveBack : GoodIn wsL_law (wsV RL 49 RX4 yX4_giveBack wsX4_giveBack) := goodIn_app (goodIn_of _ (by decide +kernel)) ggL_law_X4_giveBack
set_option maxRecDepth 20000 in
theorem ggL_law_X3_giveUp : GoodIn wsL_law wsX3_giveUp := goodIn_r _ [448, 15, 16, 135, 136, 2, 137, 449, 450, 451, 14, 452, 36, 453, 454, 455, 456, 94, 95, 96, 97, 98, 99, 100, 101, 31, 33, 102, 103, 104, 105, 34, 37, 38, 39, 40, 41, 42, 43, 44, 45, 46, 47, 457, 458, 459, 460, 52, 53, 54, 55, 56, 57, 58, 59, 60, 61, 169, 170, 171, 172, 461, 462, 463, 464, 201, 202, 203, 204, 205, 206, 207, 208, 209, 210, 211, 212, 197, 198, 199, 200, 213, 214, 215, 216, 237, 238, 239, 240, 221, 222, 223, 224, 217, 218, 219, 220, 229, 230, 231, 232, 110, 111, 112, 113, 21, 114, 115, 116, 20, 117, 69, 68, 67, 118, 664, 665, 666, 667, 668, 669, 680, 681, 682, 683, 684, 685, 686, 687, 688, 689, 690, 691, 692, 693, 694, 695, 696, 697] (by decide +kernel) (by decide +kernel)
set_option maxRecDepth 20000 in
theorem gL_law_X3_giveUp : GoodIn wsL_law (wsV RL 50 RX3 yX3_giveUp wsX3_giveUp) := goodIn_app (goodIn_of _ (by decide +kernel)) ggL_law_X3_giveUp
set_option maxRecDepth 20000 in
theorem ggL_law_X4_giveUp : GoodIn wsL_law wsX4_giveUp := goodIn_r _ [468, 84, 154, 155, 5, 156, 123, 124, 125, 126, 127, 128, 129, 130, 88, 469, 470, 471, 472, 252, 253, 254, 255, 256, 257, 258, 259, 260, 261, 262, 263, 288, 289, 290, 291, 292, 293, 294, 295, 296, 297, 298, 299, 284, 285, 286, 287, 300, 301, 302, 303, 304, 305, 306, 307, 275, 276, 277, 278, 279, 670, 671, 672, 673, 674, 675, 676, 677, 678, 679] (by decide +kernel) (by decide +kernel)
set_option maxRecDepth 20000 in
theorem gL_law_X4_giveUp : GoodIn wsL_law (wsV RL 53 RX4 yX4_giveUp wsX4_giveUp) := goodIn_app (goodIn_of _ (by decide +kernel)) ggL_law_X4_giveUp
set_option maxRecDepth 20000 in
theorem ggL_law_X3_type : GoodIn wsL_law wsX3_type := goodIn_r _ [476, 25, 477, 478, 479, 24, 480, 75, 74, 664, 665, 666, 667, 668, 669, 698, 699, 700, 701, 702, 703] (by decide +kernel) (by decide +kernel)
set_option maxRecDepth 20000 in
theorem gL_law_X3_type : GoodIn wsL_law (wsV RL 54 RX3 yX3_type wsX3_type) := goodIn_app (goodIn_of _ (by decide +kernel)) ggL_law_X3_type
set_option maxRecDepth 20000 in
theorem ggL_law_X4_type : GoodIn wsL_law wsX4_type := goodIn_r _ [484, 416, 89, 670, 671, 672, 673, 674, 675, 676, 677, 678, 679] (by decide +kernel) (by decide +kernel)
set_option maxRecDepth 20000 in
theorem gL_law_X4_type : GoodIn wsL_law (wsV RL 58 RX4 yX4_type wsX4_type) := goodIn_app (goodIn_of _ (by decide +kernel)) ggL_law_X4_type
set_option maxRecDepth 20000 in
theorem ggL_law_X3_clearText : GoodIn wsL_law wsX3_clearText := goodIn_r _ [488, 25, 489, 490, 491, 24, 492, 75, 664, 665, 666, 667, 668, 669, 698, 699, 700, 701, 702, 703] (by decide +kernel) (by decide +kernel)
set_option maxRecDepth 20000 in
theorem gL_law_X3_clearText : GoodIn wsL_law (wsV RL 59 RX3 yX3_clearText wsX3_clearText) := goodIn_app (goodIn_of _ (by decide +kernel)) ggL_law_X3_clearText
set_option maxRecDepth 20000 in
theorem ggL_law_X4_clearText : GoodIn wsL_law wsX4_clearText := goodIn_r _ [496, 416, 670, 671, 672, 673, 674, 675, 676, 677, 678, 679] (by decide +kernel) (by decide +kernel)
set_option maxRecDepth 20000 in
theorem gL_law_X4_clearText : GoodIn wsL_law (wsV RL 62 RX4 yX4_clearText wsX4_clearText) := goodIn_app (goodIn_of _ (by decide +kernel)) ggL_law_X4_clearText
set_option maxRecDepth 20000 in
theorem ggL_law_X3_undo : GoodIn wsL_law wsX3_undo := goodIn_r _ [500, 21, 15, 501, 502, 503, 20, 504, 69, 505, 506, 507, 508, 67, 68, 118, 99, 100, 14, 101, 31, 33, 102, 103, 104, 105, 34, 36, 37, 38, 39, 40, 41, 42, 43, 44, 45, 46, 47, 664, 665, 666, 667, 668, 669, 695, 696, 697, 680, 681, 682, 683, 684, 685, 686, 687, 688, 689, 690, 691, 692, 693, 694] (by decide +kernel) (by decide +kernel)
set_option maxRecDepth 20000 in
theorem gL_law_X3_undo : GoodIn wsL_law (wsV RL 63 RX3 yX3_undo wsX3_undo) := goodIn_app (goodIn_of _ (by decide +kernel)) ggL_law_X3_undo
set_option maxRecDepth 20000 in
theorem ggL_law_X4_undo : GoodIn wsL_law wsX4_undo := goodIn_r _ [512, 130, 84, 88, 670, 671, 672, 673, 674, 675, 676, 677, 678, 679] (by decide +kernel) (by decide +kernel)
set_option maxRecDepth 20000 in
theorem gL_law_X4_undo : GoodIn wsL_law (wsV RL 66 RX4 yX4_undo wsX4_undo) := goodIn_app (goodIn_of _ (by decide +kernel)) ggL_law_X4_undo
set_option maxRecDepth 20000 in
theorem ggL_law_X3_keep : GoodIn wsL_law wsX3_keep := goodIn_r _ [516, 17, 15, 26, 98, 99, 100, 14, 101, 31, 33, 102, 103, 104, 105, 34, 36, 37, 38, 39, 40, 41, 42, 43, 44, 45, 46, 47, 517, 518, 519, 520, 664, 665, 666, 667, 668, 669, 680, 681, 682, 683, 684, 685, 686, 687, 688, 689, 690, 691, 692, 693, 694] (by decide +kernel) (by decide +kernel)
set_option maxRecDepth 20000 in
theorem gL_law_X3_keep : GoodIn wsL_law (wsV RL 67 RX3 yX3_keep wsX3_keep) := goodIn_app (goodIn_of _ (by decide +kernel)) ggL_law_X3_keep
set_option maxRecDepth 20000 in
theorem ggL_law_X4_keep : GoodIn wsL_law wsX4_keep := goodIn_r _ [524, 84, 87, 525, 245, 246, 5, 247, 670, 671, 672, 673, 674, 675, 676, 677, 678, 679] (by decide +kernel) (by decide +kernel)
set_option maxRecDepth 20000 in
theorem gL_law_X4_keep : GoodIn wsL_law (wsV RL 70 RX4 yX4_keep wsX4_keep) := goodIn_app (goodIn_of _ (by decide +kernel)) ggL_law_X4_keep
set_option maxRecDepth 20000 in
theorem ggL_law_X3_restore : GoodIn wsL_law wsX3_restore := goodIn_r _ [529, 26, 16, 17, 98, 99, 100, 14, 101, 31, 33, 102, 103, 104, 105, 34, 36, 37, 38, 39, 40, 41, 42, 43, 44, 45, 46, 47, 517, 518, 519, 520, 110, 111, 112, 2, 113, 21, 15, 114, 115, 116, 20, 117, 69, 68, 67, 118, 664, 665, 666, 667, 668, 669, 680, 681, 682, 683, 684, 685, 686, 687, 688, 689, 690, 691, 692, 693, 694, 695, 696, 697] (by decide +kernel) (by decide +kernel)
set_option maxRecDepth 20000 in
theorem gL_law_X3_restore : GoodIn wsL_law (wsV RL 71 RX3 yX3_restore wsX3_restore) := goodIn_app (goodIn_of _ (by decide +kernel)) ggL_law_X3_restore
set_option maxRecDepth 20000 in
theorem ggL_law_X4_restore : GoodIn wsL_law wsX4_restore := goodIn_r _ [533, 525, 84, 87, 126, 127, 128, 5, 129, 130, 88, 245, 246, 247, 670, 671, 672, 673, 674, 675, 676, 677, 678, 679] (by decide +kernel) (by decide +kernel)
set_option maxRecDepth 20000 in
theorem gL_law_X4_restore : GoodIn wsL_law (wsV RL 74 RX4 yX4_restore wsX4_restore) := goodIn_app (goodIn_of _ (by decide +kernel)) ggL_law_X4_restore
set_option maxRecDepth 20000 in
theorem ggL_law_X3_address : GoodIn wsL_law wsX3_address := goodIn_r _ [537, 15, 328, 53, 54, 14, 55, 34, 56, 2, 57, 58, 59, 60, 61, 538, 539, 540, 541, 38, 40, 39, 169, 170, 171, 172, 437, 438, 439, 440, 201, 202, 203, 204, 205, 206, 207, 208, 209, 210, 211, 212, 41, 36, 197, 198, 199, 200, 37, 31, 213, 214, 215, 216, 177, 178, 179, 180, 42, 181, 182, 183, 184, 185, 186, 187, 188, 664, 665, 666, 667, 668, 669, 680, 681, 682, 683, 684, 685, 686, 687, 688, 689, 690, 691, 692, 693, 694] (by decide +kernel) (by decide +kernel)
set_option maxRecDepth 20000 in
theorem gL_law_X3_address : GoodIn wsL_law (wsV RL 75 RX3 yX3_address wsX3_address) := goodIn_app (goodIn_of _ (by decide +kernel)) ggL_law_X3_address
set_option maxRecDepth 20000 in
theorem ggL_law_X4_address : GoodIn wsL_law wsX4_address := goodIn_r _ [545, 84, 252, 253, 254, 5, 255, 123, 124, 125, 256, 257, 258, 259, 260, 261, 262, 263, 288, 289, 290, 291, 292, 293, 294, 295, 296, 297, 298, 299, 284, 285, 286, 287, 300, 301, 302, 303, 304, 305, 306, 307, 546, 547, 548, 549, 272, 273, 274, 670, 671, 672, 673, 674, 675, 676, 677, 678, 679] (by decide +kernel) (by decide +kernel)
set_option maxRecDepth 20000 in
theorem gL_law_X4_address : GoodIn wsL_law (wsV RL 78 RX4 yX4_address wsX4_address) := goodIn_app (goodIn_of _ (by decide +kernel)) ggL_law_X4_address
set_option maxRecDepth 20000 in
theorem ggL_law_X3_sector : GoodIn wsL_law wsX3_sector := goodIn_r _ [553, 15, 554, 56, 2, 57, 555, 556, 557, 14, 558, 37, 41, 559, 560, 561, 562, 197, 198, 199, 200, 31, 233, 234, 235, 236, 52, 53, 54, 55, 34, 58, 59, 60, 61, 209, 210, 211, 212, 36, 664, 665, 666, 667, 668, 669, 680, 681, 682, 683, 684, 685, 686, 687, 688, 689, 690, 691, 692, 693, 694] (by decide +kernel) (by decide +kernel)
set_option maxRecDepth 20000 in
theorem gL_law_X3_sector : GoodIn wsL_law (wsV RL 79 RX3 yX3_sector wsX3_sector) := goodIn_app (goodIn_of _ (by decide +kernel)) ggL_law_X3_sector
set_option maxRecDepth 20000 in
theorem ggL_law_X4_sector : GoodIn wsL_law wsX4_sector := goodIn_r _ [566, 84, 123, 124, 5, 125, 284, 285, 286, 287, 256, 257, 258, 259, 300, 301, 302, 303, 252, 253, 254, 255, 296, 297, 298, 299, 670, 671, 672, 673, 674, 675, 676, 677, 678, 679] (by decide +kernel) (by decide +kernel)
set_option maxRecDepth 20000 in
theorem gL_law_X4_sector : GoodIn wsL_law (wsV RL 82 RX4 yX4_sector wsX4_sector) := goodIn_app (goodIn_of _ (by decide +kernel)) ggL_law_X4_sector
set_option maxRecDepth 20000 in
theorem ggL_law_X3_head : GoodIn wsL_law wsX3_head := goodIn_r _ [570, 15, 135, 136, 2, 137, 571, 572, 573, 14, 574, 33, 34, 36, 41, 40, 213, 214, 215, 216, 209, 210, 211, 212, 60, 61, 58, 59, 197, 198, 199, 200, 37, 31, 575, 576, 577, 578, 351, 352, 353, 354, 169, 170, 171, 172, 146, 147, 148, 149, 579, 580, 581, 582, 559, 560, 561, 562, 233, 234, 235, 236, 664, 665, 666, 667, 668, 669, 680, 681, 682, 683, 684, 685, 686, 687, 688, 689, 690, 691, 692, 693, 694] (by decide +kernel) (by decide +kernel)
set_option maxRecDepth 20000 in
theorem gL_law_X3_head : GoodIn wsL_law (wsV RL 83 RX3 yX3_head wsX3_head) := goodIn_app (goodIn_of _ (by decide +kernel)) ggL_law_X3_head
set_option maxRecDepth 20000 in
theorem ggL_law_X4_head : GoodIn wsL_law wsX4_head := goodIn_r _ [586, 84, 154, 155, 5, 156, 123, 124, 125, 304, 305, 306, 307, 296, 297, 298, 299, 256, 257, 258, 259, 284, 285, 286, 287, 300, 301, 302, 303, 252, 253, 254, 255, 587, 588, 589, 590, 260, 261, 262, 263, 359, 360, 361, 362, 157, 158, 159, 160, 591, 592, 593, 594, 670, 671, 672, 673, 674, 675, 676, 677, 678, 679] (by decide +kernel) (by decide +kernel)
set_option maxRecDepth 20000 in
theorem gL_law_X4_head : GoodIn wsL_law (wsV RL 86 RX4 yX4_head wsX4_head) := goodIn_app (goodIn_of _ (by decide +kernel)) ggL_law_X4_head
set_option maxRecDepth 20000 in
theorem ggL_law_X3_readsLeft : GoodIn wsL_law wsX3_readsLeft := goodIn_r _ [598, 15, 599, 600, 601, 14, 602, 40, 31, 37, 33, 52, 53, 54, 55, 34, 56, 2, 57, 58, 59, 60, 61, 169, 170, 171, 172, 201, 202, 203, 204, 205, 206, 207, 208, 209, 210, 211, 212, 41, 36, 197, 198, 199, 200, 213, 214, 215, 216, 664, 665, 666, 667, 668, 669, 680, 681, 682, 683, 684, 685, 686, 687, 688, 689, 690, 691, 692, 693, 694] (by decide +kernel) (by decide +kernel)
set_option maxRecDepth 20000 in
theorem gL_law_X3_readsLeft : GoodIn wsL_law (wsV RL 87 RX3 yX3_readsLeft wsX3_readsLeft) := goodIn_app (goodIn_of _ (by decide +kernel)) ggL_law_X3_readsLeft
set_option maxRecDepth 20000 in
theorem ggL_law_X4_readsLeft : GoodIn wsL_law wsX4_readsLeft := goodIn_r _ [606, 84, 85, 252, 253, 254, 5, 255, 123, 124, 125, 256, 257, 258, 259, 245, 246, 247, 248, 249, 250, 251, 260, 261, 262, 263, 264, 265, 266, 267, 268, 269, 270, 271, 272, 273, 274, 275, 276, 277, 278, 279, 280, 281, 282, 283, 284, 285, 286, 287, 288, 289, 290, 291, 292, 293, 294, 295, 296, 297, 298, 299, 300, 301, 302, 303, 304, 305, 306, 307, 670, 671, 672, 673, 674, 675, 676, 677, 678, 679] (by decide +kernel) (by decide +kernel)
set_option maxRecDepth 20000 in
theorem gL_law_X4_readsLeft : GoodIn wsL_law (wsV RL 90 RX4 yX4_readsLeft wsX4_readsLeft) := goodIn_app (goodIn_of _ (by decide +kernel)) ggL_law_X4_readsLeft
set_option maxRecDepth 20000 in
theorem ggL_law_X3_wouldLose : GoodIn wsL_law wsX3_wouldLose := goodIn_r _ [610, 15, 16, 135, 136, 2, 137, 453, 454, 455, 14, 456, 36, 94, 95, 96, 97, 98, 99, 100, 101, 31, 33, 102, 103, 104, 105, 34, 37, 38, 39, 40, 41, 42, 43, 44, 45, 46, 47, 457, 458, 459, 460, 52, 53, 54, 55, 56, 57, 58, 59, 60, 61, 169, 170, 171, 172, 461, 462, 463, 464, 201, 202, 203, 204, 205, 206, 207, 208, 209, 210, 211, 212, 197, 198, 199, 200, 213, 214, 215, 216, 237, 238, 239, 240, 221, 222, 223, 224, 217, 218, 219, 220, 229, 230, 231, 232, 664, 665, 666, 667, 668, 669, 680, 681, 682, 683, 684, 685, 686, 687, 688, 689, 690, 691, 692, 693, 694] (by decide +kernel) (by decide +kernel)
set_option maxRecDepth 20000 in
theorem gL_law_X3_wouldLose : GoodIn wsL_law (wsV RL 91 RX3 yX3_wouldLose wsX3_wouldLose) := goodIn_app (goodIn_of _ (by decide +kernel)) ggL_law_X3_wouldLose
set_option maxRecDepth 20000 in
theorem ggL_law_X4_wouldLose : GoodIn wsL_law wsX4_wouldLose := goodIn_r _ [614, 84, 85, 154, 155, 5, 156, 123, 124, 125, 245, 246, 247, 469, 470, 471, 472, 252, 253, 254, 255, 256, 257, 258, 259, 260, 261, 262, 263, 288, 289, 290, 291, 292, 293, 294, 295, 296, 297, 298, 299, 284, 285, 286, 287, 300, 301, 302, 303, 304, 305, 306, 307, 275, 276, 277, 278, 279, 670, 671, 672, 673, 674, 675, 676, 677, 678, 679] (by decide +kernel) (by decide +kernel)
set_option maxRecDepth 20000 in
theorem gL_law_X4_wouldLose : GoodIn wsL_law (wsV RL 94 RX4 yX4_wouldLose wsX4_wouldLose) := goodIn_app (goodIn_of _ (by decide +kernel)) ggL_law_X4_wouldLose
set_option maxRecDepth 20000 in
theorem ggL_law_X3_worst : GoodIn wsL_law wsX3_worst := goodIn_r _ [618, 15, 619, 620, 621, 14, 622, 623, 624, 625, 626, 52, 53, 54, 55, 34, 56, 2, 57, 58, 59, 60, 61, 169, 170, 171, 172, 40, 627, 628, 629, 630, 37, 664, 665, 666, 667, 668, 669, 680, 681, 682, 683, 684, 685, 686, 687, 688, 689, 690, 691, 692, 693, 694] (by decide +kernel) (by decide +kernel)
set_option maxRecDepth 20000 in
theorem gL_law_X3_worst : GoodIn wsL_law (wsV RL 95 RX3 yX3_worst wsX3_worst) := goodIn_app (goodIn_of _ (by decide +kernel)) ggL_law_X3_worst
set_option maxRecDepth 20000 in
theorem ggL_law_X4_worst : GoodIn wsL_law wsX4_worst := goodIn_r _ [634, 252, 253, 254, 5, 255, 123, 124, 125, 256, 257, 258, 259, 84, 260, 261, 262, 263, 635, 636, 637, 638, 670, 671, 672, 673, 674, 675, 676, 677, 678, 679] (by decide +kernel) (by decide +kernel)
set_option maxRecDepth 20000 in
theorem gL_law_X4_worst : GoodIn wsL_law (wsV RL 98 RX4 yX4_worst wsX4_worst) := goodIn_app (goodIn_of _ (by decide +kernel)) ggL_law_X4_worst
set_option maxRecDepth 20000 in
theorem ggL_law_X3_count : GoodIn wsL_law wsX3_count := goodIn_r _ [642, 21, 25, 15, 501, 502, 503, 20, 504, 69, 643, 644, 645, 24, 646, 75, 647, 648, 649, 14, 650, 31, 42, 43, 44, 45, 46, 47, 651, 652, 653, 654, 655, 572, 573, 574, 33, 34, 36, 41, 40, 213, 214, 215, 216, 209, 210, 211, 212, 60, 2, 61, 58, 59, 197, 198, 199, 200, 37, 575, 576, 577, 578, 351, 352, 353, 354, 169, 170, 171, 172, 146, 147, 148, 149, 579, 580, 581, 582, 559, 560, 561, 562, 233, 234, 235, 236, 656, 657, 658, 659, 52, 53, 54, 55, 56, 57, 437, 438, 439, 440, 664, 665, 666, 667, 668, 669, 695, 696, 697, 698, 699, 700, 701, 702, 703, 680, 681, 682, 683, 684, 685, 686, 687, 688, 689, 690, 691, 692, 693, 694] (by decide +kernel) (by decide +kernel)
set_option maxRecDepth 20000 in
theorem gL_law_X3_count : GoodIn wsL_law (wsV RL 99 RX3 yX3_count wsX3_count) := goodIn_app (goodIn_of _ (by decide +kernel)) ggL_law_X3_count
set_option maxRecDepth 20000 in
theorem ggL_law_X4_count : GoodIn wsL_law wsX4_count := goodIn_r _ [663, 84, 130, 416, 123, 124, 5, 125, 252, 253, 254, 255, 256, 257, 258, 259, 260, 261, 262, 263, 296, 297, 298, 299, 284, 285, 286, 287, 300, 301, 302, 303, 670, 671, 672, 673, 674, 675, 676, 677, 678, 679] (by decide +kernel) (by decide +kernel)
set_option maxRecDepth 20000 in
theorem gL_law_X4_count : GoodIn wsL_law (wsV RL 102 RX4 yX4_count wsX4_count) := goodIn_app (goodIn_of _ (by decide +kernel)) ggL_law_X4_count
theorem dL_law_0 : decode cL_law 0 = .ok (.new 7, 3) := by decide +kernel
theorem dL_law_3 : decode cL_law 3 = .ok (.dup, 1) := by decide +kernel
theorem dL_law_4 : decode cL_law 4 = .ok (.invokespecial 9, 3) := by decide +kernel
theorem dL_law_7 : decode cL_law 7 = .ok (.astore_n 1, 1) := by decide +kernel
theorem dL_law_8 : decode cL_law 8 = .ok (.new 10, 3) := by decide +kernel
theorem dL_law_11 : decode cL_law 11 = .ok (.dup, 1) := by decide +kernel
theorem dL_law_12 : decode cL_law 12 = .ok (.invokespecial 12, 3) := by decide +kernel
theorem dL_law_15 : decode cL_law 15 = .ok (.astore_n 2, 1) := by decide +kernel
theorem dL_law_16 : decode cL_law 16 = .ok (.iconst 0, 1) := by decide +kernel
theorem dL_law_17 : decode cL_law 17 = .ok (.istore_n 3, 1) := by decide +kernel
theorem dL_law_18 : decode cL_law 18 = .ok (.iload_n 3, 1) := by decide +kernel
theorem dL_law_19 : decode cL_law 19 = .ok (.aload_n 0, 1) := by decide +kernel
theorem dL_law_20 : decode cL_law 20 = .ok (.arraylength, 1) := by decide +kernel
theorem dL_law_21 : decode cL_law 21 = .ok (.iconst 4, 1) := by decide +kernel
theorem dL_law_22 : decode cL_law 22 = .ok (.isub, 1) := by decide +kernel
theorem dL_law_23 : decode cL_law 23 = .ok (.if_icmp .gt 646, 3) := by decide +kernel
theorem dL_law_26 : decode cL_law 26 = .ok (.aload_n 0, 1) := by decide +kernel
theorem dL_law_27 : decode cL_law 27 = .ok (.iload_n 3, 1) := by decide +kernel
theorem dL_law_28 : decode cL_law 28 = .ok (.iaload, 1) := by decide +kernel
theorem dL_law_29 : decode cL_law 29 = .ok (.bipush 31, 2) := by decide +kernel
theorem dL_law_31 : decode cL_law 31 = .ok (.iand, 1) := by decide +kernel
theorem dL_law_32 : decode cL_law 32 = .ok (.tableswitch 631 0 20 #[100, 123, 182, 205, 238, 281, 304, 317, 340, 363, 388, 401, 414, 427, 440, 473, 506, 539, 562, 585, 608], 100) := by decide +kernel
theorem dL_law_132 : decode cL_law 132 = .ok (.aload_n 1, 1) := by decide +kernel
theorem dL_law_133 : decode cL_law 133 = .ok (.aload_n 0, 1) := by decide +kernel
theorem dL_law_134 : decode cL_law 134 = .ok (.iload_n 3, 1) := by decide +kernel
theorem dL_law_135 : decode cL_law 135 = .ok (.iconst 1, 1) := by decide +kernel
theorem dL_law_136 : decode cL_law 136 = .ok (.iadd, 1) := by decide +kernel
theorem dL_law_137 : decode cL_law 137 = .ok (.iaload, 1) := by decide +kernel
theorem dL_law_138 : decode cL_law 138 = .ok (.invokevirtual 13, 3) := by decide +kernel
theorem dL_law_141 : decode cL_law 141 = .ok (.aload_n 2, 1) := by decide +kernel
theorem dL_law_142 : decode cL_law 142 = .ok (.aload_n 0, 1) := by decide +kernel
theorem dL_law_143 : decode cL_law 143 = .ok (.iload_n 3, 1) := by decide +kernel
theorem dL_law_144 : decode cL_law 144 = .ok (.iconst 1, 1) := by decide +kernel
theorem dL_law_145 : decode cL_law 145 = .ok (.iadd, 1) := by decide +kernel
theorem dL_law_146 : decode cL_law 146 = .ok (.iaload, 1) := by decide +kernel
theorem dL_law_147 : decode cL_law 147 = .ok (.invokevirtual 17, 3) := by decide +kernel
theorem dL_law_150 : decode cL_law 150 = .ok (.if_icmp .eq 513, 3) := by decide +kernel
theorem dL_law_153 : decode cL_law 153 = .ok (.iconst 0, 1) := by decide +kernel
theorem dL_law_154 : decode cL_law 154 = .ok (.ireturn, 1) := by decide +kernel
theorem dL_law_155 : decode cL_law 155 = .ok (.aload_n 1, 1) := by decide +kernel
theorem dL_law_156 : decode cL_law 156 = .ok (.aload_n 0, 1) := by decide +kernel
theorem dL_law_157 : decode cL_law 157 = .ok (.iload_n 3, 1) := by decide +kernel
theorem dL_law_158 : decode cL_law 158 = .ok (.iconst 1, 1) := by decide +kernel
theorem dL_law_159 : decode cL_law 159 = .ok (.iadd, 1) := by decide +kernel
theorem dL_law_160 : decode cL_law 160 = .ok (.iaload, 1) := by decide +kernel
theorem dL_law_161 : decode cL_law 161 = .ok (.aload_n 0, 1) := by decide +kernel
theorem dL_law_162 : decode cL_law 162 = .ok (.iload_n 3, 1) := by decide +kernel
theorem dL_law_163 : decode cL_law 163 = .ok (.iconst 2, 1) := by decide +kernel
theorem dL_law_164 : decode cL_law 164 = .ok (.iadd, 1) := by decide +kernel
theorem dL_law_165 : decode cL_law 165 = .ok (.iaload, 1) := by decide +kernel
theorem dL_law_166 : decode cL_law 166 = .ok (.ifCond .eq 7, 3) := by decide +kernel
theorem dL_law_169 : decode cL_law 169 = .ok (.iconst 1, 1) := by decide +kernel
theorem dL_law_170 : decode cL_law 170 = .ok (.goto 4, 3) := by decide +kernel
theorem dL_law_173 : decode cL_law 173 = .ok (.iconst 0, 1) := by decide +kernel
theorem dL_law_174 : decode cL_law 174 = .ok (.aload_n 0, 1) := by decide +kernel
theorem dL_law_175 : decode cL_law 175 = .ok (.iload_n 3, 1) := by decide +kernel
theorem dL_law_176 : decode cL_law 176 = .ok (.iconst 3, 1) := by decide +kernel
theorem dL_law_177 : decode cL_law 177 = .ok (.iadd, 1) := by decide +kernel
theorem dL_law_178 : decode cL_law 178 = .ok (.iaload, 1) := by decide +kernel
theorem dL_law_179 : decode cL_law 179 = .ok (.invokevirtual 18, 3) := by decide +kernel
theorem dL_law_182 : decode cL_law 182 = .ok (.aload_n 2, 1) := by decide +kernel
theorem dL_law_183 : decode cL_law 183 = .ok (.aload_n 0, 1) := by decide +kernel
theorem dL_law_184 : decode cL_law 184 = .ok (.iload_n 3, 1) := by decide +kernel
theorem dL_law_185 : decode cL_law 185 = .ok (.iconst 1, 1) := by decide +kernel
theorem dL_law_186 : decode cL_law 186 = .ok (.iadd, 1) := by decide +kernel
theorem dL_law_187 : decode cL_law 187 = .ok (.iaload, 1) := by decide +kernel
theorem dL_law_188 : decode cL_law 188 = .ok (.aload_n 0, 1) := by decide +kernel
theorem dL_law_189 : decode cL_law 189 = .ok (.iload_n 3, 1) := by decide +kernel
theorem dL_law_190 : decode cL_law 190 = .ok (.iconst 2, 1) := by decide +kernel
theorem dL_law_191 : decode cL_law 191 = .ok (.iadd, 1) := by decide +kernel
theorem dL_law_192 : decode cL_law 192 = .ok (.iaload, 1) := by decide +kernel
theorem dL_law_193 : decode cL_law 193 = .ok (.ifCond .eq 7, 3) := by decide +kernel
theorem dL_law_196 : decode cL_law 196 = .ok (.iconst 1, 1) := by decide +kernel
theorem dL_law_197 : decode cL_law 197 = .ok (.goto 4, 3) := by decide +kernel
theorem dL_law_200 : decode cL_law 200 = .ok (.iconst 0, 1) := by decide +kernel
theorem dL_law_201 : decode cL_law 201 = .ok (.aload_n 0, 1) := by decide +kernel
theorem dL_law_202 : decode cL_law 202 = .ok (.iload_n 3, 1) := by decide +kernel
theorem dL_law_203 : decode cL_law 203 = .ok (.iconst 3, 1) := by decide +kernel
theorem dL_law_204 : decode cL_law 204 = .ok (.iadd, 1) := by decide +kernel
theorem dL_law_205 : decode cL_law 205 = .ok (.iaload, 1) := by decide +kernel
theorem dL_law_206 : decode cL_law 206 = .ok (.invokevirtual 22, 3) := by decide +kernel
theorem dL_law_209 : decode cL_law 209 = .ok (.if_icmp .eq 454, 3) := by decide +kernel
theorem dL_law_212 : decode cL_law 212 = .ok (.iconst 0, 1) := by decide +kernel
theorem dL_law_213 : decode cL_law 213 = .ok (.ireturn, 1) := by decide +kernel
theorem dL_law_214 : decode cL_law 214 = .ok (.aload_n 1, 1) := by decide +kernel
theorem dL_law_215 : decode cL_law 215 = .ok (.aload_n 0, 1) := by decide +kernel
theorem dL_law_216 : decode cL_law 216 = .ok (.iload_n 3, 1) := by decide +kernel
theorem dL_law_217 : decode cL_law 217 = .ok (.iconst 1, 1) := by decide +kernel
theorem dL_law_218 : decode cL_law 218 = .ok (.iadd, 1) := by decide +kernel
theorem dL_law_219 : decode cL_law 219 = .ok (.iaload, 1) := by decide +kernel
theorem dL_law_220 : decode cL_law 220 = .ok (.invokevirtual 23, 3) := by decide +kernel
theorem dL_law_223 : decode cL_law 223 = .ok (.aload_n 2, 1) := by decide +kernel
theorem dL_law_224 : decode cL_law 224 = .ok (.aload_n 0, 1) := by decide +kernel
theorem dL_law_225 : decode cL_law 225 = .ok (.iload_n 3, 1) := by decide +kernel
theorem dL_law_226 : decode cL_law 226 = .ok (.iconst 1, 1) := by decide +kernel
theorem dL_law_227 : decode cL_law 227 = .ok (.iadd, 1) := by decide +kernel
theorem dL_law_228 : decode cL_law 228 = .ok (.iaload, 1) := by decide +kernel
theorem dL_law_229 : decode cL_law 229 = .ok (.invokevirtual 26, 3) := by decide +kernel
theorem dL_law_232 : decode cL_law 232 = .ok (.if_icmp .eq 431, 3) := by decide +kernel
theorem dL_law_235 : decode cL_law 235 = .ok (.iconst 0, 1) := by decide +kernel
theorem dL_law_236 : decode cL_law 236 = .ok (.ireturn, 1) := by decide +kernel
theorem dL_law_237 : decode cL_law 237 = .ok (.aload_n 1, 1) := by decide +kernel
theorem dL_law_238 : decode cL_law 238 = .ok (.aload_n 0, 1) := by decide +kernel
theorem dL_law_239 : decode cL_law 239 = .ok (.iload_n 3, 1) := by decide +kernel
theorem dL_law_240 : decode cL_law 240 = .ok (.iconst 1, 1) := by decide +kernel
theorem dL_law_241 : decode cL_law 241 = .ok (.iadd, 1) := by decide +kernel
theorem dL_law_242 : decode cL_law 242 = .ok (.iaload, 1) := by decide +kernel
theorem dL_law_243 : decode cL_law 243 = .ok (.aload_n 0, 1) := by decide +kernel
theorem dL_law_244 : decode cL_law 244 = .ok (.iload_n 3, 1) := by decide +kernel
theorem dL_law_245 : decode cL_law 245 = .ok (.iconst 2, 1) := by decide +kernel
theorem dL_law_246 : decode cL_law 246 = .ok (.iadd, 1) := by decide +kernel
theorem dL_law_247 : decode cL_law 247 = .ok (.iaload, 1) := by decide +kernel
theorem dL_law_248 : decode cL_law 248 = .ok (.invokevirtual 27, 3) := by decide +kernel
theorem dL_law_251 : decode cL_law 251 = .ok (.aload_n 2, 1) := by decide +kernel
theorem dL_law_252 : decode cL_law 252 = .ok (.aload_n 0, 1) := by decide +kernel
theorem dL_law_253 : decode cL_law 253 = .ok (.iload_n 3, 1) := by decide +kernel
theorem dL_law_254 : decode cL_law 254 = .ok (.iconst 1, 1) := by decide +kernel
theorem dL_law_255 : decode cL_law 255 = .ok (.iadd, 1) := by decide +kernel
theorem dL_law_256 : decode cL_law 256 = .ok (.iaload, 1) := by decide +kernel
theorem dL_law_257 : decode cL_law 257 = .ok (.aload_n 0, 1) := by decide +kernel
theorem dL_law_258 : decode cL_law 258 = .ok (.iload_n 3, 1) := by decide +kernel
theorem dL_law_259 : decode cL_law 259 = .ok (.iconst 2, 1) := by decide +kernel
theorem dL_law_260 : decode cL_law 260 = .ok (.iadd, 1) := by decide +kernel
theorem dL_law_261 : decode cL_law 261 = .ok (.iaload, 1) := by decide +kernel
theorem dL_law_262 : decode cL_law 262 = .ok (.invokevirtual 31, 3) := by decide +kernel
theorem dL_law_265 : decode cL_law 265 = .ok (.if_icmp .eq 398, 3) := by decide +kernel
theorem dL_law_268 : decode cL_law 268 = .ok (.iconst 0, 1) := by decide +kernel
theorem dL_law_269 : decode cL_law 269 = .ok (.ireturn, 1) := by decide +kernel
theorem dL_law_270 : decode cL_law 270 = .ok (.aload_n 1, 1) := by decide +kernel
theorem dL_law_271 : decode cL_law 271 = .ok (.aload_n 0, 1) := by decide +kernel
theorem dL_law_272 : decode cL_law 272 = .ok (.iload_n 3, 1) := by decide +kernel
theorem dL_law_273 : decode cL_law 273 = .ok (.iconst 1, 1) := by decide +kernel
theorem dL_law_274 : decode cL_law 274 = .ok (.iadd, 1) := by decide +kernel
theorem dL_law_275 : decode cL_law 275 = .ok (.iaload, 1) := by decide +kernel
theorem dL_law_276 : decode cL_law 276 = .ok (.aload_n 0, 1) := by decide +kernel
theorem dL_law_277 : decode cL_law 277 = .ok (.iload_n 3, 1) := by decide +kernel
theorem dL_law_278 : decode cL_law 278 = .ok (.iconst 2, 1) := by decide +kernel
theorem dL_law_279 : decode cL_law 279 = .ok (.iadd, 1) := by decide +kernel
theorem dL_law_280 : decode cL_law 280 = .ok (.iaload, 1) := by decide +kernel
theorem dL_law_281 : decode cL_law 281 = .ok (.aload_n 0, 1) := by decide +kernel
theorem dL_law_282 : decode cL_law 282 = .ok (.iload_n 3, 1) := by decide +kernel
theorem dL_law_283 : decode cL_law 283 = .ok (.iconst 3, 1) := by decide +kernel
theorem dL_law_284 : decode cL_law 284 = .ok (.iadd, 1) := by decide +kernel
theorem dL_law_285 : decode cL_law 285 = .ok (.iaload, 1) := by decide +kernel
theorem dL_law_286 : decode cL_law 286 = .ok (.invokevirtual 32, 3) := by decide +kernel
theorem dL_law_289 : decode cL_law 289 = .ok (.aload_n 2, 1) := by decide +kernel
theorem dL_law_290 : decode cL_law 290 = .ok (.aload_n 0, 1) := by decide +kernel
theorem dL_law_291 : decode cL_law 291 = .ok (.iload_n 3, 1) := by decide +kernel
theorem dL_law_292 : decode cL_law 292 = .ok (.iconst 1, 1) := by decide +kernel
theorem dL_law_293 : decode cL_law 293 = .ok (.iadd, 1) := by decide +kernel
theorem dL_law_294 : decode cL_law 294 = .ok (.iaload, 1) := by decide +kernel
theorem dL_law_295 : decode cL_law 295 = .ok (.aload_n 0, 1) := by decide +kernel
theorem dL_law_296 : decode cL_law 296 = .ok (.iload_n 3, 1) := by decide +kernel
theorem dL_law_297 : decode cL_law 297 = .ok (.iconst 2, 1) := by decide +kernel
theorem dL_law_298 : decode cL_law 298 = .ok (.iadd, 1) := by decide +kernel
theorem dL_law_299 : decode cL_law 299 = .ok (.iaload, 1) := by decide +kernel
theorem dL_law_300 : decode cL_law 300 = .ok (.aload_n 0, 1) := by decide +kernel
theorem dL_law_301 : decode cL_law 301 = .ok (.iload_n 3, 1) := by decide +kernel
theorem dL_law_302 : decode cL_law 302 = .ok (.iconst 3, 1) := by decide +kernel
theorem dL_law_303 : decode cL_law 303 = .ok (.iadd, 1) := by decide +kernel
theorem dL_law_304 : decode cL_law 304 = .ok (.iaload, 1) := by decide +kernel
theorem dL_law_305 : decode cL_law 305 = .ok (.invokevirtual 36, 3) := by decide +kernel
theorem dL_law_308 : decode cL_law 308 = .ok (.if_icmp .eq 355, 3) := by decide +kernel
theorem dL_law_311 : decode cL_law 311 = .ok (.iconst 0, 1) := by decide +kernel
theorem dL_law_312 : decode cL_law 312 = .ok (.ireturn, 1) := by decide +kernel
theorem dL_law_313 : decode cL_law 313 = .ok (.aload_n 1, 1) := by decide +kernel
theorem dL_law_314 : decode cL_law 314 = .ok (.aload_n 0, 1) := by decide +kernel
theorem dL_law_315 : decode cL_law 315 = .ok (.iload_n 3, 1) := by decide +kernel
theorem dL_law_316 : decode cL_law 316 = .ok (.iconst 1, 1) := by decide +kernel
theorem dL_law_317 : decode cL_law 317 = .ok (.iadd, 1) := by decide +kernel
theorem dL_law_318 : decode cL_law 318 = .ok (.iaload, 1) := by decide +kernel
theorem dL_law_319 : decode cL_law 319 = .ok (.invokevirtual 37, 3) := by decide +kernel
theorem dL_law_322 : decode cL_law 322 = .ok (.aload_n 2, 1) := by decide +kernel
theorem dL_law_323 : decode cL_law 323 = .ok (.aload_n 0, 1) := by decide +kernel
theorem dL_law_324 : decode cL_law 324 = .ok (.iload_n 3, 1) := by decide +kernel
theorem dL_law_325 : decode cL_law 325 = .ok (.iconst 1, 1) := by decide +kernel
theorem dL_law_326 : decode cL_law 326 = .ok (.iadd, 1) := by decide +kernel
theorem dL_law_327 : decode cL_law 327 = .ok (.iaload, 1) := by decide +kernel
theorem dL_law_328 : decode cL_law 328 = .ok (.invokevirtual 40, 3) := by decide +kernel
theorem dL_law_331 : decode cL_law 331 = .ok (.if_icmp .eq 332, 3) := by decide +kernel
theorem dL_law_334 : decode cL_law 334 = .ok (.iconst 0, 1) := by decide +kernel
theorem dL_law_335 : decode cL_law 335 = .ok (.ireturn, 1) := by decide +kernel
theorem dL_law_336 : decode cL_law 336 = .ok (.aload_n 1, 1) := by decide +kernel
theorem dL_law_337 : decode cL_law 337 = .ok (.invokevirtual 41, 3) := by decide +kernel
theorem dL_law_340 : decode cL_law 340 = .ok (.aload_n 2, 1) := by decide +kernel
theorem dL_law_341 : decode cL_law 341 = .ok (.invokevirtual 45, 3) := by decide +kernel
theorem dL_law_344 : decode cL_law 344 = .ok (.if_icmp .eq 319, 3) := by decide +kernel
theorem dL_law_347 : decode cL_law 347 = .ok (.iconst 0, 1) := by decide +kernel
theorem dL_law_348 : decode cL_law 348 = .ok (.ireturn, 1) := by decide +kernel
theorem dL_law_349 : decode cL_law 349 = .ok (.aload_n 1, 1) := by decide +kernel
theorem dL_law_350 : decode cL_law 350 = .ok (.aload_n 0, 1) := by decide +kernel
theorem dL_law_351 : decode cL_law 351 = .ok (.iload_n 3, 1) := by decide +kernel
theorem dL_law_352 : decode cL_law 352 = .ok (.iconst 1, 1) := by decide +kernel
theorem dL_law_353 : decode cL_law 353 = .ok (.iadd, 1) := by decide +kernel
theorem dL_law_354 : decode cL_law 354 = .ok (.iaload, 1) := by decide +kernel
theorem dL_law_355 : decode cL_law 355 = .ok (.invokevirtual 46, 3) := by decide +kernel
theorem dL_law_358 : decode cL_law 358 = .ok (.aload_n 2, 1) := by decide +kernel
theorem dL_law_359 : decode cL_law 359 = .ok (.aload_n 0, 1) := by decide +kernel
theorem dL_law_360 : decode cL_law 360 = .ok (.iload_n 3, 1) := by decide +kernel
theorem dL_law_361 : decode cL_law 361 = .ok (.iconst 1, 1) := by decide +kernel
theorem dL_law_362 : decode cL_law 362 = .ok (.iadd, 1) := by decide +kernel
theorem dL_law_363 : decode cL_law 363 = .ok (.iaload, 1) := by decide +kernel
theorem dL_law_364 : decode cL_law 364 = .ok (.invokevirtual 49, 3) := by decide +kernel
theorem dL_law_367 : decode cL_law 367 = .ok (.if_icmp .eq 296, 3) := by decide +kernel
theorem dL_law_370 : decode cL_law 370 = .ok (.iconst 0, 1) := by decide +kernel
theorem dL_law_371 : decode cL_law 371 = .ok (.ireturn, 1) := by decide +kernel
theorem dL_law_372 : decode cL_law 372 = .ok (.aload_n 1, 1) := by decide +kernel
theorem dL_law_373 : decode cL_law 373 = .ok (.aload_n 0, 1) := by decide +kernel
theorem dL_law_374 : decode cL_law 374 = .ok (.iload_n 3, 1) := by decide +kernel
theorem dL_law_375 : decode cL_law 375 = .ok (.iconst 1, 1) := by decide +kernel
theorem dL_law_376 : decode cL_law 376 = .ok (.iadd, 1) := by decide +kernel
theorem dL_law_377 : decode cL_law 377 = .ok (.iaload, 1) := by decide +kernel
theorem dL_law_378 : decode cL_law 378 = .ok (.invokevirtual 50, 3) := by decide +kernel
theorem dL_law_381 : decode cL_law 381 = .ok (.aload_n 2, 1) := by decide +kernel
theorem dL_law_382 : decode cL_law 382 = .ok (.aload_n 0, 1) := by decide +kernel
theorem dL_law_383 : decode cL_law 383 = .ok (.iload_n 3, 1) := by decide +kernel
theorem dL_law_384 : decode cL_law 384 = .ok (.iconst 1, 1) := by decide +kernel
theorem dL_law_385 : decode cL_law 385 = .ok (.iadd, 1) := by decide +kernel
theorem dL_law_386 : decode cL_law 386 = .ok (.iaload, 1) := by decide +kernel
theorem dL_law_387 : decode cL_law 387 = .ok (.invokevirtual 53, 3) := by decide +kernel
theorem dL_law_390 : decode cL_law 390 = .ok (.if_icmp .eq 273, 3) := by decide +kernel
theorem dL_law_393 : decode cL_law 393 = .ok (.iconst 0, 1) := by decide +kernel
theorem dL_law_394 : decode cL_law 394 = .ok (.ireturn, 1) := by decide +kernel
theorem dL_law_395 : decode cL_law 395 = .ok (.aload_n 1, 1) := by decide +kernel
theorem dL_law_396 : decode cL_law 396 = .ok (.aload_n 0, 1) := by decide +kernel
theorem dL_law_397 : decode cL_law 397 = .ok (.iload_n 3, 1) := by decide +kernel
theorem dL_law_398 : decode cL_law 398 = .ok (.iconst 1, 1) := by decide +kernel
theorem dL_law_399 : decode cL_law 399 = .ok (.iadd, 1) := by decide +kernel
theorem dL_law_400 : decode cL_law 400 = .ok (.iaload, 1) := by decide +kernel
theorem dL_law_401 : decode cL_law 401 = .ok (.i2c, 1) := by decide +kernel
theorem dL_law_402 : decode cL_law 402 = .ok (.invokevirtual 54, 3) := by decide +kernel
theorem dL_law_405 : decode cL_law 405 = .ok (.aload_n 2, 1) := by decide +kernel
theorem dL_law_406 : decode cL_law 406 = .ok (.aload_n 0, 1) := by decide +kernel
theorem dL_law_407 : decode cL_law 407 = .ok (.iload_n 3, 1) := by decide +kernel
theorem dL_law_408 : decode cL_law 408 = .ok (.iconst 1, 1) := by decide +kernel
theorem dL_law_409 : decode cL_law 409 = .ok (.iadd, 1) := by decide +kernel
theorem dL_law_410 : decode cL_law 410 = .ok (.iaload, 1) := by decide +kernel
theorem dL_law_411 : decode cL_law 411 = .ok (.i2c, 1) := by decide +kernel
theorem dL_law_412 : decode cL_law 412 = .ok (.invokevirtual 58, 3) := by decide +kernel
theorem dL_law_415 : decode cL_law 415 = .ok (.if_icmp .eq 248, 3) := by decide +kernel
theorem dL_law_418 : decode cL_law 418 = .ok (.iconst 0, 1) := by decide +kernel
theorem dL_law_419 : decode cL_law 419 = .ok (.ireturn, 1) := by decide +kernel
theorem dL_law_420 : decode cL_law 420 = .ok (.aload_n 1, 1) := by decide +kernel
theorem dL_law_421 : decode cL_law 421 = .ok (.invokevirtual 59, 3) := by decide +kernel
theorem dL_law_424 : decode cL_law 424 = .ok (.aload_n 2, 1) := by decide +kernel
theorem dL_law_425 : decode cL_law 425 = .ok (.invokevirtual 62, 3) := by decide +kernel
theorem dL_law_428 : decode cL_law 428 = .ok (.if_icmp .eq 235, 3) := by decide +kernel
theorem dL_law_431 : decode cL_law 431 = .ok (.iconst 0, 1) := by decide +kernel
theorem dL_law_432 : decode cL_law 432 = .ok (.ireturn, 1) := by decide +kernel
theorem dL_law_433 : decode cL_law 433 = .ok (.aload_n 1, 1) := by decide +kernel
theorem dL_law_434 : decode cL_law 434 = .ok (.invokevirtual 63, 3) := by decide +kernel
theorem dL_law_437 : decode cL_law 437 = .ok (.aload_n 2, 1) := by decide +kernel
theorem dL_law_438 : decode cL_law 438 = .ok (.invokevirtual 66, 3) := by decide +kernel
theorem dL_law_441 : decode cL_law 441 = .ok (.if_icmp .eq 222, 3) := by decide +kernel
theorem dL_law_444 : decode cL_law 444 = .ok (.iconst 0, 1) := by decide +kernel
theorem dL_law_445 : decode cL_law 445 = .ok (.ireturn, 1) := by decide +kernel
theorem dL_law_446 : decode cL_law 446 = .ok (.aload_n 1, 1) := by decide +kernel
theorem dL_law_447 : decode cL_law 447 = .ok (.invokevirtual 67, 3) := by decide +kernel
theorem dL_law_450 : decode cL_law 450 = .ok (.aload_n 2, 1) := by decide +kernel
theorem dL_law_451 : decode cL_law 451 = .ok (.invokevirtual 70, 3) := by decide +kernel
theorem dL_law_454 : decode cL_law 454 = .ok (.if_icmp .eq 209, 3) := by decide +kernel
theorem dL_law_457 : decode cL_law 457 = .ok (.iconst 0, 1) := by decide +kernel
theorem dL_law_458 : decode cL_law 458 = .ok (.ireturn, 1) := by decide +kernel
theorem dL_law_459 : decode cL_law 459 = .ok (.aload_n 1, 1) := by decide +kernel
theorem dL_law_460 : decode cL_law 460 = .ok (.invokevirtual 71, 3) := by decide +kernel
theorem dL_law_463 : decode cL_law 463 = .ok (.aload_n 2, 1) := by decide +kernel
theorem dL_law_464 : decode cL_law 464 = .ok (.invokevirtual 74, 3) := by decide +kernel
theorem dL_law_467 : decode cL_law 467 = .ok (.if_icmp .eq 196, 3) := by decide +kernel
theorem dL_law_470 : decode cL_law 470 = .ok (.iconst 0, 1) := by decide +kernel
theorem dL_law_471 : decode cL_law 471 = .ok (.ireturn, 1) := by decide +kernel
theorem dL_law_472 : decode cL_law 472 = .ok (.aload_n 1, 1) := by decide +kernel
theorem dL_law_473 : decode cL_law 473 = .ok (.aload_n 0, 1) := by decide +kernel
theorem dL_law_474 : decode cL_law 474 = .ok (.iload_n 3, 1) := by decide +kernel
theorem dL_law_475 : decode cL_law 475 = .ok (.iconst 1, 1) := by decide +kernel
theorem dL_law_476 : decode cL_law 476 = .ok (.iadd, 1) := by decide +kernel
theorem dL_law_477 : decode cL_law 477 = .ok (.iaload, 1) := by decide +kernel
theorem dL_law_478 : decode cL_law 478 = .ok (.aload_n 0, 1) := by decide +kernel
theorem dL_law_479 : decode cL_law 479 = .ok (.iload_n 3, 1) := by decide +kernel
theorem dL_law_480 : decode cL_law 480 = .ok (.iconst 2, 1) := by decide +kernel
theorem dL_law_481 : decode cL_law 481 = .ok (.iadd, 1) := by decide +kernel
theorem dL_law_482 : decode cL_law 482 = .ok (.iaload, 1) := by decide +kernel
theorem dL_law_483 : decode cL_law 483 = .ok (.invokevirtual 75, 3) := by decide +kernel
theorem dL_law_486 : decode cL_law 486 = .ok (.aload_n 2, 1) := by decide +kernel
theorem dL_law_487 : decode cL_law 487 = .ok (.aload_n 0, 1) := by decide +kernel
theorem dL_law_488 : decode cL_law 488 = .ok (.iload_n 3, 1) := by decide +kernel
theorem dL_law_489 : decode cL_law 489 = .ok (.iconst 1, 1) := by decide +kernel
theorem dL_law_490 : decode cL_law 490 = .ok (.iadd, 1) := by decide +kernel
theorem dL_law_491 : decode cL_law 491 = .ok (.iaload, 1) := by decide +kernel
theorem dL_law_492 : decode cL_law 492 = .ok (.aload_n 0, 1) := by decide +kernel
theorem dL_law_493 : decode cL_law 493 = .ok (.iload_n 3, 1) := by decide +kernel
theorem dL_law_494 : decode cL_law 494 = .ok (.iconst 2, 1) := by decide +kernel
theorem dL_law_495 : decode cL_law 495 = .ok (.iadd, 1) := by decide +kernel
theorem dL_law_496 : decode cL_law 496 = .ok (.iaload, 1) := by decide +kernel
theorem dL_law_497 : decode cL_law 497 = .ok (.invokevirtual 78, 3) := by decide +kernel
theorem dL_law_500 : decode cL_law 500 = .ok (.if_icmp .eq 163, 3) := by decide +kernel
theorem dL_law_503 : decode cL_law 503 = .ok (.iconst 0, 1) := by decide +kernel
theorem dL_law_504 : decode cL_law 504 = .ok (.ireturn, 1) := by decide +kernel
theorem dL_law_505 : decode cL_law 505 = .ok (.aload_n 1, 1) := by decide +kernel
theorem dL_law_506 : decode cL_law 506 = .ok (.aload_n 0, 1) := by decide +kernel
theorem dL_law_507 : decode cL_law 507 = .ok (.iload_n 3, 1) := by decide +kernel
theorem dL_law_508 : decode cL_law 508 = .ok (.iconst 1, 1) := by decide +kernel
theorem dL_law_509 : decode cL_law 509 = .ok (.iadd, 1) := by decide +kernel
theorem dL_law_510 : decode cL_law 510 = .ok (.iaload, 1) := by decide +kernel
theorem dL_law_511 : decode cL_law 511 = .ok (.aload_n 0, 1) := by decide +kernel
theorem dL_law_512 : decode cL_law 512 = .ok (.iload_n 3, 1) := by decide +kernel
theorem dL_law_513 : decode cL_law 513 = .ok (.iconst 2, 1) := by decide +kernel
theorem dL_law_514 : decode cL_law 514 = .ok (.iadd, 1) := by decide +kernel
theorem dL_law_515 : decode cL_law 515 = .ok (.iaload, 1) := by decide +kernel
theorem dL_law_516 : decode cL_law 516 = .ok (.invokevirtual 79, 3) := by decide +kernel
theorem dL_law_519 : decode cL_law 519 = .ok (.aload_n 2, 1) := by decide +kernel
theorem dL_law_520 : decode cL_law 520 = .ok (.aload_n 0, 1) := by decide +kernel
theorem dL_law_521 : decode cL_law 521 = .ok (.iload_n 3, 1) := by decide +kernel
theorem dL_law_522 : decode cL_law 522 = .ok (.iconst 1, 1) := by decide +kernel
theorem dL_law_523 : decode cL_law 523 = .ok (.iadd, 1) := by decide +kernel
theorem dL_law_524 : decode cL_law 524 = .ok (.iaload, 1) := by decide +kernel
theorem dL_law_525 : decode cL_law 525 = .ok (.aload_n 0, 1) := by decide +kernel
theorem dL_law_526 : decode cL_law 526 = .ok (.iload_n 3, 1) := by decide +kernel
theorem dL_law_527 : decode cL_law 527 = .ok (.iconst 2, 1) := by decide +kernel
theorem dL_law_528 : decode cL_law 528 = .ok (.iadd, 1) := by decide +kernel
theorem dL_law_529 : decode cL_law 529 = .ok (.iaload, 1) := by decide +kernel
theorem dL_law_530 : decode cL_law 530 = .ok (.invokevirtual 82, 3) := by decide +kernel
theorem dL_law_533 : decode cL_law 533 = .ok (.if_icmp .eq 130, 3) := by decide +kernel
theorem dL_law_536 : decode cL_law 536 = .ok (.iconst 0, 1) := by decide +kernel
theorem dL_law_537 : decode cL_law 537 = .ok (.ireturn, 1) := by decide +kernel
theorem dL_law_538 : decode cL_law 538 = .ok (.aload_n 1, 1) := by decide +kernel
theorem dL_law_539 : decode cL_law 539 = .ok (.aload_n 0, 1) := by decide +kernel
theorem dL_law_540 : decode cL_law 540 = .ok (.iload_n 3, 1) := by decide +kernel
theorem dL_law_541 : decode cL_law 541 = .ok (.iconst 1, 1) := by decide +kernel
theorem dL_law_542 : decode cL_law 542 = .ok (.iadd, 1) := by decide +kernel
theorem dL_law_543 : decode cL_law 543 = .ok (.iaload, 1) := by decide +kernel
theorem dL_law_544 : decode cL_law 544 = .ok (.aload_n 0, 1) := by decide +kernel
theorem dL_law_545 : decode cL_law 545 = .ok (.iload_n 3, 1) := by decide +kernel
theorem dL_law_546 : decode cL_law 546 = .ok (.iconst 2, 1) := by decide +kernel
theorem dL_law_547 : decode cL_law 547 = .ok (.iadd, 1) := by decide +kernel
theorem dL_law_548 : decode cL_law 548 = .ok (.iaload, 1) := by decide +kernel
theorem dL_law_549 : decode cL_law 549 = .ok (.invokevirtual 83, 3) := by decide +kernel
theorem dL_law_552 : decode cL_law 552 = .ok (.aload_n 2, 1) := by decide +kernel
theorem dL_law_553 : decode cL_law 553 = .ok (.aload_n 0, 1) := by decide +kernel
theorem dL_law_554 : decode cL_law 554 = .ok (.iload_n 3, 1) := by decide +kernel
theorem dL_law_555 : decode cL_law 555 = .ok (.iconst 1, 1) := by decide +kernel
theorem dL_law_556 : decode cL_law 556 = .ok (.iadd, 1) := by decide +kernel
theorem dL_law_557 : decode cL_law 557 = .ok (.iaload, 1) := by decide +kernel
theorem dL_law_558 : decode cL_law 558 = .ok (.aload_n 0, 1) := by decide +kernel
theorem dL_law_559 : decode cL_law 559 = .ok (.iload_n 3, 1) := by decide +kernel
theorem dL_law_560 : decode cL_law 560 = .ok (.iconst 2, 1) := by decide +kernel
theorem dL_law_561 : decode cL_law 561 = .ok (.iadd, 1) := by decide +kernel
theorem dL_law_562 : decode cL_law 562 = .ok (.iaload, 1) := by decide +kernel
theorem dL_law_563 : decode cL_law 563 = .ok (.invokevirtual 86, 3) := by decide +kernel
theorem dL_law_566 : decode cL_law 566 = .ok (.if_icmp .eq 97, 3) := by decide +kernel
theorem dL_law_569 : decode cL_law 569 = .ok (.iconst 0, 1) := by decide +kernel
theorem dL_law_570 : decode cL_law 570 = .ok (.ireturn, 1) := by decide +kernel
theorem dL_law_571 : decode cL_law 571 = .ok (.aload_n 1, 1) := by decide +kernel
theorem dL_law_572 : decode cL_law 572 = .ok (.aload_n 0, 1) := by decide +kernel
theorem dL_law_573 : decode cL_law 573 = .ok (.iload_n 3, 1) := by decide +kernel
theorem dL_law_574 : decode cL_law 574 = .ok (.iconst 1, 1) := by decide +kernel
theorem dL_law_575 : decode cL_law 575 = .ok (.iadd, 1) := by decide +kernel
theorem dL_law_576 : decode cL_law 576 = .ok (.iaload, 1) := by decide +kernel
theorem dL_law_577 : decode cL_law 577 = .ok (.invokevirtual 87, 3) := by decide +kernel
theorem dL_law_580 : decode cL_law 580 = .ok (.aload_n 2, 1) := by decide +kernel
theorem dL_law_581 : decode cL_law 581 = .ok (.aload_n 0, 1) := by decide +kernel
theorem dL_law_582 : decode cL_law 582 = .ok (.iload_n 3, 1) := by decide +kernel
theorem dL_law_583 : decode cL_law 583 = .ok (.iconst 1, 1) := by decide +kernel
theorem dL_law_584 : decode cL_law 584 = .ok (.iadd, 1) := by decide +kernel
theorem dL_law_585 : decode cL_law 585 = .ok (.iaload, 1) := by decide +kernel
theorem dL_law_586 : decode cL_law 586 = .ok (.invokevirtual 90, 3) := by decide +kernel
theorem dL_law_589 : decode cL_law 589 = .ok (.if_icmp .eq 74, 3) := by decide +kernel
theorem dL_law_592 : decode cL_law 592 = .ok (.iconst 0, 1) := by decide +kernel
theorem dL_law_593 : decode cL_law 593 = .ok (.ireturn, 1) := by decide +kernel
theorem dL_law_594 : decode cL_law 594 = .ok (.aload_n 1, 1) := by decide +kernel
theorem dL_law_595 : decode cL_law 595 = .ok (.aload_n 0, 1) := by decide +kernel
theorem dL_law_596 : decode cL_law 596 = .ok (.iload_n 3, 1) := by decide +kernel
theorem dL_law_597 : decode cL_law 597 = .ok (.iconst 1, 1) := by decide +kernel
theorem dL_law_598 : decode cL_law 598 = .ok (.iadd, 1) := by decide +kernel
theorem dL_law_599 : decode cL_law 599 = .ok (.iaload, 1) := by decide +kernel
theorem dL_law_600 : decode cL_law 600 = .ok (.invokevirtual 91, 3) := by decide +kernel
theorem dL_law_603 : decode cL_law 603 = .ok (.aload_n 2, 1) := by decide +kernel
theorem dL_law_604 : decode cL_law 604 = .ok (.aload_n 0, 1) := by decide +kernel
theorem dL_law_605 : decode cL_law 605 = .ok (.iload_n 3, 1) := by decide +kernel
theorem dL_law_606 : decode cL_law 606 = .ok (.iconst 1, 1) := by decide +kernel
theorem dL_law_607 : decode cL_law 607 = .ok (.iadd, 1) := by decide +kernel
theorem dL_law_608 : decode cL_law 608 = .ok (.iaload, 1) := by decide +kernel
theorem dL_law_609 : decode cL_law 609 = .ok (.invokevirtual 94, 3) := by decide +kernel
theorem dL_law_612 : decode cL_law 612 = .ok (.if_icmp .eq 51, 3) := by decide +kernel
theorem dL_law_615 : decode cL_law 615 = .ok (.iconst 0, 1) := by decide +kernel
theorem dL_law_616 : decode cL_law 616 = .ok (.ireturn, 1) := by decide +kernel
theorem dL_law_617 : decode cL_law 617 = .ok (.aload_n 1, 1) := by decide +kernel
theorem dL_law_618 : decode cL_law 618 = .ok (.aload_n 0, 1) := by decide +kernel
theorem dL_law_619 : decode cL_law 619 = .ok (.iload_n 3, 1) := by decide +kernel
theorem dL_law_620 : decode cL_law 620 = .ok (.iconst 1, 1) := by decide +kernel
theorem dL_law_621 : decode cL_law 621 = .ok (.iadd, 1) := by decide +kernel
theorem dL_law_622 : decode cL_law 622 = .ok (.iaload, 1) := by decide +kernel
theorem dL_law_623 : decode cL_law 623 = .ok (.invokevirtual 95, 3) := by decide +kernel
theorem dL_law_626 : decode cL_law 626 = .ok (.aload_n 2, 1) := by decide +kernel
theorem dL_law_627 : decode cL_law 627 = .ok (.aload_n 0, 1) := by decide +kernel
theorem dL_law_628 : decode cL_law 628 = .ok (.iload_n 3, 1) := by decide +kernel
theorem dL_law_629 : decode cL_law 629 = .ok (.iconst 1, 1) := by decide +kernel
theorem dL_law_630 : decode cL_law 630 = .ok (.iadd, 1) := by decide +kernel
theorem dL_law_631 : decode cL_law 631 = .ok (.iaload, 1) := by decide +kernel
theorem dL_law_632 : decode cL_law 632 = .ok (.invokevirtual 98, 3) := by decide +kernel
theorem dL_law_635 : decode cL_law 635 = .ok (.if_icmp .eq 28, 3) := by decide +kernel
theorem dL_law_638 : decode cL_law 638 = .ok (.iconst 0, 1) := by decide +kernel
theorem dL_law_639 : decode cL_law 639 = .ok (.ireturn, 1) := by decide +kernel
theorem dL_law_640 : decode cL_law 640 = .ok (.aload_n 1, 1) := by decide +kernel
theorem dL_law_641 : decode cL_law 641 = .ok (.aload_n 0, 1) := by decide +kernel
theorem dL_law_642 : decode cL_law 642 = .ok (.iload_n 3, 1) := by decide +kernel
theorem dL_law_643 : decode cL_law 643 = .ok (.iconst 1, 1) := by decide +kernel
theorem dL_law_644 : decode cL_law 644 = .ok (.iadd, 1) := by decide +kernel
theorem dL_law_645 : decode cL_law 645 = .ok (.iaload, 1) := by decide +kernel
theorem dL_law_646 : decode cL_law 646 = .ok (.invokevirtual 99, 3) := by decide +kernel
theorem dL_law_649 : decode cL_law 649 = .ok (.aload_n 2, 1) := by decide +kernel
theorem dL_law_650 : decode cL_law 650 = .ok (.aload_n 0, 1) := by decide +kernel
theorem dL_law_651 : decode cL_law 651 = .ok (.iload_n 3, 1) := by decide +kernel
theorem dL_law_652 : decode cL_law 652 = .ok (.iconst 1, 1) := by decide +kernel
theorem dL_law_653 : decode cL_law 653 = .ok (.iadd, 1) := by decide +kernel
theorem dL_law_654 : decode cL_law 654 = .ok (.iaload, 1) := by decide +kernel
theorem dL_law_655 : decode cL_law 655 = .ok (.invokevirtual 102, 3) := by decide +kernel
theorem dL_law_658 : decode cL_law 658 = .ok (.if_icmp .eq 5, 3) := by decide +kernel
theorem dL_law_661 : decode cL_law 661 = .ok (.iconst 0, 1) := by decide +kernel
theorem dL_law_662 : decode cL_law 662 = .ok (.ireturn, 1) := by decide +kernel
theorem dL_law_663 : decode cL_law 663 = .ok (.iinc 3 4, 3) := by decide +kernel
theorem dL_law_666 : decode cL_law 666 = .ok (.goto (-648), 3) := by decide +kernel
theorem dL_law_669 : decode cL_law 669 = .ok (.iconst 1, 1) := by decide +kernel
theorem dL_law_670 : decode cL_law 670 = .ok (.ireturn, 1) := by decide +kernel
end
