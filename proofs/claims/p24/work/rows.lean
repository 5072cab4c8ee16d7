section
-- ===== PART A: goes FIRST, ahead of the names: the tables' words, and 'selects' of the private methods out of them =====
/-- a private method of a class that the tables say can be made, by its rows of tables_1 -/
def lw_okq (q : MethodName × Nat) : Prop := (q.1.cls ≠ "java/lang/invoke/MethodHandle" ∧ q.1.cls ≠ "java/lang/invoke/VarHandle") ∧ Cond.instantiable q.1.cls q.2 ∈ tables_1 ∧ Cond.privateMethod q.1 ∈ tables_1 ∧ Cond.instanceMethod q.1 ∈ tables_1
theorem lw_p0 : lw_okq (⟨"LentSectors$Heads", "divide", "(II)V"⟩, 15) := ⟨⟨by decide +kernel, by decide +kernel⟩, List.mem_of_getElem? (i := 16) (by decide +kernel), List.mem_of_getElem? (i := 22) (by decide +kernel), List.mem_of_getElem? (i := 23) (by decide +kernel)⟩
theorem lw_p1 : lw_okq (⟨"LentSectors", "startTrial", "()V"⟩, 6) := ⟨⟨by decide +kernel, by decide +kernel⟩, List.mem_of_getElem? (i := 8) (by decide +kernel), List.mem_of_getElem? (i := 154) (by decide +kernel), List.mem_of_getElem? (i := 155) (by decide +kernel)⟩
theorem lw_p2 : lw_okq (⟨"LentSectors", "settle", "(I)I"⟩, 6) := ⟨⟨by decide +kernel, by decide +kernel⟩, List.mem_of_getElem? (i := 8) (by decide +kernel), List.mem_of_getElem? (i := 169) (by decide +kernel), List.mem_of_getElem? (i := 170) (by decide +kernel)⟩
theorem lw_p3 : lw_okq (⟨"LentSectors$CommandText", "takeCommand", "()Z"⟩, 6) := ⟨⟨by decide +kernel, by decide +kernel⟩, List.mem_of_getElem? (i := 106) (by decide +kernel), List.mem_of_getElem? (i := 186) (by decide +kernel), List.mem_of_getElem? (i := 187) (by decide +kernel)⟩
theorem lw_p4 : lw_okq (⟨"LentSectors$CommandText", "take", "(I)Z"⟩, 6) := ⟨⟨by decide +kernel, by decide +kernel⟩, List.mem_of_getElem? (i := 106) (by decide +kernel), List.mem_of_getElem? (i := 190) (by decide +kernel), List.mem_of_getElem? (i := 191) (by decide +kernel)⟩
theorem lw_p5 : lw_okq (⟨"LentSectors$CommandText", "peek", "()I"⟩, 6) := ⟨⟨by decide +kernel, by decide +kernel⟩, List.mem_of_getElem? (i := 106) (by decide +kernel), List.mem_of_getElem? (i := 194) (by decide +kernel), List.mem_of_getElem? (i := 195) (by decide +kernel)⟩
theorem lw_p6 : lw_okq (⟨"LentSectors$CommandText", "takeNumber", "(I)I"⟩, 6) := ⟨⟨by decide +kernel, by decide +kernel⟩, List.mem_of_getElem? (i := 106) (by decide +kernel), List.mem_of_getElem? (i := 198) (by decide +kernel), List.mem_of_getElem? (i := 199) (by decide +kernel)⟩
theorem lw_p7 : lw_okq (⟨"LentSectors$CommandText", "digitAt", "(I)I"⟩, 6) := ⟨⟨by decide +kernel, by decide +kernel⟩, List.mem_of_getElem? (i := 106) (by decide +kernel), List.mem_of_getElem? (i := 202) (by decide +kernel), List.mem_of_getElem? (i := 203) (by decide +kernel)⟩
theorem lw_p8 : lw_okq (⟨"LentSectors$CommandText", "addCommand", "(II)V"⟩, 6) := ⟨⟨by decide +kernel, by decide +kernel⟩, List.mem_of_getElem? (i := 106) (by decide +kernel), List.mem_of_getElem? (i := 206) (by decide +kernel), List.mem_of_getElem? (i := 207) (by decide +kernel)⟩
theorem lw_p9 : lw_okq (⟨"LentSectors$Heads", "isLost", "(I)Z"⟩, 15) := ⟨⟨by decide +kernel, by decide +kernel⟩, List.mem_of_getElem? (i := 16) (by decide +kernel), List.mem_of_getElem? (i := 226) (by decide +kernel), List.mem_of_getElem? (i := 227) (by decide +kernel)⟩
theorem lw_p10 : lw_okq (⟨"LentSectors$Heads", "goTo", "(I)V"⟩, 15) := ⟨⟨by decide +kernel, by decide +kernel⟩, List.mem_of_getElem? (i := 16) (by decide +kernel), List.mem_of_getElem? (i := 230) (by decide +kernel), List.mem_of_getElem? (i := 231) (by decide +kernel)⟩
theorem lw_p11 : lw_okq (⟨"LentSectors$Heads", "stepsTo", "(I)I"⟩, 15) := ⟨⟨by decide +kernel, by decide +kernel⟩, List.mem_of_getElem? (i := 16) (by decide +kernel), List.mem_of_getElem? (i := 234) (by decide +kernel), List.mem_of_getElem? (i := 235) (by decide +kernel)⟩
theorem lw_p12 : lw_okq (⟨"LentSectors$Heads", "wearByReading", "(I)V"⟩, 15) := ⟨⟨by decide +kernel, by decide +kernel⟩, List.mem_of_getElem? (i := 16) (by decide +kernel), List.mem_of_getElem? (i := 246) (by decide +kernel), List.mem_of_getElem? (i := 247) (by decide +kernel)⟩
theorem lw_p13 : lw_okq (⟨"LentSectors$Heads", "lookAt", "(I)V"⟩, 15) := ⟨⟨by decide +kernel, by decide +kernel⟩, List.mem_of_getElem? (i := 16) (by decide +kernel), List.mem_of_getElem? (i := 250) (by decide +kernel), List.mem_of_getElem? (i := 251) (by decide +kernel)⟩
theorem lw_p14 : lw_okq (⟨"LentSectors$Heads", "isGood", "(I)Z"⟩, 15) := ⟨⟨by decide +kernel, by decide +kernel⟩, List.mem_of_getElem? (i := 16) (by decide +kernel), List.mem_of_getElem? (i := 254) (by decide +kernel), List.mem_of_getElem? (i := 255) (by decide +kernel)⟩
theorem lw_p15 : lw_okq (⟨"LentSectors$Heads", "lendableTo", "(I)I"⟩, 15) := ⟨⟨by decide +kernel, by decide +kernel⟩, List.mem_of_getElem? (i := 16) (by decide +kernel), List.mem_of_getElem? (i := 258) (by decide +kernel), List.mem_of_getElem? (i := 259) (by decide +kernel)⟩
def lw_privs_1 : List (MethodName × Nat) := [(⟨"LentSectors$Heads", "divide", "(II)V"⟩, 15), (⟨"LentSectors", "startTrial", "()V"⟩, 6), (⟨"LentSectors", "settle", "(I)I"⟩, 6), (⟨"LentSectors$CommandText", "takeCommand", "()Z"⟩, 6), (⟨"LentSectors$CommandText", "take", "(I)Z"⟩, 6), (⟨"LentSectors$CommandText", "peek", "()I"⟩, 6), (⟨"LentSectors$CommandText", "takeNumber", "(I)I"⟩, 6), (⟨"LentSectors$CommandText", "digitAt", "(I)I"⟩, 6), (⟨"LentSectors$CommandText", "addCommand", "(II)V"⟩, 6), (⟨"LentSectors$Heads", "isLost", "(I)Z"⟩, 15), (⟨"LentSectors$Heads", "goTo", "(I)V"⟩, 15), (⟨"LentSectors$Heads", "stepsTo", "(I)I"⟩, 15), (⟨"LentSectors$Heads", "wearByReading", "(I)V"⟩, 15), (⟨"LentSectors$Heads", "lookAt", "(I)V"⟩, 15), (⟨"LentSectors$Heads", "isGood", "(I)Z"⟩, 15), (⟨"LentSectors$Heads", "lendableTo", "(I)I"⟩, 15)]
theorem lw_r1 : ∀ q ∈ lw_privs_1, lw_okq q := List.forall_mem_cons.mpr ⟨lw_p0, List.forall_mem_cons.mpr ⟨lw_p1, List.forall_mem_cons.mpr ⟨lw_p2, List.forall_mem_cons.mpr ⟨lw_p3, List.forall_mem_cons.mpr ⟨lw_p4, List.forall_mem_cons.mpr ⟨lw_p5, List.forall_mem_cons.mpr ⟨lw_p6, List.forall_mem_cons.mpr ⟨lw_p7, List.forall_mem_cons.mpr ⟨lw_p8, List.forall_mem_cons.mpr ⟨lw_p9, List.forall_mem_cons.mpr ⟨lw_p10, List.forall_mem_cons.mpr ⟨lw_p11, List.forall_mem_cons.mpr ⟨lw_p12, List.forall_mem_cons.mpr ⟨lw_p13, List.forall_mem_cons.mpr ⟨lw_p14, List.forall_mem_cons.mpr ⟨lw_p15, fun _ h => absurd h List.not_mem_nil⟩⟩⟩⟩⟩⟩⟩⟩⟩⟩⟩⟩⟩⟩⟩⟩
theorem lw_p16 : lw_okq (⟨"LentSectors$Heads", "firstFreeOf", "(I)I"⟩, 15) := ⟨⟨by decide +kernel, by decide +kernel⟩, List.mem_of_getElem? (i := 16) (by decide +kernel), List.mem_of_getElem? (i := 262) (by decide +kernel), List.mem_of_getElem? (i := 263) (by decide +kernel)⟩
theorem lw_p17 : lw_okq (⟨"LentSectors$Heads", "isFree", "(I)Z"⟩, 15) := ⟨⟨by decide +kernel, by decide +kernel⟩, List.mem_of_getElem? (i := 16) (by decide +kernel), List.mem_of_getElem? (i := 266) (by decide +kernel), List.mem_of_getElem? (i := 267) (by decide +kernel)⟩
theorem lw_p18 : lw_okq (⟨"LentSectors$Heads", "freeOf", "(I)I"⟩, 15) := ⟨⟨by decide +kernel, by decide +kernel⟩, List.mem_of_getElem? (i := 16) (by decide +kernel), List.mem_of_getElem? (i := 270) (by decide +kernel), List.mem_of_getElem? (i := 271) (by decide +kernel)⟩
theorem lw_p19 : lw_okq (⟨"LentSectors$Heads", "lend", "(II)V"⟩, 15) := ⟨⟨by decide +kernel, by decide +kernel⟩, List.mem_of_getElem? (i := 16) (by decide +kernel), List.mem_of_getElem? (i := 274) (by decide +kernel), List.mem_of_getElem? (i := 275) (by decide +kernel)⟩
theorem lw_p20 : lw_okq (⟨"LentSectors$Heads", "release", "(I)V"⟩, 15) := ⟨⟨by decide +kernel, by decide +kernel⟩, List.mem_of_getElem? (i := 16) (by decide +kernel), List.mem_of_getElem? (i := 278) (by decide +kernel), List.mem_of_getElem? (i := 279) (by decide +kernel)⟩
theorem lw_p21 : lw_okq (⟨"LentSectors$Heads", "moveTo", "(I)V"⟩, 15) := ⟨⟨by decide +kernel, by decide +kernel⟩, List.mem_of_getElem? (i := 16) (by decide +kernel), List.mem_of_getElem? (i := 282) (by decide +kernel), List.mem_of_getElem? (i := 283) (by decide +kernel)⟩
theorem lw_p22 : lw_okq (⟨"LentSectors$Heads", "wearByWriting", "(I)V"⟩, 15) := ⟨⟨by decide +kernel, by decide +kernel⟩, List.mem_of_getElem? (i := 16) (by decide +kernel), List.mem_of_getElem? (i := 286) (by decide +kernel), List.mem_of_getElem? (i := 287) (by decide +kernel)⟩
theorem lw_p23 : lw_okq (⟨"LentSectors$Heads", "isBad", "(I)Z"⟩, 15) := ⟨⟨by decide +kernel, by decide +kernel⟩, List.mem_of_getElem? (i := 16) (by decide +kernel), List.mem_of_getElem? (i := 290) (by decide +kernel), List.mem_of_getElem? (i := 291) (by decide +kernel)⟩
theorem lw_p24 : lw_okq (⟨"LentSectors$Heads", "lose", "(I)V"⟩, 15) := ⟨⟨by decide +kernel, by decide +kernel⟩, List.mem_of_getElem? (i := 16) (by decide +kernel), List.mem_of_getElem? (i := 294) (by decide +kernel), List.mem_of_getElem? (i := 295) (by decide +kernel)⟩
theorem lw_p25 : lw_okq (⟨"LentSectors$Heads", "isLongWay", "(I)Z"⟩, 15) := ⟨⟨by decide +kernel, by decide +kernel⟩, List.mem_of_getElem? (i := 16) (by decide +kernel), List.mem_of_getElem? (i := 331) (by decide +kernel), List.mem_of_getElem? (i := 332) (by decide +kernel)⟩
theorem lw_p26 : lw_okq (⟨"LentSectors$Heads", "leadingElsewhere", "([II)I"⟩, 15) := ⟨⟨by decide +kernel, by decide +kernel⟩, List.mem_of_getElem? (i := 16) (by decide +kernel), List.mem_of_getElem? (i := 346) (by decide +kernel), List.mem_of_getElem? (i := 347) (by decide +kernel)⟩
theorem lw_p27 : lw_okq (⟨"LentSectors$Heads", "lostOf", "(I)I"⟩, 15) := ⟨⟨by decide +kernel, by decide +kernel⟩, List.mem_of_getElem? (i := 16) (by decide +kernel), List.mem_of_getElem? (i := 350) (by decide +kernel), List.mem_of_getElem? (i := 351) (by decide +kernel)⟩
theorem lw_p28 : lw_okq (⟨"LentSectors$Heads", "wearOf", "(I)I"⟩, 15) := ⟨⟨by decide +kernel, by decide +kernel⟩, List.mem_of_getElem? (i := 16) (by decide +kernel), List.mem_of_getElem? (i := 354) (by decide +kernel), List.mem_of_getElem? (i := 355) (by decide +kernel)⟩
theorem lw_p29 : lw_okq (⟨"LentSectors$Heads", "gradedOf", "(II)I"⟩, 15) := ⟨⟨by decide +kernel, by decide +kernel⟩, List.mem_of_getElem? (i := 16) (by decide +kernel), List.mem_of_getElem? (i := 358) (by decide +kernel), List.mem_of_getElem? (i := 359) (by decide +kernel)⟩
theorem lw_p30 : lw_okq (⟨"LentSectors$Heads", "gradeOf", "(I)I"⟩, 15) := ⟨⟨by decide +kernel, by decide +kernel⟩, List.mem_of_getElem? (i := 16) (by decide +kernel), List.mem_of_getElem? (i := 362) (by decide +kernel), List.mem_of_getElem? (i := 363) (by decide +kernel)⟩
theorem lw_p31 : lw_okq (⟨"LentSectors$Heads", "hasRank", "(I)Z"⟩, 15) := ⟨⟨by decide +kernel, by decide +kernel⟩, List.mem_of_getElem? (i := 16) (by decide +kernel), List.mem_of_getElem? (i := 374) (by decide +kernel), List.mem_of_getElem? (i := 375) (by decide +kernel)⟩
def lw_privs_2 : List (MethodName × Nat) := [(⟨"LentSectors$Heads", "firstFreeOf", "(I)I"⟩, 15), (⟨"LentSectors$Heads", "isFree", "(I)Z"⟩, 15), (⟨"LentSectors$Heads", "freeOf", "(I)I"⟩, 15), (⟨"LentSectors$Heads", "lend", "(II)V"⟩, 15), (⟨"LentSectors$Heads", "release", "(I)V"⟩, 15), (⟨"LentSectors$Heads", "moveTo", "(I)V"⟩, 15), (⟨"LentSectors$Heads", "wearByWriting", "(I)V"⟩, 15), (⟨"LentSectors$Heads", "isBad", "(I)Z"⟩, 15), (⟨"LentSectors$Heads", "lose", "(I)V"⟩, 15), (⟨"LentSectors$Heads", "isLongWay", "(I)Z"⟩, 15), (⟨"LentSectors$Heads", "leadingElsewhere", "([II)I"⟩, 15), (⟨"LentSectors$Heads", "lostOf", "(I)I"⟩, 15), (⟨"LentSectors$Heads", "wearOf", "(I)I"⟩, 15), (⟨"LentSectors$Heads", "gradedOf", "(II)I"⟩, 15), (⟨"LentSectors$Heads", "gradeOf", "(I)I"⟩, 15), (⟨"LentSectors$Heads", "hasRank", "(I)Z"⟩, 15)]
theorem lw_r2 : ∀ q ∈ lw_privs_2, lw_okq q := List.forall_mem_cons.mpr ⟨lw_p16, List.forall_mem_cons.mpr ⟨lw_p17, List.forall_mem_cons.mpr ⟨lw_p18, List.forall_mem_cons.mpr ⟨lw_p19, List.forall_mem_cons.mpr ⟨lw_p20, List.forall_mem_cons.mpr ⟨lw_p21, List.forall_mem_cons.mpr ⟨lw_p22, List.forall_mem_cons.mpr ⟨lw_p23, List.forall_mem_cons.mpr ⟨lw_p24, List.forall_mem_cons.mpr ⟨lw_p25, List.forall_mem_cons.mpr ⟨lw_p26, List.forall_mem_cons.mpr ⟨lw_p27, List.forall_mem_cons.mpr ⟨lw_p28, List.forall_mem_cons.mpr ⟨lw_p29, List.forall_mem_cons.mpr ⟨lw_p30, List.forall_mem_cons.mpr ⟨lw_p31, fun _ h => absurd h List.not_mem_nil⟩⟩⟩⟩⟩⟩⟩⟩⟩⟩⟩⟩⟩⟩⟩⟩
theorem lw_p32 : lw_okq (⟨"LentSectors$Heads", "rankOf", "(I)I"⟩, 15) := ⟨⟨by decide +kernel, by decide +kernel⟩, List.mem_of_getElem? (i := 16) (by decide +kernel), List.mem_of_getElem? (i := 378) (by decide +kernel), List.mem_of_getElem? (i := 379) (by decide +kernel)⟩
theorem lw_p33 : lw_okq (⟨"LentSectors$Heads", "overHeads", "(I)I"⟩, 15) := ⟨⟨by decide +kernel, by decide +kernel⟩, List.mem_of_getElem? (i := 16) (by decide +kernel), List.mem_of_getElem? (i := 394) (by decide +kernel), List.mem_of_getElem? (i := 395) (by decide +kernel)⟩
theorem lw_p34 : lw_okq (⟨"LentSectors$Heads", "longWayCount", "()I"⟩, 15) := ⟨⟨by decide +kernel, by decide +kernel⟩, List.mem_of_getElem? (i := 16) (by decide +kernel), List.mem_of_getElem? (i := 399) (by decide +kernel), List.mem_of_getElem? (i := 400) (by decide +kernel)⟩
theorem lw_p35 : lw_okq (⟨"LentSectors$Heads", "moveAway", "(I)V"⟩, 15) := ⟨⟨by decide +kernel, by decide +kernel⟩, List.mem_of_getElem? (i := 16) (by decide +kernel), List.mem_of_getElem? (i := 506) (by decide +kernel), List.mem_of_getElem? (i := 507) (by decide +kernel)⟩
def lw_privs_3 : List (MethodName × Nat) := [(⟨"LentSectors$Heads", "rankOf", "(I)I"⟩, 15), (⟨"LentSectors$Heads", "overHeads", "(I)I"⟩, 15), (⟨"LentSectors$Heads", "longWayCount", "()I"⟩, 15), (⟨"LentSectors$Heads", "moveAway", "(I)V"⟩, 15)]
theorem lw_r3 : ∀ q ∈ lw_privs_3, lw_okq q := List.forall_mem_cons.mpr ⟨lw_p32, List.forall_mem_cons.mpr ⟨lw_p33, List.forall_mem_cons.mpr ⟨lw_p34, List.forall_mem_cons.mpr ⟨lw_p35, fun _ h => absurd h List.not_mem_nil⟩⟩⟩⟩
def lw_privs : List (MethodName × Nat) := lw_privs_1 ++ (lw_privs_2 ++ (lw_privs_3))
def lw_tbl : List Cond := k2_sels lw_privs ++ tables_1
theorem lw_privs_ok : ∀ q ∈ lw_privs, lw_okq q := by
  show ∀ q ∈ lw_privs_1 ++ (lw_privs_2 ++ (lw_privs_3)), lw_okq q
  exact List.forall_mem_append.mpr ⟨lw_r1, List.forall_mem_append.mpr ⟨lw_r2, lw_r3⟩⟩
/-! ===== BEGIN words of one list among another's, by their places ===== -/
theorem goodIn_r {big : List Cond} (ws : List Cond) (ps : List Nat) (hp : ws = ps.filterMap (fun i => big[i]?)) (h : ws.all goodWord = true) : GoodIn big ws := by
  intro w hw
  have h1 := List.all_eq_true.mp h w hw
  rw [hp] at hw
  obtain ⟨i, -, hi⟩ := List.mem_filterMap.mp hw
  have hm : w ∈ big := by first | exact List.mem_of_getElem? hi | exact List.getElem?_mem hi
  exact ⟨hm, good_of_word h1⟩
theorem goodIn_app {big a b : List Cond} (ha : GoodIn big a) (hb : GoodIn big b) : GoodIn big (a ++ b) := fun w h => (List.mem_append.mp h).elim (ha w) (hb w)
theorem goodIn_ca {big a b : List Cond} {c : Cond} (ha : GoodIn big (c :: a)) (hb : GoodIn big b) : GoodIn big (c :: (a ++ b)) := fun w h => (List.mem_cons.mp h).elim (fun e => ha w (List.mem_cons.mpr (Or.inl e))) (fun h => (List.mem_append.mp h).elim (fun h => ha w (List.mem_cons.mpr (Or.inr h))) (hb w))
theorem goodIn_sub {big ws : List Cond} (hm : ∀ w ∈ ws, w ∈ big) (h : ws.all goodWord = true) : GoodIn big ws := fun w hw => ⟨hm w hw, good_of_word (List.all_eq_true.mp h w hw)⟩
/-! ===== END ===== -/

/-! ===== BEGIN printed: names, fields, word lists, decode rows ===== -/
def RX0 : String := "LentSectors$CommandText"
def TX0 : u_T := fun k => match k with
  | 0 => ("LentSectors$CommandText", "codes", "[I", true)
  | 1 => ("LentSectors$CommandText", "length", "I", false)
  | 2 => ("LentSectors$CommandText", "sectors", "[I", true)
  | 3 => ("LentSectors$CommandText", "values", "[I", true)
  | 4 => ("LentSectors$CommandText", "commands", "I", false)
  | _ => ("LentSectors$CommandText", "at", "I", false)
def tyX0 : Nat → FieldType := fun k => match k with
  | 0 => .array .int
  | 1 => .int
  | 2 => .array .int
  | 3 => .array .int
  | 4 => .int
  | _ => .int
abbrev wsX00 : List Cond := u_ws RX0 TX0 6
theorem nmX0 : ∀ a, a < 6 → ∀ b, b < 6 → a ≠ b → (TX0 a).2.1 ≠ (TX0 b).2.1 := by decide +kernel
theorem tyX0_ok : ∀ k, k < 6 → parseFieldDescriptor (TX0 k).2.2.1 = some (tyX0 k) := by decide +kernel
abbrev cX0_init : ByteArray := prog_2_method_1_code
def yX0_init : MethodName := ⟨RX0, "<init>", "()V"⟩
abbrev cX0_length : ByteArray := prog_2_method_2_code
def yX0_length : MethodName := ⟨RX0, "length", "()I"⟩
abbrev cX0_commandCount : ByteArray := prog_2_method_5_code
def yX0_commandCount : MethodName := ⟨RX0, "commandCount", "()I"⟩
abbrev cX0_commandSector : ByteArray := prog_2_method_6_code
def yX0_commandSector : MethodName := ⟨RX0, "commandSector", "(I)I"⟩
abbrev cX0_commandValue : ByteArray := prog_2_method_7_code
def yX0_commandValue : MethodName := ⟨RX0, "commandValue", "(I)I"⟩
abbrev cX0_parse : ByteArray := prog_2_method_8_code
def yX0_parse : MethodName := ⟨RX0, "parse", "()I"⟩
abbrev cX0_takeCommand : ByteArray := prog_2_method_9_code
def yX0_takeCommand : MethodName := ⟨RX0, "takeCommand", "()Z"⟩
abbrev cX0_addCommand : ByteArray := prog_2_method_10_code
def yX0_addCommand : MethodName := ⟨RX0, "addCommand", "(II)V"⟩
abbrev cX0_takeNumber : ByteArray := prog_2_method_11_code
def yX0_takeNumber : MethodName := ⟨RX0, "takeNumber", "(I)I"⟩
abbrev cX0_digitAt : ByteArray := prog_2_method_12_code
def yX0_digitAt : MethodName := ⟨RX0, "digitAt", "(I)I"⟩
abbrev cX0_peek : ByteArray := prog_2_method_13_code
def yX0_peek : MethodName := ⟨RX0, "peek", "()I"⟩
abbrev cX0_take : ByteArray := prog_2_method_14_code
def yX0_take : MethodName := ⟨RX0, "take", "(I)Z"⟩
def RX1 : String := "LentSectors$Heads"
def TX1 : u_T := fun k => match k with
  | 0 => ("LentSectors$Heads", "limit", "I", false)
  | 1 => ("LentSectors$Heads", "ageing", "[I", true)
  | 2 => ("LentSectors$Heads", "spares", "[I", true)
  | 3 => ("LentSectors$Heads", "givenUp", "[Z", true)
  | 4 => ("LentSectors$Heads", "wear", "[I", true)
  | 5 => ("LentSectors$Heads", "value", "[I", true)
  | 6 => ("LentSectors$Heads", "rescuesOf", "[I", true)
  | 7 => ("LentSectors$Heads", "server", "[I", true)
  | 8 => ("LentSectors$Heads", "client", "[I", true)
  | 9 => ("LentSectors$Heads", "arm", "I", false)
  | 10 => ("LentSectors$Heads", "steps", "I", false)
  | 11 => ("LentSectors$Heads", "rescues", "I", false)
  | 12 => ("LentSectors$Heads", "losses", "I", false)
  | 13 => ("LentSectors$Heads", "reads", "I", false)
  | _ => ("LentSectors$Heads", "writes", "I", false)
def tyX1 : Nat → FieldType := fun k => match k with
  | 0 => .int
  | 1 => .array .int
  | 2 => .array .int
  | 3 => .array .boolean
  | 4 => .array .int
  | 5 => .array .int
  | 6 => .array .int
  | 7 => .array .int
  | 8 => .array .int
  | 9 => .int
  | 10 => .int
  | 11 => .int
  | 12 => .int
  | 13 => .int
  | _ => .int
abbrev wsX10 : List Cond := u_ws RX1 TX1 15
theorem nmX1 : ∀ a, a < 15 → ∀ b, b < 15 → a ≠ b → (TX1 a).2.1 ≠ (TX1 b).2.1 := by decide +kernel
theorem tyX1_ok : ∀ k, k < 15 → parseFieldDescriptor (TX1 k).2.2.1 = some (tyX1 k) := by decide +kernel
abbrev cX1_init : ByteArray := prog_3_method_1_code
def yX1_init : MethodName := ⟨RX1, "<init>", "()V"⟩
abbrev cX1_takeOver : ByteArray := prog_3_method_2_code
def yX1_takeOver : MethodName := ⟨RX1, "takeOver", "(LLentSectors$Heads;)V"⟩
abbrev cX1_divide : ByteArray := prog_3_method_3_code
def yX1_divide : MethodName := ⟨RX1, "divide", "(II)V"⟩
abbrev cX1_isAddress : ByteArray := prog_3_method_4_code
def yX1_isAddress : MethodName := ⟨RX1, "isAddress", "(I)Z"⟩
abbrev cX1_isGivenUp : ByteArray := prog_3_method_5_code
def yX1_isGivenUp : MethodName := ⟨RX1, "isGivenUp", "(I)Z"⟩
abbrev cX1_othersAreGivenUp : ByteArray := prog_3_method_6_code
def yX1_othersAreGivenUp : MethodName := ⟨RX1, "othersAreGivenUp", "(I)Z"⟩
abbrev cX1_stepsSoFar : ByteArray := prog_3_method_7_code
def yX1_stepsSoFar : MethodName := ⟨RX1, "stepsSoFar", "()I"⟩
abbrev cX1_isLost : ByteArray := prog_3_method_8_code
def yX1_isLost : MethodName := ⟨RX1, "isLost", "(I)Z"⟩
abbrev cX1_isLongWay : ByteArray := prog_3_method_9_code
def yX1_isLongWay : MethodName := ⟨RX1, "isLongWay", "(I)Z"⟩
abbrev cX1_isGood : ByteArray := prog_3_method_10_code
def yX1_isGood : MethodName := ⟨RX1, "isGood", "(I)Z"⟩
abbrev cX1_isBad : ByteArray := prog_3_method_11_code
def yX1_isBad : MethodName := ⟨RX1, "isBad", "(I)Z"⟩
abbrev cX1_gradeOf : ByteArray := prog_3_method_12_code
def yX1_gradeOf : MethodName := ⟨RX1, "gradeOf", "(I)I"⟩
abbrev cX1_isFree : ByteArray := prog_3_method_13_code
def yX1_isFree : MethodName := ⟨RX1, "isFree", "(I)Z"⟩
abbrev cX1_freeOf : ByteArray := prog_3_method_14_code
def yX1_freeOf : MethodName := ⟨RX1, "freeOf", "(I)I"⟩
abbrev cX1_firstFreeOf : ByteArray := prog_3_method_15_code
def yX1_firstFreeOf : MethodName := ⟨RX1, "firstFreeOf", "(I)I"⟩
abbrev cX1_lendableTo : ByteArray := prog_3_method_16_code
def yX1_lendableTo : MethodName := ⟨RX1, "lendableTo", "(I)I"⟩
abbrev cX1_stepsTo : ByteArray := prog_3_method_17_code
def yX1_stepsTo : MethodName := ⟨RX1, "stepsTo", "(I)I"⟩
abbrev cX1_changeLimit : ByteArray := prog_3_method_18_code
def yX1_changeLimit : MethodName := ⟨RX1, "changeLimit", "(I)I"⟩
abbrev cX1_readAt : ByteArray := prog_3_method_21_code
def yX1_readAt : MethodName := ⟨RX1, "readAt", "(I)I"⟩
abbrev cX1_writeAt : ByteArray := prog_3_method_22_code
def yX1_writeAt : MethodName := ⟨RX1, "writeAt", "(II)I"⟩
abbrev cX1_copyRow : ByteArray := prog_3_method_23_code
def yX1_copyRow : MethodName := ⟨RX1, "copyRow", "(III)I"⟩
abbrev cX1_testHead : ByteArray := prog_3_method_24_code
def yX1_testHead : MethodName := ⟨RX1, "testHead", "(I)I"⟩
abbrev cX1_lookAt : ByteArray := prog_3_method_25_code
def yX1_lookAt : MethodName := ⟨RX1, "lookAt", "(I)V"⟩
abbrev cX1_lend : ByteArray := prog_3_method_26_code
def yX1_lend : MethodName := ⟨RX1, "lend", "(II)V"⟩
abbrev cX1_lose : ByteArray := prog_3_method_27_code
def yX1_lose : MethodName := ⟨RX1, "lose", "(I)V"⟩
abbrev cX1_release : ByteArray := prog_3_method_28_code
def yX1_release : MethodName := ⟨RX1, "release", "(I)V"⟩
abbrev cX1_wearByReading : ByteArray := prog_3_method_29_code
def yX1_wearByReading : MethodName := ⟨RX1, "wearByReading", "(I)V"⟩
abbrev cX1_wearByWriting : ByteArray := prog_3_method_30_code
def yX1_wearByWriting : MethodName := ⟨RX1, "wearByWriting", "(I)V"⟩
abbrev cX1_goTo : ByteArray := prog_3_method_31_code
def yX1_goTo : MethodName := ⟨RX1, "goTo", "(I)V"⟩
abbrev cX1_moveTo : ByteArray := prog_3_method_32_code
def yX1_moveTo : MethodName := ⟨RX1, "moveTo", "(I)V"⟩
abbrev cX1_giveBackAt : ByteArray := prog_3_method_33_code
def yX1_giveBackAt : MethodName := ⟨RX1, "giveBackAt", "(I)I"⟩
abbrev cX1_vacate : ByteArray := prog_3_method_34_code
def yX1_vacate : MethodName := ⟨RX1, "vacate", "(I)I"⟩
abbrev cX1_moveAway : ByteArray := prog_3_method_35_code
def yX1_moveAway : MethodName := ⟨RX1, "moveAway", "(I)V"⟩
abbrev cX1_tellAddress : ByteArray := prog_3_method_36_code
def yX1_tellAddress : MethodName := ⟨RX1, "tellAddress", "(II)I"⟩
abbrev cX1_tellSector : ByteArray := prog_3_method_37_code
def yX1_tellSector : MethodName := ⟨RX1, "tellSector", "(II)I"⟩
abbrev cX1_tellHead : ByteArray := prog_3_method_38_code
def yX1_tellHead : MethodName := ⟨RX1, "tellHead", "(II)I"⟩
abbrev cX1_tellWhole : ByteArray := prog_3_method_39_code
def yX1_tellWhole : MethodName := ⟨RX1, "tellWhole", "(I)I"⟩
abbrev cX1_readsUntilChange : ByteArray := prog_3_method_40_code
def yX1_readsUntilChange : MethodName := ⟨RX1, "readsUntilChange", "(I)I"⟩
abbrev cX1_addressOfRank : ByteArray := prog_3_method_41_code
def yX1_addressOfRank : MethodName := ⟨RX1, "addressOfRank", "(I)I"⟩
abbrev cX1_hasRank : ByteArray := prog_3_method_42_code
def yX1_hasRank : MethodName := ⟨RX1, "hasRank", "(I)Z"⟩
abbrev cX1_rankOf : ByteArray := prog_3_method_43_code
def yX1_rankOf : MethodName := ⟨RX1, "rankOf", "(I)I"⟩
abbrev cX1_leadingElsewhere : ByteArray := prog_3_method_44_code
def yX1_leadingElsewhere : MethodName := ⟨RX1, "leadingElsewhere", "([II)I"⟩
abbrev cX1_lostOf : ByteArray := prog_3_method_45_code
def yX1_lostOf : MethodName := ⟨RX1, "lostOf", "(I)I"⟩
abbrev cX1_wearOf : ByteArray := prog_3_method_46_code
def yX1_wearOf : MethodName := ⟨RX1, "wearOf", "(I)I"⟩
abbrev cX1_gradedOf : ByteArray := prog_3_method_47_code
def yX1_gradedOf : MethodName := ⟨RX1, "gradedOf", "(II)I"⟩
abbrev cX1_overHeads : ByteArray := prog_3_method_48_code
def yX1_overHeads : MethodName := ⟨RX1, "overHeads", "(I)I"⟩
abbrev cX1_longWayCount : ByteArray := prog_3_method_49_code
def yX1_longWayCount : MethodName := ⟨RX1, "longWayCount", "()I"⟩
def RX2 : String := "LentSectors$History"
def TX2 : u_T := fun k => match k with
  | 0 => ("LentSectors$History", "rooms", "[LLentSectors$Heads;", true)
  | 1 => ("LentSectors$History", "oldest", "I", false)
  | _ => ("LentSectors$History", "many", "I", false)
def tyX2 : Nat → FieldType := fun k => match k with
  | 0 => .array (.object "LentSectors$Heads")
  | 1 => .int
  | _ => .int
abbrev wsX20 : List Cond := u_ws RX2 TX2 3
theorem nmX2 : ∀ a, a < 3 → ∀ b, b < 3 → a ≠ b → (TX2 a).2.1 ≠ (TX2 b).2.1 := by decide +kernel
theorem tyX2_ok : ∀ k, k < 3 → parseFieldDescriptor (TX2 k).2.2.1 = some (tyX2 k) := by decide +kernel
abbrev cX2_init : ByteArray := prog_4_method_1_code
def yX2_init : MethodName := ⟨RX2, "<init>", "()V"⟩
abbrev cX2_states : ByteArray := prog_4_method_2_code
def yX2_states : MethodName := ⟨RX2, "states", "()I"⟩
abbrev cX2_record : ByteArray := prog_4_method_3_code
def yX2_record : MethodName := ⟨RX2, "record", "(LLentSectors$Heads;)V"⟩
abbrev cX2_takeBack : ByteArray := prog_4_method_4_code
def yX2_takeBack : MethodName := ⟨RX2, "takeBack", "(LLentSectors$Heads;)V"⟩
def RX3 : String := "LentSectors"
def TX3 : u_T := fun k => match k with
  | 0 => ("LentSectors", "now", "LLentSectors$Heads;", true)
  | 1 => ("LentSectors", "trial", "LLentSectors$Heads;", true)
  | 2 => ("LentSectors", "kept", "LLentSectors$Heads;", true)
  | 3 => ("LentSectors", "history", "LLentSectors$History;", true)
  | 4 => ("LentSectors", "text", "LLentSectors$CommandText;", true)
  | _ => ("LentSectors", "hasKept", "Z", false)
def tyX3 : Nat → FieldType := fun k => match k with
  | 0 => .object "LentSectors$Heads"
  | 1 => .object "LentSectors$Heads"
  | 2 => .object "LentSectors$Heads"
  | 3 => .object "LentSectors$History"
  | 4 => .object "LentSectors$CommandText"
  | _ => .boolean
abbrev wsX30 : List Cond := u_ws RX3 TX3 6
theorem nmX3 : ∀ a, a < 6 → ∀ b, b < 6 → a ≠ b → (TX3 a).2.1 ≠ (TX3 b).2.1 := by decide +kernel
theorem tyX3_ok : ∀ k, k < 6 → parseFieldDescriptor (TX3 k).2.2.1 = some (tyX3 k) := by decide +kernel
abbrev cX3_init : ByteArray := prog_1_method_1_code
def yX3_init : MethodName := ⟨RX3, "<init>", "()V"⟩
abbrev cX3_setLimit : ByteArray := prog_1_method_2_code
def yX3_setLimit : MethodName := ⟨RX3, "setLimit", "(I)I"⟩
abbrev cX3_read : ByteArray := prog_1_method_4_code
def yX3_read : MethodName := ⟨RX3, "read", "(I)I"⟩
abbrev cX3_write : ByteArray := prog_1_method_5_code
def yX3_write : MethodName := ⟨RX3, "write", "(II)I"⟩
abbrev cX3_copy : ByteArray := prog_1_method_6_code
def yX3_copy : MethodName := ⟨RX3, "copy", "(III)I"⟩
abbrev cX3_test : ByteArray := prog_1_method_7_code
def yX3_test : MethodName := ⟨RX3, "test", "(I)I"⟩
abbrev cX3_perform : ByteArray := prog_1_method_8_code
def yX3_perform : MethodName := ⟨RX3, "perform", "()I"⟩
abbrev cX3_giveBack : ByteArray := prog_1_method_9_code
def yX3_giveBack : MethodName := ⟨RX3, "giveBack", "(I)I"⟩
abbrev cX3_giveUp : ByteArray := prog_1_method_10_code
def yX3_giveUp : MethodName := ⟨RX3, "giveUp", "(I)I"⟩
abbrev cX3_undo : ByteArray := prog_1_method_13_code
def yX3_undo : MethodName := ⟨RX3, "undo", "()I"⟩
abbrev cX3_restore : ByteArray := prog_1_method_15_code
def yX3_restore : MethodName := ⟨RX3, "restore", "()I"⟩
abbrev cX3_address : ByteArray := prog_1_method_16_code
def yX3_address : MethodName := ⟨RX3, "address", "(II)I"⟩
abbrev cX3_sector : ByteArray := prog_1_method_17_code
def yX3_sector : MethodName := ⟨RX3, "sector", "(II)I"⟩
abbrev cX3_head : ByteArray := prog_1_method_18_code
def yX3_head : MethodName := ⟨RX3, "head", "(II)I"⟩
abbrev cX3_readsLeft : ByteArray := prog_1_method_19_code
def yX3_readsLeft : MethodName := ⟨RX3, "readsLeft", "(I)I"⟩
abbrev cX3_wouldLose : ByteArray := prog_1_method_20_code
def yX3_wouldLose : MethodName := ⟨RX3, "wouldLose", "(I)I"⟩
abbrev cX3_worst : ByteArray := prog_1_method_21_code
def yX3_worst : MethodName := ⟨RX3, "worst", "(I)I"⟩
abbrev cX3_count : ByteArray := prog_1_method_22_code
def yX3_count : MethodName := ⟨RX3, "count", "(I)I"⟩
abbrev cX3_startTrial : ByteArray := prog_1_method_23_code
def yX3_startTrial : MethodName := ⟨RX3, "startTrial", "()V"⟩
abbrev cX3_settle : ByteArray := prog_1_method_24_code
def yX3_settle : MethodName := ⟨RX3, "settle", "(I)I"⟩
abbrev cX3_isHead : ByteArray := prog_1_method_25_code
def yX3_isHead : MethodName := ⟨RX3, "isHead", "(I)Z"⟩
abbrev cX3_isSector : ByteArray := prog_1_method_26_code
def yX3_isSector : MethodName := ⟨RX3, "isSector", "(I)Z"⟩
abbrev cX3_headOf : ByteArray := prog_1_method_27_code
def yX3_headOf : MethodName := ⟨RX3, "headOf", "(I)I"⟩
abbrev cX3_placeOf : ByteArray := prog_1_method_28_code
def yX3_placeOf : MethodName := ⟨RX3, "placeOf", "(I)I"⟩
abbrev cX3_stepsBetween : ByteArray := prog_1_method_29_code
def yX3_stepsBetween : MethodName := ⟨RX3, "stepsBetween", "(II)I"⟩
def RX4 : String := "LentSectorsModel"
def TX4 : u_T := fun k => match k with
  | _ => ("", "", "", false)
def tyX4 : Nat → FieldType := fun k => match k with
  | _ => .int
abbrev wsX40 : List Cond := u_ws RX4 TX4 0
theorem nmX4 : ∀ a, a < 0 → ∀ b, b < 0 → a ≠ b → (TX4 a).2.1 ≠ (TX4 b).2.1 := by decide +kernel
theorem tyX4_ok : ∀ k, k < 0 → parseFieldDescriptor (TX4 k).2.2.1 = some (tyX4 k) := by decide +kernel
def RJ9 : String := "java/lang/Math"
def TJ9 : u_T := fun k => match k with
  | _ => ("", "", "", false)
def tyJ9 : Nat → FieldType := fun k => match k with
  | _ => .int
abbrev wsJ90 : List Cond := u_ws RJ9 TJ9 0
theorem nmJ9 : ∀ a, a < 0 → ∀ b, b < 0 → a ≠ b → (TJ9 a).2.1 ≠ (TJ9 b).2.1 := by decide +kernel
theorem tyJ9_ok : ∀ k, k < 0 → parseFieldDescriptor (TJ9 k).2.2.1 = some (tyJ9 k) := by decide +kernel
abbrev cJ9_abs_0f7a4 : ByteArray := prog_7_method_59_code
def yJ9_abs_0f7a4 : MethodName := ⟨RJ9, "abs", "(I)I"⟩
def RJ10 : String := "java/lang/System"
def TJ10 : u_T := fun k => match k with
  | _ => ("", "", "", false)
def tyJ10 : Nat → FieldType := fun k => match k with
  | _ => .int
abbrev wsJ100 : List Cond := u_ws RJ10 TJ10 0
theorem nmJ10 : ∀ a, a < 0 → ∀ b, b < 0 → a ≠ b → (TJ10 a).2.1 ≠ (TJ10 b).2.1 := by decide +kernel
theorem tyJ10_ok : ∀ k, k < 0 → parseFieldDescriptor (TJ10 k).2.2.1 = some (tyJ10 k) := by decide +kernel
def RL : String := "LentSectorsLaw"
abbrev cL_cell : ByteArray := method_2_code
def yL_cell : MethodName := ⟨RL, "cell", "([II)I"⟩
abbrev cL_low : ByteArray := method_3_code
def yL_low : MethodName := ⟨RL, "low", "(II)I"⟩
abbrev cL_digest : ByteArray := method_4_code
def yL_digest : MethodName := ⟨RL, "digest", "(LLentSectors;)J"⟩
abbrev cL_sectors : ByteArray := method_5_code
def yL_sectors : MethodName := ⟨RL, "sectors", "(LLentSectors;)Z"⟩
abbrev cL_lends : ByteArray := method_6_code
def yL_lends : MethodName := ⟨RL, "lends", "(LLentSectors;I)I"⟩
abbrev cL_addresses : ByteArray := method_7_code
def yL_addresses : MethodName := ⟨RL, "addresses", "(LLentSectors;)Z"⟩
abbrev cL_apart : ByteArray := method_8_code
def yL_apart : MethodName := ⟨RL, "apart", "(III)I"⟩
abbrev cL_steps : ByteArray := method_9_code
def yL_steps : MethodName := ⟨RL, "steps", "(LLentSectors;II)I"⟩
abbrev cL_worst : ByteArray := method_10_code
def yL_worst : MethodName := ⟨RL, "worst", "(LLentSectors;I)Z"⟩
abbrev cL_reads : ByteArray := method_11_code
def yL_reads : MethodName := ⟨RL, "reads", "(LLentSectors;II)Z"⟩
abbrev cL_writes : ByteArray := method_12_code
def yL_writes : MethodName := ⟨RL, "writes", "(LLentSectors;II)Z"⟩
abbrev cL_gives : ByteArray := method_13_code
def yL_gives : MethodName := ⟨RL, "gives", "(LLentSectors;I)Z"⟩
abbrev cL_drops : ByteArray := method_14_code
def yL_drops : MethodName := ⟨RL, "drops", "(LLentSectors;I)Z"⟩
abbrev cL_does : ByteArray := method_15_code
def yL_does : MethodName := ⟨RL, "does", "(LLentSectors;III)Z"⟩
abbrev cL_law : ByteArray := code
def yL_law : MethodName := ⟨RL, "law", "([I)Z"⟩
def wsX0_init : List Cond := .code yX0_init cX0_init 1 none :: ([.methodLink RX0 3 objectInit, .instanceMethod objectInit, .code objectInit ⟨#[0xb1]⟩ 1 none, .arrayClass .int, .fieldLink RX0 9 "LentSectors$CommandText" "codes" "[I", .fieldLink RX0 15 "LentSectors$CommandText" "length" "I", .fieldLink RX0 19 "LentSectors$CommandText" "sectors" "[I", .fieldLink RX0 22 "LentSectors$CommandText" "values" "[I", .fieldLink RX0 25 "LentSectors$CommandText" "commands" "I", .fieldLink RX0 28 "LentSectors$CommandText" "at" "I"] ++ wsX00)
def wsX0_length : List Cond := .code yX0_length cX0_length 1 (some .int) :: ([.fieldLink RX0 15 "LentSectors$CommandText" "length" "I"] ++ wsX00)
def wsX0_commandCount : List Cond := .code yX0_commandCount cX0_commandCount 1 (some .int) :: ([.fieldLink RX0 25 "LentSectors$CommandText" "commands" "I"] ++ wsX00)
def wsX0_commandSector : List Cond := .code yX0_commandSector cX0_commandSector 2 (some .int) :: ([.fieldLink RX0 19 "LentSectors$CommandText" "sectors" "[I"] ++ wsX00)
def wsX0_commandValue : List Cond := .code yX0_commandValue cX0_commandValue 2 (some .int) :: ([.fieldLink RX0 22 "LentSectors$CommandText" "values" "[I"] ++ wsX00)
def wsX0_peek : List Cond := .code yX0_peek cX0_peek 1 (some .int) :: ([.fieldLink RX0 28 "LentSectors$CommandText" "at" "I", .fieldLink RX0 15 "LentSectors$CommandText" "length" "I", .fieldLink RX0 9 "LentSectors$CommandText" "codes" "[I"] ++ wsX00)
def wsX0_take : List Cond := .code yX0_take cX0_take 2 (some .boolean) :: ([.fieldLink RX0 28 "LentSectors$CommandText" "at" "I", .methodLink RX0 35 yX0_peek, .instanceMethod yX0_peek, .selects RX0 yX0_peek yX0_peek, .initialized RX0, .code yX0_peek cX0_peek 1 (some .int), .fieldLink RX0 15 "LentSectors$CommandText" "length" "I", .fieldLink RX0 9 "LentSectors$CommandText" "codes" "[I"] ++ wsX00)
def wsX0_digitAt : List Cond := .code yX0_digitAt cX0_digitAt 2 (some .int) :: ([.fieldLink RX0 15 "LentSectors$CommandText" "length" "I", .fieldLink RX0 9 "LentSectors$CommandText" "codes" "[I"] ++ wsX00)
def wsX0_takeNumber : List Cond := .code yX0_takeNumber cX0_takeNumber 4 (some .int) :: ([.fieldLink RX0 28 "LentSectors$CommandText" "at" "I", .fieldLink RX0 15 "LentSectors$CommandText" "length" "I", .methodLink RX0 51 yX0_digitAt, .instanceMethod yX0_digitAt, .selects RX0 yX0_digitAt yX0_digitAt, .initialized RX0, .code yX0_digitAt cX0_digitAt 2 (some .int), .fieldLink RX0 9 "LentSectors$CommandText" "codes" "[I"] ++ wsX00)
def wsX0_addCommand : List Cond := .code yX0_addCommand cX0_addCommand 3 none :: ([.fieldLink RX0 25 "LentSectors$CommandText" "commands" "I", .fieldLink RX0 19 "LentSectors$CommandText" "sectors" "[I", .fieldLink RX0 22 "LentSectors$CommandText" "values" "[I"] ++ wsX00)
def wsX0_takeCommand_r1 : List Cond := [Cond.methodLink RX0 39 yX0_take, Cond.instanceMethod yX0_take, Cond.selects RX0 yX0_take yX0_take, Cond.initialized RX0, Cond.code yX0_take cX0_take 2 (some .boolean), Cond.fieldLink RX0 28 "LentSectors$CommandText" "at" "I", Cond.methodLink RX0 35 yX0_peek, Cond.instanceMethod yX0_peek, Cond.selects RX0 yX0_peek yX0_peek, Cond.code yX0_peek cX0_peek 1 (some .int), Cond.fieldLink RX0 15 "LentSectors$CommandText" "length" "I", Cond.fieldLink RX0 9 "LentSectors$CommandText" "codes" "[I", Cond.methodLink RX0 43 yX0_takeNumber, Cond.instanceMethod yX0_takeNumber, Cond.selects RX0 yX0_takeNumber yX0_takeNumber, Cond.code yX0_takeNumber cX0_takeNumber 4 (some .int), Cond.methodLink RX0 51 yX0_digitAt, Cond.instanceMethod yX0_digitAt, Cond.selects RX0 yX0_digitAt yX0_digitAt, Cond.code yX0_digitAt cX0_digitAt 2 (some .int), Cond.methodLink RX0 47 yX0_addCommand, Cond.instanceMethod yX0_addCommand, Cond.selects RX0 yX0_addCommand yX0_addCommand, Cond.code yX0_addCommand cX0_addCommand 3 none]
def wsX0_takeCommand_r2 : List Cond := [Cond.fieldLink RX0 25 "LentSectors$CommandText" "commands" "I", Cond.fieldLink RX0 19 "LentSectors$CommandText" "sectors" "[I", Cond.fieldLink RX0 22 "LentSectors$CommandText" "values" "[I"]
def wsX0_takeCommand : List Cond := .code yX0_takeCommand cX0_takeCommand 4 (some .boolean) :: ((wsX0_takeCommand_r1 ++ wsX0_takeCommand_r2) ++ wsX00)
def wsX0_parse_r1 : List Cond := [Cond.fieldLink RX0 28 "LentSectors$CommandText" "at" "I", Cond.fieldLink RX0 25 "LentSectors$CommandText" "commands" "I", Cond.methodLink RX0 31 yX0_takeCommand, Cond.instanceMethod yX0_takeCommand, Cond.selects RX0 yX0_takeCommand yX0_takeCommand, Cond.initialized RX0, Cond.code yX0_takeCommand cX0_takeCommand 4 (some .boolean), Cond.methodLink RX0 39 yX0_take, Cond.instanceMethod yX0_take, Cond.selects RX0 yX0_take yX0_take, Cond.code yX0_take cX0_take 2 (some .boolean), Cond.methodLink RX0 35 yX0_peek, Cond.instanceMethod yX0_peek, Cond.selects RX0 yX0_peek yX0_peek, Cond.code yX0_peek cX0_peek 1 (some .int), Cond.fieldLink RX0 15 "LentSectors$CommandText" "length" "I", Cond.fieldLink RX0 9 "LentSectors$CommandText" "codes" "[I", Cond.methodLink RX0 43 yX0_takeNumber, Cond.instanceMethod yX0_takeNumber, Cond.selects RX0 yX0_takeNumber yX0_takeNumber, Cond.code yX0_takeNumber cX0_takeNumber 4 (some .int), Cond.methodLink RX0 51 yX0_digitAt, Cond.instanceMethod yX0_digitAt, Cond.selects RX0 yX0_digitAt yX0_digitAt]
def wsX0_parse_r2 : List Cond := [Cond.code yX0_digitAt cX0_digitAt 2 (some .int), Cond.methodLink RX0 47 yX0_addCommand, Cond.instanceMethod yX0_addCommand, Cond.selects RX0 yX0_addCommand yX0_addCommand, Cond.code yX0_addCommand cX0_addCommand 3 none, Cond.fieldLink RX0 19 "LentSectors$CommandText" "sectors" "[I", Cond.fieldLink RX0 22 "LentSectors$CommandText" "values" "[I"]
def wsX0_parse : List Cond := .code yX0_parse cX0_parse 2 (some .int) :: ((wsX0_parse_r1 ++ wsX0_parse_r2) ++ wsX00)
def wsX3_isSector : List Cond := .code yX3_isSector cX3_isSector 1 (some .boolean) :: ([])
def wsX3_placeOf : List Cond := .code yX3_placeOf cX3_placeOf 1 (some .int) :: ([])
def wsX3_headOf : List Cond := .code yX3_headOf cX3_headOf 1 (some .int) :: ([])
def wsX1_isAddress : List Cond := .code yX1_isAddress cX1_isAddress 2 (some .boolean) :: ([.fieldLink RX1 19 "LentSectors$Heads" "spares" "[I", .static yX3_isSector, .initialized RX3, .code yX3_isSector cX3_isSector 1 (some .boolean), .static yX3_placeOf, .code yX3_placeOf cX3_placeOf 1 (some .int), .static yX3_headOf, .code yX3_headOf cX3_headOf 1 (some .int)] ++ wsX10)
def wsX1_divide : List Cond := .code yX1_divide cX1_divide 6 none :: ([.fieldLink RX1 19 "LentSectors$Heads" "spares" "[I", .fieldLink RX1 35 "LentSectors$Heads" "server" "[I", .fieldLink RX1 38 "LentSectors$Heads" "client" "[I", .methodLink RX1 69 yX1_isAddress, .instanceMethod yX1_isAddress, .selects RX1 yX1_isAddress yX1_isAddress, .initialized RX1, .code yX1_isAddress cX1_isAddress 2 (some .boolean), .static yX3_isSector, .initialized RX3, .code yX3_isSector cX3_isSector 1 (some .boolean), .static yX3_placeOf, .code yX3_placeOf cX3_placeOf 1 (some .int), .static yX3_headOf, .code yX3_headOf cX3_headOf 1 (some .int)] ++ wsX10)
def wsX1_init_r1 : List Cond := [Cond.methodLink RX1 3 objectInit, Cond.instanceMethod objectInit, Cond.code objectInit ⟨#[0xb1]⟩ 1 none, Cond.fieldLink RX1 9 "LentSectors$Heads" "limit" "I", Cond.arrayClass .int, Cond.fieldLink RX1 15 "LentSectors$Heads" "ageing" "[I", Cond.fieldLink RX1 19 "LentSectors$Heads" "spares" "[I", Cond.arrayClass .boolean, Cond.fieldLink RX1 22 "LentSectors$Heads" "givenUp" "[Z", Cond.fieldLink RX1 26 "LentSectors$Heads" "wear" "[I", Cond.fieldLink RX1 29 "LentSectors$Heads" "value" "[I", Cond.fieldLink RX1 32 "LentSectors$Heads" "rescuesOf" "[I", Cond.fieldLink RX1 35 "LentSectors$Heads" "server" "[I", Cond.fieldLink RX1 38 "LentSectors$Heads" "client" "[I", Cond.fieldLink RX1 41 "LentSectors$Heads" "arm" "I", Cond.fieldLink RX1 44 "LentSectors$Heads" "steps" "I", Cond.fieldLink RX1 47 "LentSectors$Heads" "rescues" "I", Cond.fieldLink RX1 50 "LentSectors$Heads" "losses" "I", Cond.fieldLink RX1 53 "LentSectors$Heads" "reads" "I", Cond.fieldLink RX1 56 "LentSectors$Heads" "writes" "I", Cond.methodLink RX1 59 yX1_divide, Cond.instanceMethod yX1_divide, Cond.selects RX1 yX1_divide yX1_divide, Cond.initialized RX1]
def wsX1_init_r2 : List Cond := [Cond.code yX1_divide cX1_divide 6 none, Cond.methodLink RX1 69 yX1_isAddress, Cond.instanceMethod yX1_isAddress, Cond.selects RX1 yX1_isAddress yX1_isAddress, Cond.code yX1_isAddress cX1_isAddress 2 (some .boolean), Cond.static yX3_isSector, Cond.initialized RX3, Cond.code yX3_isSector cX3_isSector 1 (some .boolean), Cond.static yX3_placeOf, Cond.code yX3_placeOf cX3_placeOf 1 (some .int), Cond.static yX3_headOf, Cond.code yX3_headOf cX3_headOf 1 (some .int)]
def wsX1_init : List Cond := .code yX1_init cX1_init 2 none :: ((wsX1_init_r1 ++ wsX1_init_r2) ++ wsX10)
def wsX1_takeOver : List Cond := .code yX1_takeOver cX1_takeOver 2 none :: ([.fieldLink RX1 9 "LentSectors$Heads" "limit" "I", .fieldLink RX1 15 "LentSectors$Heads" "ageing" "[I", .methodLink RX1 63 arraycopyName, .native arraycopyName, .static arraycopyName, .initialized "java/lang/System", .fieldLink RX1 19 "LentSectors$Heads" "spares" "[I", .fieldLink RX1 22 "LentSectors$Heads" "givenUp" "[Z", .fieldLink RX1 26 "LentSectors$Heads" "wear" "[I", .fieldLink RX1 29 "LentSectors$Heads" "value" "[I", .fieldLink RX1 32 "LentSectors$Heads" "rescuesOf" "[I", .fieldLink RX1 35 "LentSectors$Heads" "server" "[I", .fieldLink RX1 38 "LentSectors$Heads" "client" "[I", .fieldLink RX1 41 "LentSectors$Heads" "arm" "I", .fieldLink RX1 44 "LentSectors$Heads" "steps" "I", .fieldLink RX1 47 "LentSectors$Heads" "rescues" "I", .fieldLink RX1 50 "LentSectors$Heads" "losses" "I", .fieldLink RX1 53 "LentSectors$Heads" "reads" "I", .fieldLink RX1 56 "LentSectors$Heads" "writes" "I"] ++ wsX10)
def wsX1_isGivenUp : List Cond := .code yX1_isGivenUp cX1_isGivenUp 2 (some .boolean) :: ([.fieldLink RX1 22 "LentSectors$Heads" "givenUp" "[Z"] ++ wsX10)
def wsX1_othersAreGivenUp : List Cond := .code yX1_othersAreGivenUp cX1_othersAreGivenUp 3 (some .boolean) :: ([.fieldLink RX1 22 "LentSectors$Heads" "givenUp" "[Z"] ++ wsX10)
def wsX1_stepsSoFar : List Cond := .code yX1_stepsSoFar cX1_stepsSoFar 1 (some .int) :: ([.fieldLink RX1 44 "LentSectors$Heads" "steps" "I"] ++ wsX10)
def wsX1_isLost : List Cond := .code yX1_isLost cX1_isLost 2 (some .boolean) :: ([.fieldLink RX1 35 "LentSectors$Heads" "server" "[I"] ++ wsX10)
def wsX1_isLongWay : List Cond := .code yX1_isLongWay cX1_isLongWay 2 (some .boolean) :: ([.fieldLink RX1 35 "LentSectors$Heads" "server" "[I", .methodLink RX1 83 yX1_isLost, .instanceMethod yX1_isLost, .selects RX1 yX1_isLost yX1_isLost, .initialized RX1, .code yX1_isLost cX1_isLost 2 (some .boolean)] ++ wsX10)
def wsX1_isGood : List Cond := .code yX1_isGood cX1_isGood 2 (some .boolean) :: ([.fieldLink RX1 26 "LentSectors$Heads" "wear" "[I", .fieldLink RX1 9 "LentSectors$Heads" "limit" "I"] ++ wsX10)
def wsX1_isBad : List Cond := .code yX1_isBad cX1_isBad 2 (some .boolean) :: ([.fieldLink RX1 26 "LentSectors$Heads" "wear" "[I", .fieldLink RX1 9 "LentSectors$Heads" "limit" "I"] ++ wsX10)
def wsX1_gradeOf : List Cond := .code yX1_gradeOf cX1_gradeOf 2 (some .int) :: ([.methodLink RX1 86 yX1_isGood, .instanceMethod yX1_isGood, .selects RX1 yX1_isGood yX1_isGood, .initialized RX1, .code yX1_isGood cX1_isGood 2 (some .boolean), .fieldLink RX1 26 "LentSectors$Heads" "wear" "[I", .fieldLink RX1 9 "LentSectors$Heads" "limit" "I", .methodLink RX1 89 yX1_isBad, .instanceMethod yX1_isBad, .selects RX1 yX1_isBad yX1_isBad, .code yX1_isBad cX1_isBad 2 (some .boolean)] ++ wsX10)
def wsX1_isFree : List Cond := .code yX1_isFree cX1_isFree 4 (some .boolean) :: ([.fieldLink RX1 19 "LentSectors$Heads" "spares" "[I", .fieldLink RX1 38 "LentSectors$Heads" "client" "[I", .fieldLink RX1 22 "LentSectors$Heads" "givenUp" "[Z", .static yX3_headOf, .initialized RX3, .code yX3_headOf cX3_headOf 1 (some .int), .static yX3_placeOf, .code yX3_placeOf cX3_placeOf 1 (some .int), .methodLink RX1 86 yX1_isGood, .instanceMethod yX1_isGood, .selects RX1 yX1_isGood yX1_isGood, .initialized RX1, .code yX1_isGood cX1_isGood 2 (some .boolean), .fieldLink RX1 26 "LentSectors$Heads" "wear" "[I", .fieldLink RX1 9 "LentSectors$Heads" "limit" "I"] ++ wsX10)
def wsX1_freeOf : List Cond := .code yX1_freeOf cX1_freeOf 4 (some .int) :: ([.methodLink RX1 92 yX1_isFree, .instanceMethod yX1_isFree, .selects RX1 yX1_isFree yX1_isFree, .initialized RX1, .code yX1_isFree cX1_isFree 4 (some .boolean), .fieldLink RX1 19 "LentSectors$Heads" "spares" "[I", .fieldLink RX1 38 "LentSectors$Heads" "client" "[I", .fieldLink RX1 22 "LentSectors$Heads" "givenUp" "[Z", .static yX3_headOf, .initialized RX3, .code yX3_headOf cX3_headOf 1 (some .int), .static yX3_placeOf, .code yX3_placeOf cX3_placeOf 1 (some .int), .methodLink RX1 86 yX1_isGood, .instanceMethod yX1_isGood, .selects RX1 yX1_isGood yX1_isGood, .code yX1_isGood cX1_isGood 2 (some .boolean), .fieldLink RX1 26 "LentSectors$Heads" "wear" "[I", .fieldLink RX1 9 "LentSectors$Heads" "limit" "I"] ++ wsX10)
def wsX1_firstFreeOf : List Cond := .code yX1_firstFreeOf cX1_firstFreeOf 3 (some .int) :: ([.methodLink RX1 92 yX1_isFree, .instanceMethod yX1_isFree, .selects RX1 yX1_isFree yX1_isFree, .initialized RX1, .code yX1_isFree cX1_isFree 4 (some .boolean), .fieldLink RX1 19 "LentSectors$Heads" "spares" "[I", .fieldLink RX1 38 "LentSectors$Heads" "client" "[I", .fieldLink RX1 22 "LentSectors$Heads" "givenUp" "[Z", .static yX3_headOf, .initialized RX3, .code yX3_headOf cX3_headOf 1 (some .int), .static yX3_placeOf, .code yX3_placeOf cX3_placeOf 1 (some .int), .methodLink RX1 86 yX1_isGood, .instanceMethod yX1_isGood, .selects RX1 yX1_isGood yX1_isGood, .code yX1_isGood cX1_isGood 2 (some .boolean), .fieldLink RX1 26 "LentSectors$Heads" "wear" "[I", .fieldLink RX1 9 "LentSectors$Heads" "limit" "I"] ++ wsX10)
def wsX1_lendableTo_r1 : List Cond := [Cond.static yX3_headOf, Cond.initialized RX3, Cond.code yX3_headOf cX3_headOf 1 (some .int), Cond.methodLink RX1 95 yX1_firstFreeOf, Cond.instanceMethod yX1_firstFreeOf, Cond.selects RX1 yX1_firstFreeOf yX1_firstFreeOf, Cond.initialized RX1, Cond.code yX1_firstFreeOf cX1_firstFreeOf 3 (some .int), Cond.methodLink RX1 92 yX1_isFree, Cond.instanceMethod yX1_isFree, Cond.selects RX1 yX1_isFree yX1_isFree, Cond.code yX1_isFree cX1_isFree 4 (some .boolean), Cond.fieldLink RX1 19 "LentSectors$Heads" "spares" "[I", Cond.fieldLink RX1 38 "LentSectors$Heads" "client" "[I", Cond.fieldLink RX1 22 "LentSectors$Heads" "givenUp" "[Z", Cond.static yX3_placeOf, Cond.code yX3_placeOf cX3_placeOf 1 (some .int), Cond.methodLink RX1 86 yX1_isGood, Cond.instanceMethod yX1_isGood, Cond.selects RX1 yX1_isGood yX1_isGood, Cond.code yX1_isGood cX1_isGood 2 (some .boolean), Cond.fieldLink RX1 26 "LentSectors$Heads" "wear" "[I", Cond.fieldLink RX1 9 "LentSectors$Heads" "limit" "I", Cond.methodLink RX1 98 yX1_freeOf]
def wsX1_lendableTo_r2 : List Cond := [Cond.instanceMethod yX1_freeOf, Cond.selects RX1 yX1_freeOf yX1_freeOf, Cond.code yX1_freeOf cX1_freeOf 4 (some .int)]
def wsX1_lendableTo : List Cond := .code yX1_lendableTo cX1_lendableTo 7 (some .int) :: ((wsX1_lendableTo_r1 ++ wsX1_lendableTo_r2) ++ wsX10)
def wsX3_stepsBetween : List Cond := .code yX3_stepsBetween cX3_stepsBetween 3 (some .int) :: ([.methodLink RX3 151 Lib.Math.abs.name, .static Lib.Math.abs.name, .initialized "java/lang/Math", .code Lib.Math.abs.name Lib.Math.abs.code 1 (some .int), .methodLink RX3 148 yX3_placeOf, .static yX3_placeOf, .initialized RX3, .code yX3_placeOf cX3_placeOf 1 (some .int), .methodLink RX3 156 yX3_headOf, .static yX3_headOf, .code yX3_headOf cX3_headOf 1 (some .int)])
def wsX1_stepsTo : List Cond := .code yX1_stepsTo cX1_stepsTo 3 (some .int) :: ([.fieldLink RX1 35 "LentSectors$Heads" "server" "[I", .fieldLink RX1 22 "LentSectors$Heads" "givenUp" "[Z", .fieldLink RX1 41 "LentSectors$Heads" "arm" "I", .static yX3_headOf, .initialized RX3, .code yX3_headOf cX3_headOf 1 (some .int), .static yX3_stepsBetween, .code yX3_stepsBetween cX3_stepsBetween 3 (some .int), .methodLink RX3 151 Lib.Math.abs.name, .static Lib.Math.abs.name, .initialized "java/lang/Math", .code Lib.Math.abs.name Lib.Math.abs.code 1 (some .int), .methodLink RX3 148 yX3_placeOf, .static yX3_placeOf, .code yX3_placeOf cX3_placeOf 1 (some .int), .methodLink RX3 156 yX3_headOf] ++ wsX10)
def wsX1_changeLimit : List Cond := .code yX1_changeLimit cX1_changeLimit 3 (some .int) :: ([.fieldLink RX1 9 "LentSectors$Heads" "limit" "I"] ++ wsX10)
def wsX1_goTo : List Cond := .code yX1_goTo cX1_goTo 2 none :: ([.fieldLink RX1 44 "LentSectors$Heads" "steps" "I", .fieldLink RX1 35 "LentSectors$Heads" "server" "[I", .fieldLink RX1 41 "LentSectors$Heads" "arm" "I", .methodLink RX1 145 yX1_stepsTo, .instanceMethod yX1_stepsTo, .selects RX1 yX1_stepsTo yX1_stepsTo, .initialized RX1, .code yX1_stepsTo cX1_stepsTo 3 (some .int), .fieldLink RX1 22 "LentSectors$Heads" "givenUp" "[Z", .static yX3_headOf, .initialized RX3, .code yX3_headOf cX3_headOf 1 (some .int), .static yX3_stepsBetween, .code yX3_stepsBetween cX3_stepsBetween 3 (some .int), .methodLink RX3 151 Lib.Math.abs.name, .static Lib.Math.abs.name, .initialized "java/lang/Math", .code Lib.Math.abs.name Lib.Math.abs.code 1 (some .int), .methodLink RX3 148 yX3_placeOf, .static yX3_placeOf, .code yX3_placeOf cX3_placeOf 1 (some .int), .methodLink RX3 156 yX3_headOf] ++ wsX10)
def wsX1_wearByReading : List Cond := .code yX1_wearByReading cX1_wearByReading 2 none :: ([.fieldLink RX1 26 "LentSectors$Heads" "wear" "[I", .fieldLink RX1 15 "LentSectors$Heads" "ageing" "[I", .static yX3_headOf, .initialized RX3, .code yX3_headOf cX3_headOf 1 (some .int)] ++ wsX10)
def wsX1_release : List Cond := .code yX1_release cX1_release 2 none :: ([.fieldLink RX1 38 "LentSectors$Heads" "client" "[I", .fieldLink RX1 35 "LentSectors$Heads" "server" "[I", .methodLink RX1 83 yX1_isLost, .instanceMethod yX1_isLost, .selects RX1 yX1_isLost yX1_isLost, .initialized RX1, .code yX1_isLost cX1_isLost 2 (some .boolean)] ++ wsX10)
def wsX1_lend : List Cond := .code yX1_lend cX1_lend 3 none :: ([.fieldLink RX1 35 "LentSectors$Heads" "server" "[I", .fieldLink RX1 38 "LentSectors$Heads" "client" "[I", .methodLink RX1 142 yX1_release, .instanceMethod yX1_release, .selects RX1 yX1_release yX1_release, .initialized RX1, .code yX1_release cX1_release 2 none, .methodLink RX1 83 yX1_isLost, .instanceMethod yX1_isLost, .selects RX1 yX1_isLost yX1_isLost, .code yX1_isLost cX1_isLost 2 (some .boolean)] ++ wsX10)
def wsX1_moveTo : List Cond := .code yX1_moveTo cX1_moveTo 2 none :: ([.fieldLink RX1 44 "LentSectors$Heads" "steps" "I", .fieldLink RX1 41 "LentSectors$Heads" "arm" "I", .static yX3_stepsBetween, .initialized RX3, .code yX3_stepsBetween cX3_stepsBetween 3 (some .int), .methodLink RX3 151 Lib.Math.abs.name, .static Lib.Math.abs.name, .initialized "java/lang/Math", .code Lib.Math.abs.name Lib.Math.abs.code 1 (some .int), .methodLink RX3 148 yX3_placeOf, .static yX3_placeOf, .code yX3_placeOf cX3_placeOf 1 (some .int), .methodLink RX3 156 yX3_headOf, .static yX3_headOf, .code yX3_headOf cX3_headOf 1 (some .int)] ++ wsX10)
def wsX1_wearByWriting : List Cond := .code yX1_wearByWriting cX1_wearByWriting 2 none :: ([.fieldLink RX1 26 "LentSectors$Heads" "wear" "[I", .fieldLink RX1 15 "LentSectors$Heads" "ageing" "[I", .static yX3_headOf, .initialized RX3, .code yX3_headOf cX3_headOf 1 (some .int)] ++ wsX10)
def wsX1_lose : List Cond := .code yX1_lose cX1_lose 2 none :: ([.fieldLink RX1 50 "LentSectors$Heads" "losses" "I", .methodLink RX1 142 yX1_release, .instanceMethod yX1_release, .selects RX1 yX1_release yX1_release, .initialized RX1, .code yX1_release cX1_release 2 none, .fieldLink RX1 38 "LentSectors$Heads" "client" "[I", .fieldLink RX1 35 "LentSectors$Heads" "server" "[I", .methodLink RX1 83 yX1_isLost, .instanceMethod yX1_isLost, .selects RX1 yX1_isLost yX1_isLost, .code yX1_isLost cX1_isLost 2 (some .boolean)] ++ wsX10)
def wsX1_lookAt_r1 : List Cond := [Cond.fieldLink RX1 35 "LentSectors$Heads" "server" "[I", Cond.fieldLink RX1 47 "LentSectors$Heads" "rescues" "I", Cond.fieldLink RX1 32 "LentSectors$Heads" "rescuesOf" "[I", Cond.methodLink RX1 86 yX1_isGood, Cond.instanceMethod yX1_isGood, Cond.selects RX1 yX1_isGood yX1_isGood, Cond.initialized RX1, Cond.code yX1_isGood cX1_isGood 2 (some .boolean), Cond.fieldLink RX1 26 "LentSectors$Heads" "wear" "[I", Cond.fieldLink RX1 9 "LentSectors$Heads" "limit" "I", Cond.methodLink RX1 118 yX1_lendableTo, Cond.instanceMethod yX1_lendableTo, Cond.selects RX1 yX1_lendableTo yX1_lendableTo, Cond.code yX1_lendableTo cX1_lendableTo 7 (some .int), Cond.static yX3_headOf, Cond.initialized RX3, Cond.code yX3_headOf cX3_headOf 1 (some .int), Cond.methodLink RX1 95 yX1_firstFreeOf, Cond.instanceMethod yX1_firstFreeOf, Cond.selects RX1 yX1_firstFreeOf yX1_firstFreeOf, Cond.code yX1_firstFreeOf cX1_firstFreeOf 3 (some .int), Cond.methodLink RX1 92 yX1_isFree, Cond.instanceMethod yX1_isFree, Cond.selects RX1 yX1_isFree yX1_isFree]
def wsX1_lookAt_r2 : List Cond := [Cond.code yX1_isFree cX1_isFree 4 (some .boolean), Cond.fieldLink RX1 19 "LentSectors$Heads" "spares" "[I", Cond.fieldLink RX1 38 "LentSectors$Heads" "client" "[I", Cond.fieldLink RX1 22 "LentSectors$Heads" "givenUp" "[Z", Cond.static yX3_placeOf, Cond.code yX3_placeOf cX3_placeOf 1 (some .int), Cond.methodLink RX1 98 yX1_freeOf, Cond.instanceMethod yX1_freeOf, Cond.selects RX1 yX1_freeOf yX1_freeOf, Cond.code yX1_freeOf cX1_freeOf 4 (some .int), Cond.methodLink RX1 121 yX1_lend, Cond.instanceMethod yX1_lend, Cond.selects RX1 yX1_lend yX1_lend, Cond.code yX1_lend cX1_lend 3 none, Cond.methodLink RX1 142 yX1_release, Cond.instanceMethod yX1_release, Cond.selects RX1 yX1_release yX1_release, Cond.code yX1_release cX1_release 2 none, Cond.methodLink RX1 83 yX1_isLost, Cond.instanceMethod yX1_isLost, Cond.selects RX1 yX1_isLost yX1_isLost, Cond.code yX1_isLost cX1_isLost 2 (some .boolean), Cond.methodLink RX1 136 yX1_moveTo, Cond.instanceMethod yX1_moveTo]
def wsX1_lookAt_r3 : List Cond := [Cond.selects RX1 yX1_moveTo yX1_moveTo, Cond.code yX1_moveTo cX1_moveTo 2 none, Cond.fieldLink RX1 44 "LentSectors$Heads" "steps" "I", Cond.fieldLink RX1 41 "LentSectors$Heads" "arm" "I", Cond.static yX3_stepsBetween, Cond.code yX3_stepsBetween cX3_stepsBetween 3 (some .int), Cond.methodLink RX3 151 Lib.Math.abs.name, Cond.static Lib.Math.abs.name, Cond.initialized "java/lang/Math", Cond.code Lib.Math.abs.name Lib.Math.abs.code 1 (some .int), Cond.methodLink RX3 148 yX3_placeOf, Cond.methodLink RX3 156 yX3_headOf, Cond.methodLink RX1 124 yX1_wearByWriting, Cond.instanceMethod yX1_wearByWriting, Cond.selects RX1 yX1_wearByWriting yX1_wearByWriting, Cond.code yX1_wearByWriting cX1_wearByWriting 2 none, Cond.fieldLink RX1 15 "LentSectors$Heads" "ageing" "[I", Cond.methodLink RX1 89 yX1_isBad, Cond.instanceMethod yX1_isBad, Cond.selects RX1 yX1_isBad yX1_isBad, Cond.code yX1_isBad cX1_isBad 2 (some .boolean), Cond.methodLink RX1 139 yX1_lose, Cond.instanceMethod yX1_lose, Cond.selects RX1 yX1_lose yX1_lose]
def wsX1_lookAt_r4 : List Cond := [Cond.code yX1_lose cX1_lose 2 none, Cond.fieldLink RX1 50 "LentSectors$Heads" "losses" "I"]
def wsX1_lookAt : List Cond := .code yX1_lookAt cX1_lookAt 4 none :: ((wsX1_lookAt_r1 ++ (wsX1_lookAt_r2 ++ (wsX1_lookAt_r3 ++ wsX1_lookAt_r4))) ++ wsX10)
def wsX1_readAt_r1 : List Cond := [Cond.fieldLink RX1 35 "LentSectors$Heads" "server" "[I", Cond.fieldLink RX1 53 "LentSectors$Heads" "reads" "I", Cond.fieldLink RX1 29 "LentSectors$Heads" "value" "[I", Cond.methodLink RX1 69 yX1_isAddress, Cond.instanceMethod yX1_isAddress, Cond.selects RX1 yX1_isAddress yX1_isAddress, Cond.initialized RX1, Cond.code yX1_isAddress cX1_isAddress 2 (some .boolean), Cond.fieldLink RX1 19 "LentSectors$Heads" "spares" "[I", Cond.static yX3_isSector, Cond.initialized RX3, Cond.code yX3_isSector cX3_isSector 1 (some .boolean), Cond.static yX3_placeOf, Cond.code yX3_placeOf cX3_placeOf 1 (some .int), Cond.static yX3_headOf, Cond.code yX3_headOf cX3_headOf 1 (some .int), Cond.methodLink RX1 83 yX1_isLost, Cond.instanceMethod yX1_isLost, Cond.selects RX1 yX1_isLost yX1_isLost, Cond.code yX1_isLost cX1_isLost 2 (some .boolean), Cond.methodLink RX1 108 yX1_goTo, Cond.instanceMethod yX1_goTo, Cond.selects RX1 yX1_goTo yX1_goTo, Cond.code yX1_goTo cX1_goTo 2 none]
def wsX1_readAt_r2 : List Cond := [Cond.fieldLink RX1 44 "LentSectors$Heads" "steps" "I", Cond.fieldLink RX1 41 "LentSectors$Heads" "arm" "I", Cond.methodLink RX1 145 yX1_stepsTo, Cond.instanceMethod yX1_stepsTo, Cond.selects RX1 yX1_stepsTo yX1_stepsTo, Cond.code yX1_stepsTo cX1_stepsTo 3 (some .int), Cond.fieldLink RX1 22 "LentSectors$Heads" "givenUp" "[Z", Cond.static yX3_stepsBetween, Cond.code yX3_stepsBetween cX3_stepsBetween 3 (some .int), Cond.methodLink RX3 151 Lib.Math.abs.name, Cond.static Lib.Math.abs.name, Cond.initialized "java/lang/Math", Cond.code Lib.Math.abs.name Lib.Math.abs.code 1 (some .int), Cond.methodLink RX3 148 yX3_placeOf, Cond.methodLink RX3 156 yX3_headOf, Cond.methodLink RX1 112 yX1_wearByReading, Cond.instanceMethod yX1_wearByReading, Cond.selects RX1 yX1_wearByReading yX1_wearByReading, Cond.code yX1_wearByReading cX1_wearByReading 2 none, Cond.fieldLink RX1 26 "LentSectors$Heads" "wear" "[I", Cond.fieldLink RX1 15 "LentSectors$Heads" "ageing" "[I", Cond.methodLink RX1 115 yX1_lookAt, Cond.instanceMethod yX1_lookAt, Cond.selects RX1 yX1_lookAt yX1_lookAt]
def wsX1_readAt_r3 : List Cond := [Cond.code yX1_lookAt cX1_lookAt 4 none, Cond.fieldLink RX1 47 "LentSectors$Heads" "rescues" "I", Cond.fieldLink RX1 32 "LentSectors$Heads" "rescuesOf" "[I", Cond.methodLink RX1 86 yX1_isGood, Cond.instanceMethod yX1_isGood, Cond.selects RX1 yX1_isGood yX1_isGood, Cond.code yX1_isGood cX1_isGood 2 (some .boolean), Cond.fieldLink RX1 9 "LentSectors$Heads" "limit" "I", Cond.methodLink RX1 118 yX1_lendableTo, Cond.instanceMethod yX1_lendableTo, Cond.selects RX1 yX1_lendableTo yX1_lendableTo, Cond.code yX1_lendableTo cX1_lendableTo 7 (some .int), Cond.methodLink RX1 95 yX1_firstFreeOf, Cond.instanceMethod yX1_firstFreeOf, Cond.selects RX1 yX1_firstFreeOf yX1_firstFreeOf, Cond.code yX1_firstFreeOf cX1_firstFreeOf 3 (some .int), Cond.methodLink RX1 92 yX1_isFree, Cond.instanceMethod yX1_isFree, Cond.selects RX1 yX1_isFree yX1_isFree, Cond.code yX1_isFree cX1_isFree 4 (some .boolean), Cond.fieldLink RX1 38 "LentSectors$Heads" "client" "[I", Cond.methodLink RX1 98 yX1_freeOf, Cond.instanceMethod yX1_freeOf, Cond.selects RX1 yX1_freeOf yX1_freeOf]
def wsX1_readAt_r4 : List Cond := [Cond.code yX1_freeOf cX1_freeOf 4 (some .int), Cond.methodLink RX1 121 yX1_lend, Cond.instanceMethod yX1_lend, Cond.selects RX1 yX1_lend yX1_lend, Cond.code yX1_lend cX1_lend 3 none, Cond.methodLink RX1 142 yX1_release, Cond.instanceMethod yX1_release, Cond.selects RX1 yX1_release yX1_release, Cond.code yX1_release cX1_release 2 none, Cond.methodLink RX1 136 yX1_moveTo, Cond.instanceMethod yX1_moveTo, Cond.selects RX1 yX1_moveTo yX1_moveTo, Cond.code yX1_moveTo cX1_moveTo 2 none, Cond.methodLink RX1 124 yX1_wearByWriting, Cond.instanceMethod yX1_wearByWriting, Cond.selects RX1 yX1_wearByWriting yX1_wearByWriting, Cond.code yX1_wearByWriting cX1_wearByWriting 2 none, Cond.methodLink RX1 89 yX1_isBad, Cond.instanceMethod yX1_isBad, Cond.selects RX1 yX1_isBad yX1_isBad, Cond.code yX1_isBad cX1_isBad 2 (some .boolean), Cond.methodLink RX1 139 yX1_lose, Cond.instanceMethod yX1_lose, Cond.selects RX1 yX1_lose yX1_lose]
def wsX1_readAt_r5 : List Cond := [Cond.code yX1_lose cX1_lose 2 none, Cond.fieldLink RX1 50 "LentSectors$Heads" "losses" "I"]
def wsX1_readAt : List Cond := .code yX1_readAt cX1_readAt 2 (some .int) :: ((wsX1_readAt_r1 ++ (wsX1_readAt_r2 ++ (wsX1_readAt_r3 ++ (wsX1_readAt_r4 ++ wsX1_readAt_r5)))) ++ wsX10)
def wsX1_writeAt_r1 : List Cond := [Cond.fieldLink RX1 35 "LentSectors$Heads" "server" "[I", Cond.fieldLink RX1 29 "LentSectors$Heads" "value" "[I", Cond.fieldLink RX1 56 "LentSectors$Heads" "writes" "I", Cond.methodLink RX1 69 yX1_isAddress, Cond.instanceMethod yX1_isAddress, Cond.selects RX1 yX1_isAddress yX1_isAddress, Cond.initialized RX1, Cond.code yX1_isAddress cX1_isAddress 2 (some .boolean), Cond.fieldLink RX1 19 "LentSectors$Heads" "spares" "[I", Cond.static yX3_isSector, Cond.initialized RX3, Cond.code yX3_isSector cX3_isSector 1 (some .boolean), Cond.static yX3_placeOf, Cond.code yX3_placeOf cX3_placeOf 1 (some .int), Cond.static yX3_headOf, Cond.code yX3_headOf cX3_headOf 1 (some .int), Cond.methodLink RX1 83 yX1_isLost, Cond.instanceMethod yX1_isLost, Cond.selects RX1 yX1_isLost yX1_isLost, Cond.code yX1_isLost cX1_isLost 2 (some .boolean), Cond.methodLink RX1 118 yX1_lendableTo, Cond.instanceMethod yX1_lendableTo, Cond.selects RX1 yX1_lendableTo yX1_lendableTo, Cond.code yX1_lendableTo cX1_lendableTo 7 (some .int)]
def wsX1_writeAt_r2 : List Cond := [Cond.methodLink RX1 95 yX1_firstFreeOf, Cond.instanceMethod yX1_firstFreeOf, Cond.selects RX1 yX1_firstFreeOf yX1_firstFreeOf, Cond.code yX1_firstFreeOf cX1_firstFreeOf 3 (some .int), Cond.methodLink RX1 92 yX1_isFree, Cond.instanceMethod yX1_isFree, Cond.selects RX1 yX1_isFree yX1_isFree, Cond.code yX1_isFree cX1_isFree 4 (some .boolean), Cond.fieldLink RX1 38 "LentSectors$Heads" "client" "[I", Cond.fieldLink RX1 22 "LentSectors$Heads" "givenUp" "[Z", Cond.methodLink RX1 86 yX1_isGood, Cond.instanceMethod yX1_isGood, Cond.selects RX1 yX1_isGood yX1_isGood, Cond.code yX1_isGood cX1_isGood 2 (some .boolean), Cond.fieldLink RX1 26 "LentSectors$Heads" "wear" "[I", Cond.fieldLink RX1 9 "LentSectors$Heads" "limit" "I", Cond.methodLink RX1 98 yX1_freeOf, Cond.instanceMethod yX1_freeOf, Cond.selects RX1 yX1_freeOf yX1_freeOf, Cond.code yX1_freeOf cX1_freeOf 4 (some .int), Cond.methodLink RX1 121 yX1_lend, Cond.instanceMethod yX1_lend, Cond.selects RX1 yX1_lend yX1_lend, Cond.code yX1_lend cX1_lend 3 none]
def wsX1_writeAt_r3 : List Cond := [Cond.methodLink RX1 142 yX1_release, Cond.instanceMethod yX1_release, Cond.selects RX1 yX1_release yX1_release, Cond.code yX1_release cX1_release 2 none, Cond.methodLink RX1 108 yX1_goTo, Cond.instanceMethod yX1_goTo, Cond.selects RX1 yX1_goTo yX1_goTo, Cond.code yX1_goTo cX1_goTo 2 none, Cond.fieldLink RX1 44 "LentSectors$Heads" "steps" "I", Cond.fieldLink RX1 41 "LentSectors$Heads" "arm" "I", Cond.methodLink RX1 145 yX1_stepsTo, Cond.instanceMethod yX1_stepsTo, Cond.selects RX1 yX1_stepsTo yX1_stepsTo, Cond.code yX1_stepsTo cX1_stepsTo 3 (some .int), Cond.static yX3_stepsBetween, Cond.code yX3_stepsBetween cX3_stepsBetween 3 (some .int), Cond.methodLink RX3 151 Lib.Math.abs.name, Cond.static Lib.Math.abs.name, Cond.initialized "java/lang/Math", Cond.code Lib.Math.abs.name Lib.Math.abs.code 1 (some .int), Cond.methodLink RX3 148 yX3_placeOf, Cond.methodLink RX3 156 yX3_headOf, Cond.methodLink RX1 124 yX1_wearByWriting, Cond.instanceMethod yX1_wearByWriting]
def wsX1_writeAt_r4 : List Cond := [Cond.selects RX1 yX1_wearByWriting yX1_wearByWriting, Cond.code yX1_wearByWriting cX1_wearByWriting 2 none, Cond.fieldLink RX1 15 "LentSectors$Heads" "ageing" "[I", Cond.methodLink RX1 115 yX1_lookAt, Cond.instanceMethod yX1_lookAt, Cond.selects RX1 yX1_lookAt yX1_lookAt, Cond.code yX1_lookAt cX1_lookAt 4 none, Cond.fieldLink RX1 47 "LentSectors$Heads" "rescues" "I", Cond.fieldLink RX1 32 "LentSectors$Heads" "rescuesOf" "[I", Cond.methodLink RX1 136 yX1_moveTo, Cond.instanceMethod yX1_moveTo, Cond.selects RX1 yX1_moveTo yX1_moveTo, Cond.code yX1_moveTo cX1_moveTo 2 none, Cond.methodLink RX1 89 yX1_isBad, Cond.instanceMethod yX1_isBad, Cond.selects RX1 yX1_isBad yX1_isBad, Cond.code yX1_isBad cX1_isBad 2 (some .boolean), Cond.methodLink RX1 139 yX1_lose, Cond.instanceMethod yX1_lose, Cond.selects RX1 yX1_lose yX1_lose, Cond.code yX1_lose cX1_lose 2 none, Cond.fieldLink RX1 50 "LentSectors$Heads" "losses" "I"]
def wsX1_writeAt : List Cond := .code yX1_writeAt cX1_writeAt 4 (some .int) :: ((wsX1_writeAt_r1 ++ (wsX1_writeAt_r2 ++ (wsX1_writeAt_r3 ++ wsX1_writeAt_r4))) ++ wsX10)
def wsX1_copyRow_r1 : List Cond := [Cond.methodLink RX1 127 yX1_readAt, Cond.instanceMethod yX1_readAt, Cond.selects RX1 yX1_readAt yX1_readAt, Cond.initialized RX1, Cond.code yX1_readAt cX1_readAt 2 (some .int), Cond.fieldLink RX1 35 "LentSectors$Heads" "server" "[I", Cond.fieldLink RX1 53 "LentSectors$Heads" "reads" "I", Cond.fieldLink RX1 29 "LentSectors$Heads" "value" "[I", Cond.methodLink RX1 69 yX1_isAddress, Cond.instanceMethod yX1_isAddress, Cond.selects RX1 yX1_isAddress yX1_isAddress, Cond.code yX1_isAddress cX1_isAddress 2 (some .boolean), Cond.fieldLink RX1 19 "LentSectors$Heads" "spares" "[I", Cond.static yX3_isSector, Cond.initialized RX3, Cond.code yX3_isSector cX3_isSector 1 (some .boolean), Cond.static yX3_placeOf, Cond.code yX3_placeOf cX3_placeOf 1 (some .int), Cond.static yX3_headOf, Cond.code yX3_headOf cX3_headOf 1 (some .int), Cond.methodLink RX1 83 yX1_isLost, Cond.instanceMethod yX1_isLost, Cond.selects RX1 yX1_isLost yX1_isLost, Cond.code yX1_isLost cX1_isLost 2 (some .boolean)]
def wsX1_copyRow_r2 : List Cond := [Cond.methodLink RX1 108 yX1_goTo, Cond.instanceMethod yX1_goTo, Cond.selects RX1 yX1_goTo yX1_goTo, Cond.code yX1_goTo cX1_goTo 2 none, Cond.fieldLink RX1 44 "LentSectors$Heads" "steps" "I", Cond.fieldLink RX1 41 "LentSectors$Heads" "arm" "I", Cond.methodLink RX1 145 yX1_stepsTo, Cond.instanceMethod yX1_stepsTo, Cond.selects RX1 yX1_stepsTo yX1_stepsTo, Cond.code yX1_stepsTo cX1_stepsTo 3 (some .int), Cond.fieldLink RX1 22 "LentSectors$Heads" "givenUp" "[Z", Cond.static yX3_stepsBetween, Cond.code yX3_stepsBetween cX3_stepsBetween 3 (some .int), Cond.methodLink RX3 151 Lib.Math.abs.name, Cond.static Lib.Math.abs.name, Cond.initialized "java/lang/Math", Cond.code Lib.Math.abs.name Lib.Math.abs.code 1 (some .int), Cond.methodLink RX3 148 yX3_placeOf, Cond.methodLink RX3 156 yX3_headOf, Cond.methodLink RX1 112 yX1_wearByReading, Cond.instanceMethod yX1_wearByReading, Cond.selects RX1 yX1_wearByReading yX1_wearByReading, Cond.code yX1_wearByReading cX1_wearByReading 2 none, Cond.fieldLink RX1 26 "LentSectors$Heads" "wear" "[I"]
def wsX1_copyRow_r3 : List Cond := [Cond.fieldLink RX1 15 "LentSectors$Heads" "ageing" "[I", Cond.methodLink RX1 115 yX1_lookAt, Cond.instanceMethod yX1_lookAt, Cond.selects RX1 yX1_lookAt yX1_lookAt, Cond.code yX1_lookAt cX1_lookAt 4 none, Cond.fieldLink RX1 47 "LentSectors$Heads" "rescues" "I", Cond.fieldLink RX1 32 "LentSectors$Heads" "rescuesOf" "[I", Cond.methodLink RX1 86 yX1_isGood, Cond.instanceMethod yX1_isGood, Cond.selects RX1 yX1_isGood yX1_isGood, Cond.code yX1_isGood cX1_isGood 2 (some .boolean), Cond.fieldLink RX1 9 "LentSectors$Heads" "limit" "I", Cond.methodLink RX1 118 yX1_lendableTo, Cond.instanceMethod yX1_lendableTo, Cond.selects RX1 yX1_lendableTo yX1_lendableTo, Cond.code yX1_lendableTo cX1_lendableTo 7 (some .int), Cond.methodLink RX1 95 yX1_firstFreeOf, Cond.instanceMethod yX1_firstFreeOf, Cond.selects RX1 yX1_firstFreeOf yX1_firstFreeOf, Cond.code yX1_firstFreeOf cX1_firstFreeOf 3 (some .int), Cond.methodLink RX1 92 yX1_isFree, Cond.instanceMethod yX1_isFree, Cond.selects RX1 yX1_isFree yX1_isFree, Cond.code yX1_isFree cX1_isFree 4 (some .boolean)]
def wsX1_copyRow_r4 : List Cond := [Cond.fieldLink RX1 38 "LentSectors$Heads" "client" "[I", Cond.methodLink RX1 98 yX1_freeOf, Cond.instanceMethod yX1_freeOf, Cond.selects RX1 yX1_freeOf yX1_freeOf, Cond.code yX1_freeOf cX1_freeOf 4 (some .int), Cond.methodLink RX1 121 yX1_lend, Cond.instanceMethod yX1_lend, Cond.selects RX1 yX1_lend yX1_lend, Cond.code yX1_lend cX1_lend 3 none, Cond.methodLink RX1 142 yX1_release, Cond.instanceMethod yX1_release, Cond.selects RX1 yX1_release yX1_release, Cond.code yX1_release cX1_release 2 none, Cond.methodLink RX1 136 yX1_moveTo, Cond.instanceMethod yX1_moveTo, Cond.selects RX1 yX1_moveTo yX1_moveTo, Cond.code yX1_moveTo cX1_moveTo 2 none, Cond.methodLink RX1 124 yX1_wearByWriting, Cond.instanceMethod yX1_wearByWriting, Cond.selects RX1 yX1_wearByWriting yX1_wearByWriting, Cond.code yX1_wearByWriting cX1_wearByWriting 2 none, Cond.methodLink RX1 89 yX1_isBad, Cond.instanceMethod yX1_isBad, Cond.selects RX1 yX1_isBad yX1_isBad]
def wsX1_copyRow_r5 : List Cond := [Cond.code yX1_isBad cX1_isBad 2 (some .boolean), Cond.methodLink RX1 139 yX1_lose, Cond.instanceMethod yX1_lose, Cond.selects RX1 yX1_lose yX1_lose, Cond.code yX1_lose cX1_lose 2 none, Cond.fieldLink RX1 50 "LentSectors$Heads" "losses" "I", Cond.methodLink RX1 130 yX1_writeAt, Cond.instanceMethod yX1_writeAt, Cond.selects RX1 yX1_writeAt yX1_writeAt, Cond.code yX1_writeAt cX1_writeAt 4 (some .int), Cond.fieldLink RX1 56 "LentSectors$Heads" "writes" "I"]
def wsX1_copyRow : List Cond := .code yX1_copyRow cX1_copyRow 6 (some .int) :: ((wsX1_copyRow_r1 ++ (wsX1_copyRow_r2 ++ (wsX1_copyRow_r3 ++ (wsX1_copyRow_r4 ++ wsX1_copyRow_r5)))) ++ wsX10)
def wsX1_lostOf : List Cond := .code yX1_lostOf cX1_lostOf 4 (some .int) :: ([.fieldLink RX1 19 "LentSectors$Heads" "spares" "[I", .methodLink RX1 83 yX1_isLost, .instanceMethod yX1_isLost, .selects RX1 yX1_isLost yX1_isLost, .initialized RX1, .code yX1_isLost cX1_isLost 2 (some .boolean), .fieldLink RX1 35 "LentSectors$Heads" "server" "[I"] ++ wsX10)
def wsX1_testHead_r1 : List Cond := [Cond.fieldLink RX1 19 "LentSectors$Heads" "spares" "[I", Cond.fieldLink RX1 47 "LentSectors$Heads" "rescues" "I", Cond.methodLink RX1 133 yX1_lostOf, Cond.instanceMethod yX1_lostOf, Cond.selects RX1 yX1_lostOf yX1_lostOf, Cond.initialized RX1, Cond.code yX1_lostOf cX1_lostOf 4 (some .int), Cond.methodLink RX1 83 yX1_isLost, Cond.instanceMethod yX1_isLost, Cond.selects RX1 yX1_isLost yX1_isLost, Cond.code yX1_isLost cX1_isLost 2 (some .boolean), Cond.fieldLink RX1 35 "LentSectors$Heads" "server" "[I", Cond.methodLink RX1 127 yX1_readAt, Cond.instanceMethod yX1_readAt, Cond.selects RX1 yX1_readAt yX1_readAt, Cond.code yX1_readAt cX1_readAt 2 (some .int), Cond.fieldLink RX1 53 "LentSectors$Heads" "reads" "I", Cond.fieldLink RX1 29 "LentSectors$Heads" "value" "[I", Cond.methodLink RX1 69 yX1_isAddress, Cond.instanceMethod yX1_isAddress, Cond.selects RX1 yX1_isAddress yX1_isAddress, Cond.code yX1_isAddress cX1_isAddress 2 (some .boolean), Cond.static yX3_isSector, Cond.initialized RX3]
def wsX1_testHead_r2 : List Cond := [Cond.code yX3_isSector cX3_isSector 1 (some .boolean), Cond.static yX3_placeOf, Cond.code yX3_placeOf cX3_placeOf 1 (some .int), Cond.static yX3_headOf, Cond.code yX3_headOf cX3_headOf 1 (some .int), Cond.methodLink RX1 108 yX1_goTo, Cond.instanceMethod yX1_goTo, Cond.selects RX1 yX1_goTo yX1_goTo, Cond.code yX1_goTo cX1_goTo 2 none, Cond.fieldLink RX1 44 "LentSectors$Heads" "steps" "I", Cond.fieldLink RX1 41 "LentSectors$Heads" "arm" "I", Cond.methodLink RX1 145 yX1_stepsTo, Cond.instanceMethod yX1_stepsTo, Cond.selects RX1 yX1_stepsTo yX1_stepsTo, Cond.code yX1_stepsTo cX1_stepsTo 3 (some .int), Cond.fieldLink RX1 22 "LentSectors$Heads" "givenUp" "[Z", Cond.static yX3_stepsBetween, Cond.code yX3_stepsBetween cX3_stepsBetween 3 (some .int), Cond.methodLink RX3 151 Lib.Math.abs.name, Cond.static Lib.Math.abs.name, Cond.initialized "java/lang/Math", Cond.code Lib.Math.abs.name Lib.Math.abs.code 1 (some .int), Cond.methodLink RX3 148 yX3_placeOf, Cond.methodLink RX3 156 yX3_headOf]
def wsX1_testHead_r3 : List Cond := [Cond.methodLink RX1 112 yX1_wearByReading, Cond.instanceMethod yX1_wearByReading, Cond.selects RX1 yX1_wearByReading yX1_wearByReading, Cond.code yX1_wearByReading cX1_wearByReading 2 none, Cond.fieldLink RX1 26 "LentSectors$Heads" "wear" "[I", Cond.fieldLink RX1 15 "LentSectors$Heads" "ageing" "[I", Cond.methodLink RX1 115 yX1_lookAt, Cond.instanceMethod yX1_lookAt, Cond.selects RX1 yX1_lookAt yX1_lookAt, Cond.code yX1_lookAt cX1_lookAt 4 none, Cond.fieldLink RX1 32 "LentSectors$Heads" "rescuesOf" "[I", Cond.methodLink RX1 86 yX1_isGood, Cond.instanceMethod yX1_isGood, Cond.selects RX1 yX1_isGood yX1_isGood, Cond.code yX1_isGood cX1_isGood 2 (some .boolean), Cond.fieldLink RX1 9 "LentSectors$Heads" "limit" "I", Cond.methodLink RX1 118 yX1_lendableTo, Cond.instanceMethod yX1_lendableTo, Cond.selects RX1 yX1_lendableTo yX1_lendableTo, Cond.code yX1_lendableTo cX1_lendableTo 7 (some .int), Cond.methodLink RX1 95 yX1_firstFreeOf, Cond.instanceMethod yX1_firstFreeOf, Cond.selects RX1 yX1_firstFreeOf yX1_firstFreeOf, Cond.code yX1_firstFreeOf cX1_firstFreeOf 3 (some .int)]
def wsX1_testHead_r4 : List Cond := [Cond.methodLink RX1 92 yX1_isFree, Cond.instanceMethod yX1_isFree, Cond.selects RX1 yX1_isFree yX1_isFree, Cond.code yX1_isFree cX1_isFree 4 (some .boolean), Cond.fieldLink RX1 38 "LentSectors$Heads" "client" "[I", Cond.methodLink RX1 98 yX1_freeOf, Cond.instanceMethod yX1_freeOf, Cond.selects RX1 yX1_freeOf yX1_freeOf, Cond.code yX1_freeOf cX1_freeOf 4 (some .int), Cond.methodLink RX1 121 yX1_lend, Cond.instanceMethod yX1_lend, Cond.selects RX1 yX1_lend yX1_lend, Cond.code yX1_lend cX1_lend 3 none, Cond.methodLink RX1 142 yX1_release, Cond.instanceMethod yX1_release, Cond.selects RX1 yX1_release yX1_release, Cond.code yX1_release cX1_release 2 none, Cond.methodLink RX1 136 yX1_moveTo, Cond.instanceMethod yX1_moveTo, Cond.selects RX1 yX1_moveTo yX1_moveTo, Cond.code yX1_moveTo cX1_moveTo 2 none, Cond.methodLink RX1 124 yX1_wearByWriting, Cond.instanceMethod yX1_wearByWriting, Cond.selects RX1 yX1_wearByWriting yX1_wearByWriting]
def wsX1_testHead_r5 : List Cond := [Cond.code yX1_wearByWriting cX1_wearByWriting 2 none, Cond.methodLink RX1 89 yX1_isBad, Cond.instanceMethod yX1_isBad, Cond.selects RX1 yX1_isBad yX1_isBad, Cond.code yX1_isBad cX1_isBad 2 (some .boolean), Cond.methodLink RX1 139 yX1_lose, Cond.instanceMethod yX1_lose, Cond.selects RX1 yX1_lose yX1_lose, Cond.code yX1_lose cX1_lose 2 none, Cond.fieldLink RX1 50 "LentSectors$Heads" "losses" "I"]
def wsX1_testHead : List Cond := .code yX1_testHead cX1_testHead 4 (some .int) :: ((wsX1_testHead_r1 ++ (wsX1_testHead_r2 ++ (wsX1_testHead_r3 ++ (wsX1_testHead_r4 ++ wsX1_testHead_r5)))) ++ wsX10)
def wsX1_giveBackAt_r1 : List Cond := [Cond.fieldLink RX1 22 "LentSectors$Heads" "givenUp" "[Z", Cond.fieldLink RX1 35 "LentSectors$Heads" "server" "[I", Cond.methodLink RX1 69 yX1_isAddress, Cond.instanceMethod yX1_isAddress, Cond.selects RX1 yX1_isAddress yX1_isAddress, Cond.initialized RX1, Cond.code yX1_isAddress cX1_isAddress 2 (some .boolean), Cond.fieldLink RX1 19 "LentSectors$Heads" "spares" "[I", Cond.static yX3_isSector, Cond.initialized RX3, Cond.code yX3_isSector cX3_isSector 1 (some .boolean), Cond.static yX3_placeOf, Cond.code yX3_placeOf cX3_placeOf 1 (some .int), Cond.static yX3_headOf, Cond.code yX3_headOf cX3_headOf 1 (some .int), Cond.methodLink RX1 148 yX1_isLongWay, Cond.instanceMethod yX1_isLongWay, Cond.selects RX1 yX1_isLongWay yX1_isLongWay, Cond.code yX1_isLongWay cX1_isLongWay 2 (some .boolean), Cond.methodLink RX1 83 yX1_isLost, Cond.instanceMethod yX1_isLost, Cond.selects RX1 yX1_isLost yX1_isLost, Cond.code yX1_isLost cX1_isLost 2 (some .boolean), Cond.methodLink RX1 86 yX1_isGood]
def wsX1_giveBackAt_r2 : List Cond := [Cond.instanceMethod yX1_isGood, Cond.selects RX1 yX1_isGood yX1_isGood, Cond.code yX1_isGood cX1_isGood 2 (some .boolean), Cond.fieldLink RX1 26 "LentSectors$Heads" "wear" "[I", Cond.fieldLink RX1 9 "LentSectors$Heads" "limit" "I", Cond.methodLink RX1 108 yX1_goTo, Cond.instanceMethod yX1_goTo, Cond.selects RX1 yX1_goTo yX1_goTo, Cond.code yX1_goTo cX1_goTo 2 none, Cond.fieldLink RX1 44 "LentSectors$Heads" "steps" "I", Cond.fieldLink RX1 41 "LentSectors$Heads" "arm" "I", Cond.methodLink RX1 145 yX1_stepsTo, Cond.instanceMethod yX1_stepsTo, Cond.selects RX1 yX1_stepsTo yX1_stepsTo, Cond.code yX1_stepsTo cX1_stepsTo 3 (some .int), Cond.static yX3_stepsBetween, Cond.code yX3_stepsBetween cX3_stepsBetween 3 (some .int), Cond.methodLink RX3 151 Lib.Math.abs.name, Cond.static Lib.Math.abs.name, Cond.initialized "java/lang/Math", Cond.code Lib.Math.abs.name Lib.Math.abs.code 1 (some .int), Cond.methodLink RX3 148 yX3_placeOf, Cond.methodLink RX3 156 yX3_headOf, Cond.methodLink RX1 136 yX1_moveTo]
def wsX1_giveBackAt_r3 : List Cond := [Cond.instanceMethod yX1_moveTo, Cond.selects RX1 yX1_moveTo yX1_moveTo, Cond.code yX1_moveTo cX1_moveTo 2 none, Cond.methodLink RX1 124 yX1_wearByWriting, Cond.instanceMethod yX1_wearByWriting, Cond.selects RX1 yX1_wearByWriting yX1_wearByWriting, Cond.code yX1_wearByWriting cX1_wearByWriting 2 none, Cond.fieldLink RX1 15 "LentSectors$Heads" "ageing" "[I", Cond.methodLink RX1 121 yX1_lend, Cond.instanceMethod yX1_lend, Cond.selects RX1 yX1_lend yX1_lend, Cond.code yX1_lend cX1_lend 3 none, Cond.fieldLink RX1 38 "LentSectors$Heads" "client" "[I", Cond.methodLink RX1 142 yX1_release, Cond.instanceMethod yX1_release, Cond.selects RX1 yX1_release yX1_release, Cond.code yX1_release cX1_release 2 none]
def wsX1_giveBackAt : List Cond := .code yX1_giveBackAt cX1_giveBackAt 3 (some .int) :: ((wsX1_giveBackAt_r1 ++ (wsX1_giveBackAt_r2 ++ wsX1_giveBackAt_r3)) ++ wsX10)
def wsX1_moveAway_r1 : List Cond := [Cond.methodLink RX1 118 yX1_lendableTo, Cond.instanceMethod yX1_lendableTo, Cond.selects RX1 yX1_lendableTo yX1_lendableTo, Cond.initialized RX1, Cond.code yX1_lendableTo cX1_lendableTo 7 (some .int), Cond.static yX3_headOf, Cond.initialized RX3, Cond.code yX3_headOf cX3_headOf 1 (some .int), Cond.methodLink RX1 95 yX1_firstFreeOf, Cond.instanceMethod yX1_firstFreeOf, Cond.selects RX1 yX1_firstFreeOf yX1_firstFreeOf, Cond.code yX1_firstFreeOf cX1_firstFreeOf 3 (some .int), Cond.methodLink RX1 92 yX1_isFree, Cond.instanceMethod yX1_isFree, Cond.selects RX1 yX1_isFree yX1_isFree, Cond.code yX1_isFree cX1_isFree 4 (some .boolean), Cond.fieldLink RX1 19 "LentSectors$Heads" "spares" "[I", Cond.fieldLink RX1 38 "LentSectors$Heads" "client" "[I", Cond.fieldLink RX1 22 "LentSectors$Heads" "givenUp" "[Z", Cond.static yX3_placeOf, Cond.code yX3_placeOf cX3_placeOf 1 (some .int), Cond.methodLink RX1 86 yX1_isGood, Cond.instanceMethod yX1_isGood, Cond.selects RX1 yX1_isGood yX1_isGood]
def wsX1_moveAway_r2 : List Cond := [Cond.code yX1_isGood cX1_isGood 2 (some .boolean), Cond.fieldLink RX1 26 "LentSectors$Heads" "wear" "[I", Cond.fieldLink RX1 9 "LentSectors$Heads" "limit" "I", Cond.methodLink RX1 98 yX1_freeOf, Cond.instanceMethod yX1_freeOf, Cond.selects RX1 yX1_freeOf yX1_freeOf, Cond.code yX1_freeOf cX1_freeOf 4 (some .int), Cond.methodLink RX1 139 yX1_lose, Cond.instanceMethod yX1_lose, Cond.selects RX1 yX1_lose yX1_lose, Cond.code yX1_lose cX1_lose 2 none, Cond.fieldLink RX1 50 "LentSectors$Heads" "losses" "I", Cond.methodLink RX1 142 yX1_release, Cond.instanceMethod yX1_release, Cond.selects RX1 yX1_release yX1_release, Cond.code yX1_release cX1_release 2 none, Cond.fieldLink RX1 35 "LentSectors$Heads" "server" "[I", Cond.methodLink RX1 83 yX1_isLost, Cond.instanceMethod yX1_isLost, Cond.selects RX1 yX1_isLost yX1_isLost, Cond.code yX1_isLost cX1_isLost 2 (some .boolean), Cond.methodLink RX1 121 yX1_lend, Cond.instanceMethod yX1_lend, Cond.selects RX1 yX1_lend yX1_lend]
def wsX1_moveAway_r3 : List Cond := [Cond.code yX1_lend cX1_lend 3 none, Cond.methodLink RX1 124 yX1_wearByWriting, Cond.instanceMethod yX1_wearByWriting, Cond.selects RX1 yX1_wearByWriting yX1_wearByWriting, Cond.code yX1_wearByWriting cX1_wearByWriting 2 none, Cond.fieldLink RX1 15 "LentSectors$Heads" "ageing" "[I"]
def wsX1_moveAway : List Cond := .code yX1_moveAway cX1_moveAway 3 none :: ((wsX1_moveAway_r1 ++ (wsX1_moveAway_r2 ++ wsX1_moveAway_r3)) ++ wsX10)
def wsX1_vacate_r1 : List Cond := [Cond.fieldLink RX1 50 "LentSectors$Heads" "losses" "I", Cond.fieldLink RX1 22 "LentSectors$Heads" "givenUp" "[Z", Cond.fieldLink RX1 35 "LentSectors$Heads" "server" "[I", Cond.methodLink RX1 69 yX1_isAddress, Cond.instanceMethod yX1_isAddress, Cond.selects RX1 yX1_isAddress yX1_isAddress, Cond.initialized RX1, Cond.code yX1_isAddress cX1_isAddress 2 (some .boolean), Cond.fieldLink RX1 19 "LentSectors$Heads" "spares" "[I", Cond.static yX3_isSector, Cond.initialized RX3, Cond.code yX3_isSector cX3_isSector 1 (some .boolean), Cond.static yX3_placeOf, Cond.code yX3_placeOf cX3_placeOf 1 (some .int), Cond.static yX3_headOf, Cond.code yX3_headOf cX3_headOf 1 (some .int), Cond.methodLink RX1 83 yX1_isLost, Cond.instanceMethod yX1_isLost, Cond.selects RX1 yX1_isLost yX1_isLost, Cond.code yX1_isLost cX1_isLost 2 (some .boolean), Cond.methodLink RX1 151 yX1_moveAway, Cond.instanceMethod yX1_moveAway, Cond.selects RX1 yX1_moveAway yX1_moveAway, Cond.code yX1_moveAway cX1_moveAway 3 none]
def wsX1_vacate_r2 : List Cond := [Cond.methodLink RX1 118 yX1_lendableTo, Cond.instanceMethod yX1_lendableTo, Cond.selects RX1 yX1_lendableTo yX1_lendableTo, Cond.code yX1_lendableTo cX1_lendableTo 7 (some .int), Cond.methodLink RX1 95 yX1_firstFreeOf, Cond.instanceMethod yX1_firstFreeOf, Cond.selects RX1 yX1_firstFreeOf yX1_firstFreeOf, Cond.code yX1_firstFreeOf cX1_firstFreeOf 3 (some .int), Cond.methodLink RX1 92 yX1_isFree, Cond.instanceMethod yX1_isFree, Cond.selects RX1 yX1_isFree yX1_isFree, Cond.code yX1_isFree cX1_isFree 4 (some .boolean), Cond.fieldLink RX1 38 "LentSectors$Heads" "client" "[I", Cond.methodLink RX1 86 yX1_isGood, Cond.instanceMethod yX1_isGood, Cond.selects RX1 yX1_isGood yX1_isGood, Cond.code yX1_isGood cX1_isGood 2 (some .boolean), Cond.fieldLink RX1 26 "LentSectors$Heads" "wear" "[I", Cond.fieldLink RX1 9 "LentSectors$Heads" "limit" "I", Cond.methodLink RX1 98 yX1_freeOf, Cond.instanceMethod yX1_freeOf, Cond.selects RX1 yX1_freeOf yX1_freeOf, Cond.code yX1_freeOf cX1_freeOf 4 (some .int), Cond.methodLink RX1 139 yX1_lose]
def wsX1_vacate_r3 : List Cond := [Cond.instanceMethod yX1_lose, Cond.selects RX1 yX1_lose yX1_lose, Cond.code yX1_lose cX1_lose 2 none, Cond.methodLink RX1 142 yX1_release, Cond.instanceMethod yX1_release, Cond.selects RX1 yX1_release yX1_release, Cond.code yX1_release cX1_release 2 none, Cond.methodLink RX1 121 yX1_lend, Cond.instanceMethod yX1_lend, Cond.selects RX1 yX1_lend yX1_lend, Cond.code yX1_lend cX1_lend 3 none, Cond.methodLink RX1 124 yX1_wearByWriting, Cond.instanceMethod yX1_wearByWriting, Cond.selects RX1 yX1_wearByWriting yX1_wearByWriting, Cond.code yX1_wearByWriting cX1_wearByWriting 2 none, Cond.fieldLink RX1 15 "LentSectors$Heads" "ageing" "[I"]
def wsX1_vacate : List Cond := .code yX1_vacate cX1_vacate 4 (some .int) :: ((wsX1_vacate_r1 ++ (wsX1_vacate_r2 ++ wsX1_vacate_r3)) ++ wsX10)
def wsX1_tellAddress_r1 : List Cond := [Cond.fieldLink RX1 29 "LentSectors$Heads" "value" "[I", Cond.fieldLink RX1 35 "LentSectors$Heads" "server" "[I", Cond.fieldLink RX1 32 "LentSectors$Heads" "rescuesOf" "[I", Cond.methodLink RX1 83 yX1_isLost, Cond.instanceMethod yX1_isLost, Cond.selects RX1 yX1_isLost yX1_isLost, Cond.initialized RX1, Cond.code yX1_isLost cX1_isLost 2 (some .boolean), Cond.methodLink RX1 148 yX1_isLongWay, Cond.instanceMethod yX1_isLongWay, Cond.selects RX1 yX1_isLongWay yX1_isLongWay, Cond.code yX1_isLongWay cX1_isLongWay 2 (some .boolean), Cond.methodLink RX1 118 yX1_lendableTo, Cond.instanceMethod yX1_lendableTo, Cond.selects RX1 yX1_lendableTo yX1_lendableTo, Cond.code yX1_lendableTo cX1_lendableTo 7 (some .int), Cond.static yX3_headOf, Cond.initialized RX3, Cond.code yX3_headOf cX3_headOf 1 (some .int), Cond.methodLink RX1 95 yX1_firstFreeOf, Cond.instanceMethod yX1_firstFreeOf, Cond.selects RX1 yX1_firstFreeOf yX1_firstFreeOf, Cond.code yX1_firstFreeOf cX1_firstFreeOf 3 (some .int), Cond.methodLink RX1 92 yX1_isFree]
def wsX1_tellAddress_r2 : List Cond := [Cond.instanceMethod yX1_isFree, Cond.selects RX1 yX1_isFree yX1_isFree, Cond.code yX1_isFree cX1_isFree 4 (some .boolean), Cond.fieldLink RX1 19 "LentSectors$Heads" "spares" "[I", Cond.fieldLink RX1 38 "LentSectors$Heads" "client" "[I", Cond.fieldLink RX1 22 "LentSectors$Heads" "givenUp" "[Z", Cond.static yX3_placeOf, Cond.code yX3_placeOf cX3_placeOf 1 (some .int), Cond.methodLink RX1 86 yX1_isGood, Cond.instanceMethod yX1_isGood, Cond.selects RX1 yX1_isGood yX1_isGood, Cond.code yX1_isGood cX1_isGood 2 (some .boolean), Cond.fieldLink RX1 26 "LentSectors$Heads" "wear" "[I", Cond.fieldLink RX1 9 "LentSectors$Heads" "limit" "I", Cond.methodLink RX1 98 yX1_freeOf, Cond.instanceMethod yX1_freeOf, Cond.selects RX1 yX1_freeOf yX1_freeOf, Cond.code yX1_freeOf cX1_freeOf 4 (some .int), Cond.methodLink RX1 145 yX1_stepsTo, Cond.instanceMethod yX1_stepsTo, Cond.selects RX1 yX1_stepsTo yX1_stepsTo, Cond.code yX1_stepsTo cX1_stepsTo 3 (some .int), Cond.fieldLink RX1 41 "LentSectors$Heads" "arm" "I", Cond.static yX3_stepsBetween]
def wsX1_tellAddress_r3 : List Cond := [Cond.code yX3_stepsBetween cX3_stepsBetween 3 (some .int), Cond.methodLink RX3 151 Lib.Math.abs.name, Cond.static Lib.Math.abs.name, Cond.initialized "java/lang/Math", Cond.code Lib.Math.abs.name Lib.Math.abs.code 1 (some .int), Cond.methodLink RX3 148 yX3_placeOf, Cond.methodLink RX3 156 yX3_headOf]
def wsX1_tellAddress : List Cond := .code yX1_tellAddress cX1_tellAddress 3 (some .int) :: ((wsX1_tellAddress_r1 ++ (wsX1_tellAddress_r2 ++ wsX1_tellAddress_r3)) ++ wsX10)
def wsX1_tellSector_r1 : List Cond := [Cond.fieldLink RX1 26 "LentSectors$Heads" "wear" "[I", Cond.fieldLink RX1 38 "LentSectors$Heads" "client" "[I", Cond.methodLink RX1 154 yX1_gradeOf, Cond.instanceMethod yX1_gradeOf, Cond.selects RX1 yX1_gradeOf yX1_gradeOf, Cond.initialized RX1, Cond.code yX1_gradeOf cX1_gradeOf 2 (some .int), Cond.methodLink RX1 86 yX1_isGood, Cond.instanceMethod yX1_isGood, Cond.selects RX1 yX1_isGood yX1_isGood, Cond.code yX1_isGood cX1_isGood 2 (some .boolean), Cond.fieldLink RX1 9 "LentSectors$Heads" "limit" "I", Cond.methodLink RX1 89 yX1_isBad, Cond.instanceMethod yX1_isBad, Cond.selects RX1 yX1_isBad yX1_isBad, Cond.code yX1_isBad cX1_isBad 2 (some .boolean), Cond.methodLink RX1 69 yX1_isAddress, Cond.instanceMethod yX1_isAddress, Cond.selects RX1 yX1_isAddress yX1_isAddress, Cond.code yX1_isAddress cX1_isAddress 2 (some .boolean), Cond.fieldLink RX1 19 "LentSectors$Heads" "spares" "[I", Cond.static yX3_isSector, Cond.initialized RX3, Cond.code yX3_isSector cX3_isSector 1 (some .boolean)]
def wsX1_tellSector_r2 : List Cond := [Cond.static yX3_placeOf, Cond.code yX3_placeOf cX3_placeOf 1 (some .int), Cond.static yX3_headOf, Cond.code yX3_headOf cX3_headOf 1 (some .int), Cond.methodLink RX1 92 yX1_isFree, Cond.instanceMethod yX1_isFree, Cond.selects RX1 yX1_isFree yX1_isFree, Cond.code yX1_isFree cX1_isFree 4 (some .boolean), Cond.fieldLink RX1 22 "LentSectors$Heads" "givenUp" "[Z"]
def wsX1_tellSector : List Cond := .code yX1_tellSector cX1_tellSector 3 (some .int) :: ((wsX1_tellSector_r1 ++ wsX1_tellSector_r2) ++ wsX10)
def wsX1_leadingElsewhere : List Cond := .code yX1_leadingElsewhere cX1_leadingElsewhere 6 (some .int) :: ([.static yX3_headOf, .initialized RX3, .code yX3_headOf cX3_headOf 1 (some .int)])
def wsX1_wearOf : List Cond := .code yX1_wearOf cX1_wearOf 4 (some .int) :: ([.fieldLink RX1 26 "LentSectors$Heads" "wear" "[I"] ++ wsX10)
def wsX1_gradedOf : List Cond := .code yX1_gradedOf cX1_gradedOf 5 (some .int) :: ([.methodLink RX1 154 yX1_gradeOf, .instanceMethod yX1_gradeOf, .selects RX1 yX1_gradeOf yX1_gradeOf, .initialized RX1, .code yX1_gradeOf cX1_gradeOf 2 (some .int), .methodLink RX1 86 yX1_isGood, .instanceMethod yX1_isGood, .selects RX1 yX1_isGood yX1_isGood, .code yX1_isGood cX1_isGood 2 (some .boolean), .fieldLink RX1 26 "LentSectors$Heads" "wear" "[I", .fieldLink RX1 9 "LentSectors$Heads" "limit" "I", .methodLink RX1 89 yX1_isBad, .instanceMethod yX1_isBad, .selects RX1 yX1_isBad yX1_isBad, .code yX1_isBad cX1_isBad 2 (some .boolean)] ++ wsX10)
def wsX1_tellHead_r1 : List Cond := [Cond.fieldLink RX1 15 "LentSectors$Heads" "ageing" "[I", Cond.fieldLink RX1 19 "LentSectors$Heads" "spares" "[I", Cond.fieldLink RX1 22 "LentSectors$Heads" "givenUp" "[Z", Cond.fieldLink RX1 38 "LentSectors$Heads" "client" "[I", Cond.fieldLink RX1 35 "LentSectors$Heads" "server" "[I", Cond.methodLink RX1 98 yX1_freeOf, Cond.instanceMethod yX1_freeOf, Cond.selects RX1 yX1_freeOf yX1_freeOf, Cond.initialized RX1, Cond.code yX1_freeOf cX1_freeOf 4 (some .int), Cond.methodLink RX1 92 yX1_isFree, Cond.instanceMethod yX1_isFree, Cond.selects RX1 yX1_isFree yX1_isFree, Cond.code yX1_isFree cX1_isFree 4 (some .boolean), Cond.static yX3_headOf, Cond.initialized RX3, Cond.code yX3_headOf cX3_headOf 1 (some .int), Cond.static yX3_placeOf, Cond.code yX3_placeOf cX3_placeOf 1 (some .int), Cond.methodLink RX1 86 yX1_isGood, Cond.instanceMethod yX1_isGood, Cond.selects RX1 yX1_isGood yX1_isGood, Cond.code yX1_isGood cX1_isGood 2 (some .boolean), Cond.fieldLink RX1 26 "LentSectors$Heads" "wear" "[I"]
def wsX1_tellHead_r2 : List Cond := [Cond.fieldLink RX1 9 "LentSectors$Heads" "limit" "I", Cond.methodLink RX1 157 yX1_leadingElsewhere, Cond.instanceMethod yX1_leadingElsewhere, Cond.selects RX1 yX1_leadingElsewhere yX1_leadingElsewhere, Cond.code yX1_leadingElsewhere cX1_leadingElsewhere 6 (some .int), Cond.methodLink RX1 133 yX1_lostOf, Cond.instanceMethod yX1_lostOf, Cond.selects RX1 yX1_lostOf yX1_lostOf, Cond.code yX1_lostOf cX1_lostOf 4 (some .int), Cond.methodLink RX1 83 yX1_isLost, Cond.instanceMethod yX1_isLost, Cond.selects RX1 yX1_isLost yX1_isLost, Cond.code yX1_isLost cX1_isLost 2 (some .boolean), Cond.methodLink RX1 105 yX1_wearOf, Cond.instanceMethod yX1_wearOf, Cond.selects RX1 yX1_wearOf yX1_wearOf, Cond.code yX1_wearOf cX1_wearOf 4 (some .int), Cond.methodLink RX1 161 yX1_gradedOf, Cond.instanceMethod yX1_gradedOf, Cond.selects RX1 yX1_gradedOf yX1_gradedOf, Cond.code yX1_gradedOf cX1_gradedOf 5 (some .int), Cond.methodLink RX1 154 yX1_gradeOf, Cond.instanceMethod yX1_gradeOf, Cond.selects RX1 yX1_gradeOf yX1_gradeOf]
def wsX1_tellHead_r3 : List Cond := [Cond.code yX1_gradeOf cX1_gradeOf 2 (some .int), Cond.methodLink RX1 89 yX1_isBad, Cond.instanceMethod yX1_isBad, Cond.selects RX1 yX1_isBad yX1_isBad, Cond.code yX1_isBad cX1_isBad 2 (some .boolean)]
def wsX1_tellHead : List Cond := .code yX1_tellHead cX1_tellHead 3 (some .int) :: ((wsX1_tellHead_r1 ++ (wsX1_tellHead_r2 ++ wsX1_tellHead_r3)) ++ wsX10)
def wsX1_overHeads_r1 : List Cond := [Cond.methodLink RX1 177 yX1_tellHead, Cond.instanceMethod yX1_tellHead, Cond.selects RX1 yX1_tellHead yX1_tellHead, Cond.initialized RX1, Cond.code yX1_tellHead cX1_tellHead 3 (some .int), Cond.fieldLink RX1 15 "LentSectors$Heads" "ageing" "[I", Cond.fieldLink RX1 19 "LentSectors$Heads" "spares" "[I", Cond.fieldLink RX1 22 "LentSectors$Heads" "givenUp" "[Z", Cond.fieldLink RX1 38 "LentSectors$Heads" "client" "[I", Cond.fieldLink RX1 35 "LentSectors$Heads" "server" "[I", Cond.methodLink RX1 98 yX1_freeOf, Cond.instanceMethod yX1_freeOf, Cond.selects RX1 yX1_freeOf yX1_freeOf, Cond.code yX1_freeOf cX1_freeOf 4 (some .int), Cond.methodLink RX1 92 yX1_isFree, Cond.instanceMethod yX1_isFree, Cond.selects RX1 yX1_isFree yX1_isFree, Cond.code yX1_isFree cX1_isFree 4 (some .boolean), Cond.static yX3_headOf, Cond.initialized RX3, Cond.code yX3_headOf cX3_headOf 1 (some .int), Cond.static yX3_placeOf, Cond.code yX3_placeOf cX3_placeOf 1 (some .int), Cond.methodLink RX1 86 yX1_isGood]
def wsX1_overHeads_r2 : List Cond := [Cond.instanceMethod yX1_isGood, Cond.selects RX1 yX1_isGood yX1_isGood, Cond.code yX1_isGood cX1_isGood 2 (some .boolean), Cond.fieldLink RX1 26 "LentSectors$Heads" "wear" "[I", Cond.fieldLink RX1 9 "LentSectors$Heads" "limit" "I", Cond.methodLink RX1 157 yX1_leadingElsewhere, Cond.instanceMethod yX1_leadingElsewhere, Cond.selects RX1 yX1_leadingElsewhere yX1_leadingElsewhere, Cond.code yX1_leadingElsewhere cX1_leadingElsewhere 6 (some .int), Cond.methodLink RX1 133 yX1_lostOf, Cond.instanceMethod yX1_lostOf, Cond.selects RX1 yX1_lostOf yX1_lostOf, Cond.code yX1_lostOf cX1_lostOf 4 (some .int), Cond.methodLink RX1 83 yX1_isLost, Cond.instanceMethod yX1_isLost, Cond.selects RX1 yX1_isLost yX1_isLost, Cond.code yX1_isLost cX1_isLost 2 (some .boolean), Cond.methodLink RX1 105 yX1_wearOf, Cond.instanceMethod yX1_wearOf, Cond.selects RX1 yX1_wearOf yX1_wearOf, Cond.code yX1_wearOf cX1_wearOf 4 (some .int), Cond.methodLink RX1 161 yX1_gradedOf, Cond.instanceMethod yX1_gradedOf, Cond.selects RX1 yX1_gradedOf yX1_gradedOf]
def wsX1_overHeads_r3 : List Cond := [Cond.code yX1_gradedOf cX1_gradedOf 5 (some .int), Cond.methodLink RX1 154 yX1_gradeOf, Cond.instanceMethod yX1_gradeOf, Cond.selects RX1 yX1_gradeOf yX1_gradeOf, Cond.code yX1_gradeOf cX1_gradeOf 2 (some .int), Cond.methodLink RX1 89 yX1_isBad, Cond.instanceMethod yX1_isBad, Cond.selects RX1 yX1_isBad yX1_isBad, Cond.code yX1_isBad cX1_isBad 2 (some .boolean)]
def wsX1_overHeads : List Cond := .code yX1_overHeads cX1_overHeads 4 (some .int) :: ((wsX1_overHeads_r1 ++ (wsX1_overHeads_r2 ++ wsX1_overHeads_r3)) ++ wsX10)
def wsX1_longWayCount : List Cond := .code yX1_longWayCount cX1_longWayCount 3 (some .int) :: ([.methodLink RX1 69 yX1_isAddress, .instanceMethod yX1_isAddress, .selects RX1 yX1_isAddress yX1_isAddress, .initialized RX1, .code yX1_isAddress cX1_isAddress 2 (some .boolean), .fieldLink RX1 19 "LentSectors$Heads" "spares" "[I", .static yX3_isSector, .initialized RX3, .code yX3_isSector cX3_isSector 1 (some .boolean), .static yX3_placeOf, .code yX3_placeOf cX3_placeOf 1 (some .int), .static yX3_headOf, .code yX3_headOf cX3_headOf 1 (some .int), .methodLink RX1 148 yX1_isLongWay, .instanceMethod yX1_isLongWay, .selects RX1 yX1_isLongWay yX1_isLongWay, .code yX1_isLongWay cX1_isLongWay 2 (some .boolean), .fieldLink RX1 35 "LentSectors$Heads" "server" "[I", .methodLink RX1 83 yX1_isLost, .instanceMethod yX1_isLost, .selects RX1 yX1_isLost yX1_isLost, .code yX1_isLost cX1_isLost 2 (some .boolean)] ++ wsX10)
def wsX1_tellWhole_r1 : List Cond := [Cond.fieldLink RX1 9 "LentSectors$Heads" "limit" "I", Cond.fieldLink RX1 41 "LentSectors$Heads" "arm" "I", Cond.fieldLink RX1 44 "LentSectors$Heads" "steps" "I", Cond.fieldLink RX1 47 "LentSectors$Heads" "rescues" "I", Cond.fieldLink RX1 50 "LentSectors$Heads" "losses" "I", Cond.fieldLink RX1 53 "LentSectors$Heads" "reads" "I", Cond.fieldLink RX1 56 "LentSectors$Heads" "writes" "I", Cond.methodLink RX1 164 yX1_overHeads, Cond.instanceMethod yX1_overHeads, Cond.selects RX1 yX1_overHeads yX1_overHeads, Cond.initialized RX1, Cond.code yX1_overHeads cX1_overHeads 4 (some .int), Cond.methodLink RX1 177 yX1_tellHead, Cond.instanceMethod yX1_tellHead, Cond.selects RX1 yX1_tellHead yX1_tellHead, Cond.code yX1_tellHead cX1_tellHead 3 (some .int), Cond.fieldLink RX1 15 "LentSectors$Heads" "ageing" "[I", Cond.fieldLink RX1 19 "LentSectors$Heads" "spares" "[I", Cond.fieldLink RX1 22 "LentSectors$Heads" "givenUp" "[Z", Cond.fieldLink RX1 38 "LentSectors$Heads" "client" "[I", Cond.fieldLink RX1 35 "LentSectors$Heads" "server" "[I", Cond.methodLink RX1 98 yX1_freeOf, Cond.instanceMethod yX1_freeOf, Cond.selects RX1 yX1_freeOf yX1_freeOf]
def wsX1_tellWhole_r2 : List Cond := [Cond.code yX1_freeOf cX1_freeOf 4 (some .int), Cond.methodLink RX1 92 yX1_isFree, Cond.instanceMethod yX1_isFree, Cond.selects RX1 yX1_isFree yX1_isFree, Cond.code yX1_isFree cX1_isFree 4 (some .boolean), Cond.static yX3_headOf, Cond.initialized RX3, Cond.code yX3_headOf cX3_headOf 1 (some .int), Cond.static yX3_placeOf, Cond.code yX3_placeOf cX3_placeOf 1 (some .int), Cond.methodLink RX1 86 yX1_isGood, Cond.instanceMethod yX1_isGood, Cond.selects RX1 yX1_isGood yX1_isGood, Cond.code yX1_isGood cX1_isGood 2 (some .boolean), Cond.fieldLink RX1 26 "LentSectors$Heads" "wear" "[I", Cond.methodLink RX1 157 yX1_leadingElsewhere, Cond.instanceMethod yX1_leadingElsewhere, Cond.selects RX1 yX1_leadingElsewhere yX1_leadingElsewhere, Cond.code yX1_leadingElsewhere cX1_leadingElsewhere 6 (some .int), Cond.methodLink RX1 133 yX1_lostOf, Cond.instanceMethod yX1_lostOf, Cond.selects RX1 yX1_lostOf yX1_lostOf, Cond.code yX1_lostOf cX1_lostOf 4 (some .int), Cond.methodLink RX1 83 yX1_isLost]
def wsX1_tellWhole_r3 : List Cond := [Cond.instanceMethod yX1_isLost, Cond.selects RX1 yX1_isLost yX1_isLost, Cond.code yX1_isLost cX1_isLost 2 (some .boolean), Cond.methodLink RX1 105 yX1_wearOf, Cond.instanceMethod yX1_wearOf, Cond.selects RX1 yX1_wearOf yX1_wearOf, Cond.code yX1_wearOf cX1_wearOf 4 (some .int), Cond.methodLink RX1 161 yX1_gradedOf, Cond.instanceMethod yX1_gradedOf, Cond.selects RX1 yX1_gradedOf yX1_gradedOf, Cond.code yX1_gradedOf cX1_gradedOf 5 (some .int), Cond.methodLink RX1 154 yX1_gradeOf, Cond.instanceMethod yX1_gradeOf, Cond.selects RX1 yX1_gradeOf yX1_gradeOf, Cond.code yX1_gradeOf cX1_gradeOf 2 (some .int), Cond.methodLink RX1 89 yX1_isBad, Cond.instanceMethod yX1_isBad, Cond.selects RX1 yX1_isBad yX1_isBad, Cond.code yX1_isBad cX1_isBad 2 (some .boolean), Cond.methodLink RX1 167 yX1_longWayCount, Cond.instanceMethod yX1_longWayCount, Cond.selects RX1 yX1_longWayCount yX1_longWayCount, Cond.code yX1_longWayCount cX1_longWayCount 3 (some .int), Cond.methodLink RX1 69 yX1_isAddress]
def wsX1_tellWhole_r4 : List Cond := [Cond.instanceMethod yX1_isAddress, Cond.selects RX1 yX1_isAddress yX1_isAddress, Cond.code yX1_isAddress cX1_isAddress 2 (some .boolean), Cond.static yX3_isSector, Cond.code yX3_isSector cX3_isSector 1 (some .boolean), Cond.methodLink RX1 148 yX1_isLongWay, Cond.instanceMethod yX1_isLongWay, Cond.selects RX1 yX1_isLongWay yX1_isLongWay, Cond.code yX1_isLongWay cX1_isLongWay 2 (some .boolean)]
def wsX1_tellWhole : List Cond := .code yX1_tellWhole cX1_tellWhole 2 (some .int) :: ((wsX1_tellWhole_r1 ++ (wsX1_tellWhole_r2 ++ (wsX1_tellWhole_r3 ++ wsX1_tellWhole_r4))) ++ wsX10)
def wsX1_readsUntilChange_r1 : List Cond := [Cond.fieldLink RX1 35 "LentSectors$Heads" "server" "[I", Cond.fieldLink RX1 9 "LentSectors$Heads" "limit" "I", Cond.fieldLink RX1 26 "LentSectors$Heads" "wear" "[I", Cond.fieldLink RX1 15 "LentSectors$Heads" "ageing" "[I", Cond.methodLink RX1 69 yX1_isAddress, Cond.instanceMethod yX1_isAddress, Cond.selects RX1 yX1_isAddress yX1_isAddress, Cond.initialized RX1, Cond.code yX1_isAddress cX1_isAddress 2 (some .boolean), Cond.fieldLink RX1 19 "LentSectors$Heads" "spares" "[I", Cond.static yX3_isSector, Cond.initialized RX3, Cond.code yX3_isSector cX3_isSector 1 (some .boolean), Cond.static yX3_placeOf, Cond.code yX3_placeOf cX3_placeOf 1 (some .int), Cond.static yX3_headOf, Cond.code yX3_headOf cX3_headOf 1 (some .int), Cond.methodLink RX1 83 yX1_isLost, Cond.instanceMethod yX1_isLost, Cond.selects RX1 yX1_isLost yX1_isLost, Cond.code yX1_isLost cX1_isLost 2 (some .boolean), Cond.methodLink RX1 118 yX1_lendableTo, Cond.instanceMethod yX1_lendableTo, Cond.selects RX1 yX1_lendableTo yX1_lendableTo]
def wsX1_readsUntilChange_r2 : List Cond := [Cond.code yX1_lendableTo cX1_lendableTo 7 (some .int), Cond.methodLink RX1 95 yX1_firstFreeOf, Cond.instanceMethod yX1_firstFreeOf, Cond.selects RX1 yX1_firstFreeOf yX1_firstFreeOf, Cond.code yX1_firstFreeOf cX1_firstFreeOf 3 (some .int), Cond.methodLink RX1 92 yX1_isFree, Cond.instanceMethod yX1_isFree, Cond.selects RX1 yX1_isFree yX1_isFree, Cond.code yX1_isFree cX1_isFree 4 (some .boolean), Cond.fieldLink RX1 38 "LentSectors$Heads" "client" "[I", Cond.fieldLink RX1 22 "LentSectors$Heads" "givenUp" "[Z", Cond.methodLink RX1 86 yX1_isGood, Cond.instanceMethod yX1_isGood, Cond.selects RX1 yX1_isGood yX1_isGood, Cond.code yX1_isGood cX1_isGood 2 (some .boolean), Cond.methodLink RX1 98 yX1_freeOf, Cond.instanceMethod yX1_freeOf, Cond.selects RX1 yX1_freeOf yX1_freeOf, Cond.code yX1_freeOf cX1_freeOf 4 (some .int)]
def wsX1_readsUntilChange : List Cond := .code yX1_readsUntilChange cX1_readsUntilChange 6 (some .int) :: ((wsX1_readsUntilChange_r1 ++ wsX1_readsUntilChange_r2) ++ wsX10)
def wsX1_hasRank : List Cond := .code yX1_hasRank cX1_hasRank 2 (some .boolean) :: ([.methodLink RX1 69 yX1_isAddress, .instanceMethod yX1_isAddress, .selects RX1 yX1_isAddress yX1_isAddress, .initialized RX1, .code yX1_isAddress cX1_isAddress 2 (some .boolean), .fieldLink RX1 19 "LentSectors$Heads" "spares" "[I", .static yX3_isSector, .initialized RX3, .code yX3_isSector cX3_isSector 1 (some .boolean), .static yX3_placeOf, .code yX3_placeOf cX3_placeOf 1 (some .int), .static yX3_headOf, .code yX3_headOf cX3_headOf 1 (some .int), .methodLink RX1 83 yX1_isLost, .instanceMethod yX1_isLost, .selects RX1 yX1_isLost yX1_isLost, .code yX1_isLost cX1_isLost 2 (some .boolean), .fieldLink RX1 35 "LentSectors$Heads" "server" "[I"] ++ wsX10)
def wsX1_rankOf : List Cond := .code yX1_rankOf cX1_rankOf 6 (some .int) :: ([.fieldLink RX1 26 "LentSectors$Heads" "wear" "[I", .fieldLink RX1 35 "LentSectors$Heads" "server" "[I", .methodLink RX1 171 yX1_hasRank, .instanceMethod yX1_hasRank, .selects RX1 yX1_hasRank yX1_hasRank, .initialized RX1, .code yX1_hasRank cX1_hasRank 2 (some .boolean), .methodLink RX1 69 yX1_isAddress, .instanceMethod yX1_isAddress, .selects RX1 yX1_isAddress yX1_isAddress, .code yX1_isAddress cX1_isAddress 2 (some .boolean), .fieldLink RX1 19 "LentSectors$Heads" "spares" "[I", .static yX3_isSector, .initialized RX3, .code yX3_isSector cX3_isSector 1 (some .boolean), .static yX3_placeOf, .code yX3_placeOf cX3_placeOf 1 (some .int), .static yX3_headOf, .code yX3_headOf cX3_headOf 1 (some .int), .methodLink RX1 83 yX1_isLost, .instanceMethod yX1_isLost, .selects RX1 yX1_isLost yX1_isLost, .code yX1_isLost cX1_isLost 2 (some .boolean)] ++ wsX10)
def wsX1_addressOfRank_r1 : List Cond := [Cond.methodLink RX1 171 yX1_hasRank, Cond.instanceMethod yX1_hasRank, Cond.selects RX1 yX1_hasRank yX1_hasRank, Cond.initialized RX1, Cond.code yX1_hasRank cX1_hasRank 2 (some .boolean), Cond.methodLink RX1 69 yX1_isAddress, Cond.instanceMethod yX1_isAddress, Cond.selects RX1 yX1_isAddress yX1_isAddress, Cond.code yX1_isAddress cX1_isAddress 2 (some .boolean), Cond.fieldLink RX1 19 "LentSectors$Heads" "spares" "[I", Cond.static yX3_isSector, Cond.initialized RX3, Cond.code yX3_isSector cX3_isSector 1 (some .boolean), Cond.static yX3_placeOf, Cond.code yX3_placeOf cX3_placeOf 1 (some .int), Cond.static yX3_headOf, Cond.code yX3_headOf cX3_headOf 1 (some .int), Cond.methodLink RX1 83 yX1_isLost, Cond.instanceMethod yX1_isLost, Cond.selects RX1 yX1_isLost yX1_isLost, Cond.code yX1_isLost cX1_isLost 2 (some .boolean), Cond.fieldLink RX1 35 "LentSectors$Heads" "server" "[I", Cond.methodLink RX1 174 yX1_rankOf, Cond.instanceMethod yX1_rankOf]
def wsX1_addressOfRank_r2 : List Cond := [Cond.selects RX1 yX1_rankOf yX1_rankOf, Cond.code yX1_rankOf cX1_rankOf 6 (some .int), Cond.fieldLink RX1 26 "LentSectors$Heads" "wear" "[I"]
def wsX1_addressOfRank : List Cond := .code yX1_addressOfRank cX1_addressOfRank 3 (some .int) :: ((wsX1_addressOfRank_r1 ++ wsX1_addressOfRank_r2) ++ wsX10)
def wsX2_init_r1 : List Cond := [Cond.methodLink RX2 3 objectInit, Cond.instanceMethod objectInit, Cond.code objectInit ⟨#[0xb1]⟩ 1 none, Cond.classLink RX2 9 RX1, Cond.fieldLink RX2 11 "LentSectors$History" "rooms" "[LLentSectors$Heads;", Cond.fieldLink RX2 17 "LentSectors$History" "oldest" "I", Cond.fieldLink RX2 21 "LentSectors$History" "many" "I", Cond.instantiable RX1 15, Cond.initialized RX1, Cond.methodLink RX2 24 yX1_init, Cond.instanceMethod yX1_init, Cond.code yX1_init cX1_init 2 none, Cond.methodLink RX1 3 objectInit, Cond.fieldLink RX1 9 "LentSectors$Heads" "limit" "I", Cond.arrayClass .int, Cond.fieldLink RX1 15 "LentSectors$Heads" "ageing" "[I", Cond.fieldLink RX1 19 "LentSectors$Heads" "spares" "[I", Cond.arrayClass .boolean, Cond.fieldLink RX1 22 "LentSectors$Heads" "givenUp" "[Z", Cond.fieldLink RX1 26 "LentSectors$Heads" "wear" "[I", Cond.fieldLink RX1 29 "LentSectors$Heads" "value" "[I", Cond.fieldLink RX1 32 "LentSectors$Heads" "rescuesOf" "[I", Cond.fieldLink RX1 35 "LentSectors$Heads" "server" "[I", Cond.fieldLink RX1 38 "LentSectors$Heads" "client" "[I"]
def wsX2_init_r2 : List Cond := [Cond.fieldLink RX1 41 "LentSectors$Heads" "arm" "I", Cond.fieldLink RX1 44 "LentSectors$Heads" "steps" "I", Cond.fieldLink RX1 47 "LentSectors$Heads" "rescues" "I", Cond.fieldLink RX1 50 "LentSectors$Heads" "losses" "I", Cond.fieldLink RX1 53 "LentSectors$Heads" "reads" "I", Cond.fieldLink RX1 56 "LentSectors$Heads" "writes" "I", Cond.methodLink RX1 59 yX1_divide, Cond.instanceMethod yX1_divide, Cond.selects RX1 yX1_divide yX1_divide, Cond.code yX1_divide cX1_divide 6 none, Cond.methodLink RX1 69 yX1_isAddress, Cond.instanceMethod yX1_isAddress, Cond.selects RX1 yX1_isAddress yX1_isAddress, Cond.code yX1_isAddress cX1_isAddress 2 (some .boolean), Cond.static yX3_isSector, Cond.initialized RX3, Cond.code yX3_isSector cX3_isSector 1 (some .boolean), Cond.static yX3_placeOf, Cond.code yX3_placeOf cX3_placeOf 1 (some .int), Cond.static yX3_headOf, Cond.code yX3_headOf cX3_headOf 1 (some .int)]
def wsX2_init : List Cond := .code yX2_init cX2_init 2 none :: ((wsX2_init_r1 ++ wsX2_init_r2) ++ wsX20 ++ wsX10)
def wsX2_states : List Cond := .code yX2_states cX2_states 1 (some .int) :: ([.fieldLink RX2 21 "LentSectors$History" "many" "I"] ++ wsX20)
def wsX2_record_r1 : List Cond := [Cond.fieldLink RX2 21 "LentSectors$History" "many" "I", Cond.fieldLink RX2 17 "LentSectors$History" "oldest" "I", Cond.fieldLink RX2 11 "LentSectors$History" "rooms" "[LLentSectors$Heads;", Cond.methodLink RX2 25 yX1_takeOver, Cond.instanceMethod yX1_takeOver, Cond.selects RX1 yX1_takeOver yX1_takeOver, Cond.initialized RX1, Cond.code yX1_takeOver cX1_takeOver 2 none, Cond.fieldLink RX1 9 "LentSectors$Heads" "limit" "I", Cond.fieldLink RX1 15 "LentSectors$Heads" "ageing" "[I", Cond.methodLink RX1 63 arraycopyName, Cond.native arraycopyName, Cond.static arraycopyName, Cond.initialized "java/lang/System", Cond.fieldLink RX1 19 "LentSectors$Heads" "spares" "[I", Cond.fieldLink RX1 22 "LentSectors$Heads" "givenUp" "[Z", Cond.fieldLink RX1 26 "LentSectors$Heads" "wear" "[I", Cond.fieldLink RX1 29 "LentSectors$Heads" "value" "[I", Cond.fieldLink RX1 32 "LentSectors$Heads" "rescuesOf" "[I", Cond.fieldLink RX1 35 "LentSectors$Heads" "server" "[I", Cond.fieldLink RX1 38 "LentSectors$Heads" "client" "[I", Cond.fieldLink RX1 41 "LentSectors$Heads" "arm" "I", Cond.fieldLink RX1 44 "LentSectors$Heads" "steps" "I", Cond.fieldLink RX1 47 "LentSectors$Heads" "rescues" "I"]
def wsX2_record_r2 : List Cond := [Cond.fieldLink RX1 50 "LentSectors$Heads" "losses" "I", Cond.fieldLink RX1 53 "LentSectors$Heads" "reads" "I", Cond.fieldLink RX1 56 "LentSectors$Heads" "writes" "I"]
def wsX2_record : List Cond := .code yX2_record cX2_record 2 none :: ((wsX2_record_r1 ++ wsX2_record_r2) ++ wsX20 ++ wsX10)
def wsX2_takeBack_r1 : List Cond := [Cond.fieldLink RX2 21 "LentSectors$History" "many" "I", Cond.fieldLink RX2 11 "LentSectors$History" "rooms" "[LLentSectors$Heads;", Cond.fieldLink RX2 17 "LentSectors$History" "oldest" "I", Cond.methodLink RX2 25 yX1_takeOver, Cond.instanceMethod yX1_takeOver, Cond.selects RX1 yX1_takeOver yX1_takeOver, Cond.initialized RX1, Cond.code yX1_takeOver cX1_takeOver 2 none, Cond.fieldLink RX1 9 "LentSectors$Heads" "limit" "I", Cond.fieldLink RX1 15 "LentSectors$Heads" "ageing" "[I", Cond.methodLink RX1 63 arraycopyName, Cond.native arraycopyName, Cond.static arraycopyName, Cond.initialized "java/lang/System", Cond.fieldLink RX1 19 "LentSectors$Heads" "spares" "[I", Cond.fieldLink RX1 22 "LentSectors$Heads" "givenUp" "[Z", Cond.fieldLink RX1 26 "LentSectors$Heads" "wear" "[I", Cond.fieldLink RX1 29 "LentSectors$Heads" "value" "[I", Cond.fieldLink RX1 32 "LentSectors$Heads" "rescuesOf" "[I", Cond.fieldLink RX1 35 "LentSectors$Heads" "server" "[I", Cond.fieldLink RX1 38 "LentSectors$Heads" "client" "[I", Cond.fieldLink RX1 41 "LentSectors$Heads" "arm" "I", Cond.fieldLink RX1 44 "LentSectors$Heads" "steps" "I", Cond.fieldLink RX1 47 "LentSectors$Heads" "rescues" "I"]
def wsX2_takeBack_r2 : List Cond := [Cond.fieldLink RX1 50 "LentSectors$Heads" "losses" "I", Cond.fieldLink RX1 53 "LentSectors$Heads" "reads" "I", Cond.fieldLink RX1 56 "LentSectors$Heads" "writes" "I"]
def wsX2_takeBack : List Cond := .code yX2_takeBack cX2_takeBack 2 none :: ((wsX2_takeBack_r1 ++ wsX2_takeBack_r2) ++ wsX20 ++ wsX10)
def wsX3_init_r1 : List Cond := [Cond.methodLink RX3 3 objectInit, Cond.instanceMethod objectInit, Cond.code objectInit ⟨#[0xb1]⟩ 1 none, Cond.classLink RX3 9 RX1, Cond.instantiable RX1 15, Cond.initialized RX1, Cond.fieldLink RX3 12 "LentSectors" "now" "LLentSectors$Heads;", Cond.fieldLink RX3 16 "LentSectors" "trial" "LLentSectors$Heads;", Cond.fieldLink RX3 19 "LentSectors" "kept" "LLentSectors$Heads;", Cond.classLink RX3 22 RX2, Cond.instantiable RX2 3, Cond.initialized RX2, Cond.fieldLink RX3 25 "LentSectors" "history" "LLentSectors$History;", Cond.classLink RX3 29 RX0, Cond.instantiable RX0 6, Cond.initialized RX0, Cond.fieldLink RX3 32 "LentSectors" "text" "LLentSectors$CommandText;", Cond.fieldLink RX3 36 "LentSectors" "hasKept" "Z", Cond.methodLink RX3 11 yX1_init, Cond.instanceMethod yX1_init, Cond.code yX1_init cX1_init 2 none, Cond.methodLink RX1 3 objectInit, Cond.fieldLink RX1 9 "LentSectors$Heads" "limit" "I", Cond.arrayClass .int]
def wsX3_init_r2 : List Cond := [Cond.fieldLink RX1 15 "LentSectors$Heads" "ageing" "[I", Cond.fieldLink RX1 19 "LentSectors$Heads" "spares" "[I", Cond.arrayClass .boolean, Cond.fieldLink RX1 22 "LentSectors$Heads" "givenUp" "[Z", Cond.fieldLink RX1 26 "LentSectors$Heads" "wear" "[I", Cond.fieldLink RX1 29 "LentSectors$Heads" "value" "[I", Cond.fieldLink RX1 32 "LentSectors$Heads" "rescuesOf" "[I", Cond.fieldLink RX1 35 "LentSectors$Heads" "server" "[I", Cond.fieldLink RX1 38 "LentSectors$Heads" "client" "[I", Cond.fieldLink RX1 41 "LentSectors$Heads" "arm" "I", Cond.fieldLink RX1 44 "LentSectors$Heads" "steps" "I", Cond.fieldLink RX1 47 "LentSectors$Heads" "rescues" "I", Cond.fieldLink RX1 50 "LentSectors$Heads" "losses" "I", Cond.fieldLink RX1 53 "LentSectors$Heads" "reads" "I", Cond.fieldLink RX1 56 "LentSectors$Heads" "writes" "I", Cond.methodLink RX1 59 yX1_divide, Cond.instanceMethod yX1_divide, Cond.selects RX1 yX1_divide yX1_divide, Cond.code yX1_divide cX1_divide 6 none, Cond.methodLink RX1 69 yX1_isAddress, Cond.instanceMethod yX1_isAddress, Cond.selects RX1 yX1_isAddress yX1_isAddress, Cond.code yX1_isAddress cX1_isAddress 2 (some .boolean), Cond.static yX3_isSector]
def wsX3_init_r3 : List Cond := [Cond.initialized RX3, Cond.code yX3_isSector cX3_isSector 1 (some .boolean), Cond.static yX3_placeOf, Cond.code yX3_placeOf cX3_placeOf 1 (some .int), Cond.static yX3_headOf, Cond.code yX3_headOf cX3_headOf 1 (some .int), Cond.methodLink RX3 24 yX2_init, Cond.instanceMethod yX2_init, Cond.code yX2_init cX2_init 2 none, Cond.methodLink RX2 3 objectInit, Cond.classLink RX2 9 RX1, Cond.fieldLink RX2 11 "LentSectors$History" "rooms" "[LLentSectors$Heads;", Cond.fieldLink RX2 17 "LentSectors$History" "oldest" "I", Cond.fieldLink RX2 21 "LentSectors$History" "many" "I", Cond.methodLink RX2 24 yX1_init, Cond.instanceMethod yX0_init, Cond.code yX0_init cX0_init 1 none, Cond.methodLink RX0 3 objectInit, Cond.fieldLink RX0 9 "LentSectors$CommandText" "codes" "[I", Cond.fieldLink RX0 15 "LentSectors$CommandText" "length" "I", Cond.fieldLink RX0 19 "LentSectors$CommandText" "sectors" "[I", Cond.fieldLink RX0 22 "LentSectors$CommandText" "values" "[I", Cond.fieldLink RX0 25 "LentSectors$CommandText" "commands" "I", Cond.fieldLink RX0 28 "LentSectors$CommandText" "at" "I"]
def wsX3_init : List Cond := .code yX3_init cX3_init 1 none :: ((wsX3_init_r1 ++ (wsX3_init_r2 ++ wsX3_init_r3)) ++ wsX10 ++ wsX30 ++ wsX20 ++ wsX00)
def wsX3_startTrial_r1 : List Cond := [Cond.fieldLink RX3 16 "LentSectors" "trial" "LLentSectors$Heads;", Cond.fieldLink RX3 12 "LentSectors" "now" "LLentSectors$Heads;", Cond.methodLink RX3 115 yX1_takeOver, Cond.instanceMethod yX1_takeOver, Cond.selects RX1 yX1_takeOver yX1_takeOver, Cond.initialized RX1, Cond.code yX1_takeOver cX1_takeOver 2 none, Cond.fieldLink RX1 9 "LentSectors$Heads" "limit" "I", Cond.fieldLink RX1 15 "LentSectors$Heads" "ageing" "[I", Cond.methodLink RX1 63 arraycopyName, Cond.native arraycopyName, Cond.static arraycopyName, Cond.initialized "java/lang/System", Cond.fieldLink RX1 19 "LentSectors$Heads" "spares" "[I", Cond.fieldLink RX1 22 "LentSectors$Heads" "givenUp" "[Z", Cond.fieldLink RX1 26 "LentSectors$Heads" "wear" "[I", Cond.fieldLink RX1 29 "LentSectors$Heads" "value" "[I", Cond.fieldLink RX1 32 "LentSectors$Heads" "rescuesOf" "[I", Cond.fieldLink RX1 35 "LentSectors$Heads" "server" "[I", Cond.fieldLink RX1 38 "LentSectors$Heads" "client" "[I", Cond.fieldLink RX1 41 "LentSectors$Heads" "arm" "I", Cond.fieldLink RX1 44 "LentSectors$Heads" "steps" "I", Cond.fieldLink RX1 47 "LentSectors$Heads" "rescues" "I", Cond.fieldLink RX1 50 "LentSectors$Heads" "losses" "I"]
def wsX3_startTrial_r2 : List Cond := [Cond.fieldLink RX1 53 "LentSectors$Heads" "reads" "I", Cond.fieldLink RX1 56 "LentSectors$Heads" "writes" "I"]
def wsX3_startTrial : List Cond := .code yX3_startTrial cX3_startTrial 1 none :: ((wsX3_startTrial_r1 ++ wsX3_startTrial_r2) ++ wsX30 ++ wsX10)
def wsX3_settle_r1 : List Cond := [Cond.fieldLink RX3 25 "LentSectors" "history" "LLentSectors$History;", Cond.fieldLink RX3 12 "LentSectors" "now" "LLentSectors$Heads;", Cond.fieldLink RX3 16 "LentSectors" "trial" "LLentSectors$Heads;", Cond.methodLink RX3 145 yX2_record, Cond.instanceMethod yX2_record, Cond.selects RX2 yX2_record yX2_record, Cond.initialized RX2, Cond.code yX2_record cX2_record 2 none, Cond.fieldLink RX2 21 "LentSectors$History" "many" "I", Cond.fieldLink RX2 17 "LentSectors$History" "oldest" "I", Cond.fieldLink RX2 11 "LentSectors$History" "rooms" "[LLentSectors$Heads;", Cond.methodLink RX2 25 yX1_takeOver, Cond.instanceMethod yX1_takeOver, Cond.selects RX1 yX1_takeOver yX1_takeOver, Cond.initialized RX1, Cond.code yX1_takeOver cX1_takeOver 2 none, Cond.fieldLink RX1 9 "LentSectors$Heads" "limit" "I", Cond.fieldLink RX1 15 "LentSectors$Heads" "ageing" "[I", Cond.methodLink RX1 63 arraycopyName, Cond.native arraycopyName, Cond.static arraycopyName, Cond.initialized "java/lang/System", Cond.fieldLink RX1 19 "LentSectors$Heads" "spares" "[I", Cond.fieldLink RX1 22 "LentSectors$Heads" "givenUp" "[Z"]
def wsX3_settle_r2 : List Cond := [Cond.fieldLink RX1 26 "LentSectors$Heads" "wear" "[I", Cond.fieldLink RX1 29 "LentSectors$Heads" "value" "[I", Cond.fieldLink RX1 32 "LentSectors$Heads" "rescuesOf" "[I", Cond.fieldLink RX1 35 "LentSectors$Heads" "server" "[I", Cond.fieldLink RX1 38 "LentSectors$Heads" "client" "[I", Cond.fieldLink RX1 41 "LentSectors$Heads" "arm" "I", Cond.fieldLink RX1 44 "LentSectors$Heads" "steps" "I", Cond.fieldLink RX1 47 "LentSectors$Heads" "rescues" "I", Cond.fieldLink RX1 50 "LentSectors$Heads" "losses" "I", Cond.fieldLink RX1 53 "LentSectors$Heads" "reads" "I", Cond.fieldLink RX1 56 "LentSectors$Heads" "writes" "I", Cond.methodLink RX3 115 yX1_takeOver]
def wsX3_settle : List Cond := .code yX3_settle cX3_settle 2 (some .int) :: ((wsX3_settle_r1 ++ wsX3_settle_r2) ++ wsX30 ++ wsX20 ++ wsX10)
def wsX3_setLimit_r1 : List Cond := [Cond.fieldLink RX3 16 "LentSectors" "trial" "LLentSectors$Heads;", Cond.methodLink RX3 40 yX3_startTrial, Cond.instanceMethod yX3_startTrial, Cond.selects RX3 yX3_startTrial yX3_startTrial, Cond.initialized RX3, Cond.code yX3_startTrial cX3_startTrial 1 none, Cond.fieldLink RX3 12 "LentSectors" "now" "LLentSectors$Heads;", Cond.methodLink RX3 115 yX1_takeOver, Cond.instanceMethod yX1_takeOver, Cond.selects RX1 yX1_takeOver yX1_takeOver, Cond.initialized RX1, Cond.code yX1_takeOver cX1_takeOver 2 none, Cond.fieldLink RX1 9 "LentSectors$Heads" "limit" "I", Cond.fieldLink RX1 15 "LentSectors$Heads" "ageing" "[I", Cond.methodLink RX1 63 arraycopyName, Cond.native arraycopyName, Cond.static arraycopyName, Cond.initialized "java/lang/System", Cond.fieldLink RX1 19 "LentSectors$Heads" "spares" "[I", Cond.fieldLink RX1 22 "LentSectors$Heads" "givenUp" "[Z", Cond.fieldLink RX1 26 "LentSectors$Heads" "wear" "[I", Cond.fieldLink RX1 29 "LentSectors$Heads" "value" "[I", Cond.fieldLink RX1 32 "LentSectors$Heads" "rescuesOf" "[I", Cond.fieldLink RX1 35 "LentSectors$Heads" "server" "[I"]
def wsX3_setLimit_r2 : List Cond := [Cond.fieldLink RX1 38 "LentSectors$Heads" "client" "[I", Cond.fieldLink RX1 41 "LentSectors$Heads" "arm" "I", Cond.fieldLink RX1 44 "LentSectors$Heads" "steps" "I", Cond.fieldLink RX1 47 "LentSectors$Heads" "rescues" "I", Cond.fieldLink RX1 50 "LentSectors$Heads" "losses" "I", Cond.fieldLink RX1 53 "LentSectors$Heads" "reads" "I", Cond.fieldLink RX1 56 "LentSectors$Heads" "writes" "I", Cond.methodLink RX3 43 yX1_changeLimit, Cond.instanceMethod yX1_changeLimit, Cond.selects RX1 yX1_changeLimit yX1_changeLimit, Cond.code yX1_changeLimit cX1_changeLimit 3 (some .int), Cond.methodLink RX3 47 yX3_settle, Cond.instanceMethod yX3_settle, Cond.selects RX3 yX3_settle yX3_settle, Cond.code yX3_settle cX3_settle 2 (some .int), Cond.fieldLink RX3 25 "LentSectors" "history" "LLentSectors$History;", Cond.methodLink RX3 145 yX2_record, Cond.instanceMethod yX2_record, Cond.selects RX2 yX2_record yX2_record, Cond.initialized RX2, Cond.code yX2_record cX2_record 2 none, Cond.fieldLink RX2 21 "LentSectors$History" "many" "I", Cond.fieldLink RX2 17 "LentSectors$History" "oldest" "I", Cond.fieldLink RX2 11 "LentSectors$History" "rooms" "[LLentSectors$Heads;"]
def wsX3_setLimit_r3 : List Cond := [Cond.methodLink RX2 25 yX1_takeOver]
def wsX3_setLimit : List Cond := .code yX3_setLimit cX3_setLimit 2 (some .int) :: ((wsX3_setLimit_r1 ++ (wsX3_setLimit_r2 ++ wsX3_setLimit_r3)) ++ wsX30 ++ wsX10 ++ wsX20)
def wsX3_read_r1 : List Cond := [Cond.fieldLink RX3 16 "LentSectors" "trial" "LLentSectors$Heads;", Cond.methodLink RX3 40 yX3_startTrial, Cond.instanceMethod yX3_startTrial, Cond.selects RX3 yX3_startTrial yX3_startTrial, Cond.initialized RX3, Cond.code yX3_startTrial cX3_startTrial 1 none, Cond.fieldLink RX3 12 "LentSectors" "now" "LLentSectors$Heads;", Cond.methodLink RX3 115 yX1_takeOver, Cond.instanceMethod yX1_takeOver, Cond.selects RX1 yX1_takeOver yX1_takeOver, Cond.initialized RX1, Cond.code yX1_takeOver cX1_takeOver 2 none, Cond.fieldLink RX1 9 "LentSectors$Heads" "limit" "I", Cond.fieldLink RX1 15 "LentSectors$Heads" "ageing" "[I", Cond.methodLink RX1 63 arraycopyName, Cond.native arraycopyName, Cond.static arraycopyName, Cond.initialized "java/lang/System", Cond.fieldLink RX1 19 "LentSectors$Heads" "spares" "[I", Cond.fieldLink RX1 22 "LentSectors$Heads" "givenUp" "[Z", Cond.fieldLink RX1 26 "LentSectors$Heads" "wear" "[I", Cond.fieldLink RX1 29 "LentSectors$Heads" "value" "[I", Cond.fieldLink RX1 32 "LentSectors$Heads" "rescuesOf" "[I", Cond.fieldLink RX1 35 "LentSectors$Heads" "server" "[I"]
def wsX3_read_r2 : List Cond := [Cond.fieldLink RX1 38 "LentSectors$Heads" "client" "[I", Cond.fieldLink RX1 41 "LentSectors$Heads" "arm" "I", Cond.fieldLink RX1 44 "LentSectors$Heads" "steps" "I", Cond.fieldLink RX1 47 "LentSectors$Heads" "rescues" "I", Cond.fieldLink RX1 50 "LentSectors$Heads" "losses" "I", Cond.fieldLink RX1 53 "LentSectors$Heads" "reads" "I", Cond.fieldLink RX1 56 "LentSectors$Heads" "writes" "I", Cond.methodLink RX3 61 yX1_readAt, Cond.instanceMethod yX1_readAt, Cond.selects RX1 yX1_readAt yX1_readAt, Cond.code yX1_readAt cX1_readAt 2 (some .int), Cond.methodLink RX1 69 yX1_isAddress, Cond.instanceMethod yX1_isAddress, Cond.selects RX1 yX1_isAddress yX1_isAddress, Cond.code yX1_isAddress cX1_isAddress 2 (some .boolean), Cond.static yX3_isSector, Cond.code yX3_isSector cX3_isSector 1 (some .boolean), Cond.static yX3_placeOf, Cond.code yX3_placeOf cX3_placeOf 1 (some .int), Cond.static yX3_headOf, Cond.code yX3_headOf cX3_headOf 1 (some .int), Cond.methodLink RX1 83 yX1_isLost, Cond.instanceMethod yX1_isLost, Cond.selects RX1 yX1_isLost yX1_isLost]
def wsX3_read_r3 : List Cond := [Cond.code yX1_isLost cX1_isLost 2 (some .boolean), Cond.methodLink RX1 108 yX1_goTo, Cond.instanceMethod yX1_goTo, Cond.selects RX1 yX1_goTo yX1_goTo, Cond.code yX1_goTo cX1_goTo 2 none, Cond.methodLink RX1 145 yX1_stepsTo, Cond.instanceMethod yX1_stepsTo, Cond.selects RX1 yX1_stepsTo yX1_stepsTo, Cond.code yX1_stepsTo cX1_stepsTo 3 (some .int), Cond.static yX3_stepsBetween, Cond.code yX3_stepsBetween cX3_stepsBetween 3 (some .int), Cond.methodLink RX3 151 Lib.Math.abs.name, Cond.static Lib.Math.abs.name, Cond.initialized "java/lang/Math", Cond.code Lib.Math.abs.name Lib.Math.abs.code 1 (some .int), Cond.methodLink RX3 148 yX3_placeOf, Cond.methodLink RX3 156 yX3_headOf, Cond.methodLink RX1 112 yX1_wearByReading, Cond.instanceMethod yX1_wearByReading, Cond.selects RX1 yX1_wearByReading yX1_wearByReading, Cond.code yX1_wearByReading cX1_wearByReading 2 none, Cond.methodLink RX1 115 yX1_lookAt, Cond.instanceMethod yX1_lookAt, Cond.selects RX1 yX1_lookAt yX1_lookAt]
def wsX3_read_r4 : List Cond := [Cond.code yX1_lookAt cX1_lookAt 4 none, Cond.methodLink RX1 86 yX1_isGood, Cond.instanceMethod yX1_isGood, Cond.selects RX1 yX1_isGood yX1_isGood, Cond.code yX1_isGood cX1_isGood 2 (some .boolean), Cond.methodLink RX1 118 yX1_lendableTo, Cond.instanceMethod yX1_lendableTo, Cond.selects RX1 yX1_lendableTo yX1_lendableTo, Cond.code yX1_lendableTo cX1_lendableTo 7 (some .int), Cond.methodLink RX1 95 yX1_firstFreeOf, Cond.instanceMethod yX1_firstFreeOf, Cond.selects RX1 yX1_firstFreeOf yX1_firstFreeOf, Cond.code yX1_firstFreeOf cX1_firstFreeOf 3 (some .int), Cond.methodLink RX1 92 yX1_isFree, Cond.instanceMethod yX1_isFree, Cond.selects RX1 yX1_isFree yX1_isFree, Cond.code yX1_isFree cX1_isFree 4 (some .boolean), Cond.methodLink RX1 98 yX1_freeOf, Cond.instanceMethod yX1_freeOf, Cond.selects RX1 yX1_freeOf yX1_freeOf, Cond.code yX1_freeOf cX1_freeOf 4 (some .int), Cond.methodLink RX1 121 yX1_lend, Cond.instanceMethod yX1_lend, Cond.selects RX1 yX1_lend yX1_lend]
def wsX3_read_r5 : List Cond := [Cond.code yX1_lend cX1_lend 3 none, Cond.methodLink RX1 142 yX1_release, Cond.instanceMethod yX1_release, Cond.selects RX1 yX1_release yX1_release, Cond.code yX1_release cX1_release 2 none, Cond.methodLink RX1 136 yX1_moveTo, Cond.instanceMethod yX1_moveTo, Cond.selects RX1 yX1_moveTo yX1_moveTo, Cond.code yX1_moveTo cX1_moveTo 2 none, Cond.methodLink RX1 124 yX1_wearByWriting, Cond.instanceMethod yX1_wearByWriting, Cond.selects RX1 yX1_wearByWriting yX1_wearByWriting, Cond.code yX1_wearByWriting cX1_wearByWriting 2 none, Cond.methodLink RX1 89 yX1_isBad, Cond.instanceMethod yX1_isBad, Cond.selects RX1 yX1_isBad yX1_isBad, Cond.code yX1_isBad cX1_isBad 2 (some .boolean), Cond.methodLink RX1 139 yX1_lose, Cond.instanceMethod yX1_lose, Cond.selects RX1 yX1_lose yX1_lose, Cond.code yX1_lose cX1_lose 2 none, Cond.methodLink RX3 47 yX3_settle, Cond.instanceMethod yX3_settle, Cond.selects RX3 yX3_settle yX3_settle]
def wsX3_read_r6 : List Cond := [Cond.code yX3_settle cX3_settle 2 (some .int), Cond.fieldLink RX3 25 "LentSectors" "history" "LLentSectors$History;", Cond.methodLink RX3 145 yX2_record, Cond.instanceMethod yX2_record, Cond.selects RX2 yX2_record yX2_record, Cond.initialized RX2, Cond.code yX2_record cX2_record 2 none, Cond.fieldLink RX2 21 "LentSectors$History" "many" "I", Cond.fieldLink RX2 17 "LentSectors$History" "oldest" "I", Cond.fieldLink RX2 11 "LentSectors$History" "rooms" "[LLentSectors$Heads;", Cond.methodLink RX2 25 yX1_takeOver]
def wsX3_read : List Cond := .code yX3_read cX3_read 2 (some .int) :: ((wsX3_read_r1 ++ (wsX3_read_r2 ++ (wsX3_read_r3 ++ (wsX3_read_r4 ++ (wsX3_read_r5 ++ wsX3_read_r6))))) ++ wsX30 ++ wsX10 ++ wsX20)
def wsX3_write_r1 : List Cond := [Cond.fieldLink RX3 16 "LentSectors" "trial" "LLentSectors$Heads;", Cond.methodLink RX3 40 yX3_startTrial, Cond.instanceMethod yX3_startTrial, Cond.selects RX3 yX3_startTrial yX3_startTrial, Cond.initialized RX3, Cond.code yX3_startTrial cX3_startTrial 1 none, Cond.fieldLink RX3 12 "LentSectors" "now" "LLentSectors$Heads;", Cond.methodLink RX3 115 yX1_takeOver, Cond.instanceMethod yX1_takeOver, Cond.selects RX1 yX1_takeOver yX1_takeOver, Cond.initialized RX1, Cond.code yX1_takeOver cX1_takeOver 2 none, Cond.fieldLink RX1 9 "LentSectors$Heads" "limit" "I", Cond.fieldLink RX1 15 "LentSectors$Heads" "ageing" "[I", Cond.methodLink RX1 63 arraycopyName, Cond.native arraycopyName, Cond.static arraycopyName, Cond.initialized "java/lang/System", Cond.fieldLink RX1 19 "LentSectors$Heads" "spares" "[I", Cond.fieldLink RX1 22 "LentSectors$Heads" "givenUp" "[Z", Cond.fieldLink RX1 26 "LentSectors$Heads" "wear" "[I", Cond.fieldLink RX1 29 "LentSectors$Heads" "value" "[I", Cond.fieldLink RX1 32 "LentSectors$Heads" "rescuesOf" "[I", Cond.fieldLink RX1 35 "LentSectors$Heads" "server" "[I"]
def wsX3_write_r2 : List Cond := [Cond.fieldLink RX1 38 "LentSectors$Heads" "client" "[I", Cond.fieldLink RX1 41 "LentSectors$Heads" "arm" "I", Cond.fieldLink RX1 44 "LentSectors$Heads" "steps" "I", Cond.fieldLink RX1 47 "LentSectors$Heads" "rescues" "I", Cond.fieldLink RX1 50 "LentSectors$Heads" "losses" "I", Cond.fieldLink RX1 53 "LentSectors$Heads" "reads" "I", Cond.fieldLink RX1 56 "LentSectors$Heads" "writes" "I", Cond.methodLink RX3 64 yX1_writeAt, Cond.instanceMethod yX1_writeAt, Cond.selects RX1 yX1_writeAt yX1_writeAt, Cond.code yX1_writeAt cX1_writeAt 4 (some .int), Cond.methodLink RX1 69 yX1_isAddress, Cond.instanceMethod yX1_isAddress, Cond.selects RX1 yX1_isAddress yX1_isAddress, Cond.code yX1_isAddress cX1_isAddress 2 (some .boolean), Cond.static yX3_isSector, Cond.code yX3_isSector cX3_isSector 1 (some .boolean), Cond.static yX3_placeOf, Cond.code yX3_placeOf cX3_placeOf 1 (some .int), Cond.static yX3_headOf, Cond.code yX3_headOf cX3_headOf 1 (some .int), Cond.methodLink RX1 83 yX1_isLost, Cond.instanceMethod yX1_isLost, Cond.selects RX1 yX1_isLost yX1_isLost]
def wsX3_write_r3 : List Cond := [Cond.code yX1_isLost cX1_isLost 2 (some .boolean), Cond.methodLink RX1 118 yX1_lendableTo, Cond.instanceMethod yX1_lendableTo, Cond.selects RX1 yX1_lendableTo yX1_lendableTo, Cond.code yX1_lendableTo cX1_lendableTo 7 (some .int), Cond.methodLink RX1 95 yX1_firstFreeOf, Cond.instanceMethod yX1_firstFreeOf, Cond.selects RX1 yX1_firstFreeOf yX1_firstFreeOf, Cond.code yX1_firstFreeOf cX1_firstFreeOf 3 (some .int), Cond.methodLink RX1 92 yX1_isFree, Cond.instanceMethod yX1_isFree, Cond.selects RX1 yX1_isFree yX1_isFree, Cond.code yX1_isFree cX1_isFree 4 (some .boolean), Cond.methodLink RX1 86 yX1_isGood, Cond.instanceMethod yX1_isGood, Cond.selects RX1 yX1_isGood yX1_isGood, Cond.code yX1_isGood cX1_isGood 2 (some .boolean), Cond.methodLink RX1 98 yX1_freeOf, Cond.instanceMethod yX1_freeOf, Cond.selects RX1 yX1_freeOf yX1_freeOf, Cond.code yX1_freeOf cX1_freeOf 4 (some .int), Cond.methodLink RX1 121 yX1_lend, Cond.instanceMethod yX1_lend, Cond.selects RX1 yX1_lend yX1_lend]
def wsX3_write_r4 : List Cond := [Cond.code yX1_lend cX1_lend 3 none, Cond.methodLink RX1 142 yX1_release, Cond.instanceMethod yX1_release, Cond.selects RX1 yX1_release yX1_release, Cond.code yX1_release cX1_release 2 none, Cond.methodLink RX1 108 yX1_goTo, Cond.instanceMethod yX1_goTo, Cond.selects RX1 yX1_goTo yX1_goTo, Cond.code yX1_goTo cX1_goTo 2 none, Cond.methodLink RX1 145 yX1_stepsTo, Cond.instanceMethod yX1_stepsTo, Cond.selects RX1 yX1_stepsTo yX1_stepsTo, Cond.code yX1_stepsTo cX1_stepsTo 3 (some .int), Cond.static yX3_stepsBetween, Cond.code yX3_stepsBetween cX3_stepsBetween 3 (some .int), Cond.methodLink RX3 151 Lib.Math.abs.name, Cond.static Lib.Math.abs.name, Cond.initialized "java/lang/Math", Cond.code Lib.Math.abs.name Lib.Math.abs.code 1 (some .int), Cond.methodLink RX3 148 yX3_placeOf, Cond.methodLink RX3 156 yX3_headOf, Cond.methodLink RX1 124 yX1_wearByWriting, Cond.instanceMethod yX1_wearByWriting, Cond.selects RX1 yX1_wearByWriting yX1_wearByWriting]
def wsX3_write_r5 : List Cond := [Cond.code yX1_wearByWriting cX1_wearByWriting 2 none, Cond.methodLink RX1 115 yX1_lookAt, Cond.instanceMethod yX1_lookAt, Cond.selects RX1 yX1_lookAt yX1_lookAt, Cond.code yX1_lookAt cX1_lookAt 4 none, Cond.methodLink RX1 136 yX1_moveTo, Cond.instanceMethod yX1_moveTo, Cond.selects RX1 yX1_moveTo yX1_moveTo, Cond.code yX1_moveTo cX1_moveTo 2 none, Cond.methodLink RX1 89 yX1_isBad, Cond.instanceMethod yX1_isBad, Cond.selects RX1 yX1_isBad yX1_isBad, Cond.code yX1_isBad cX1_isBad 2 (some .boolean), Cond.methodLink RX1 139 yX1_lose, Cond.instanceMethod yX1_lose, Cond.selects RX1 yX1_lose yX1_lose, Cond.code yX1_lose cX1_lose 2 none, Cond.methodLink RX3 47 yX3_settle, Cond.instanceMethod yX3_settle, Cond.selects RX3 yX3_settle yX3_settle, Cond.code yX3_settle cX3_settle 2 (some .int), Cond.fieldLink RX3 25 "LentSectors" "history" "LLentSectors$History;", Cond.methodLink RX3 145 yX2_record, Cond.instanceMethod yX2_record]
def wsX3_write_r6 : List Cond := [Cond.selects RX2 yX2_record yX2_record, Cond.initialized RX2, Cond.code yX2_record cX2_record 2 none, Cond.fieldLink RX2 21 "LentSectors$History" "many" "I", Cond.fieldLink RX2 17 "LentSectors$History" "oldest" "I", Cond.fieldLink RX2 11 "LentSectors$History" "rooms" "[LLentSectors$Heads;", Cond.methodLink RX2 25 yX1_takeOver]
def wsX3_write : List Cond := .code yX3_write cX3_write 3 (some .int) :: ((wsX3_write_r1 ++ (wsX3_write_r2 ++ (wsX3_write_r3 ++ (wsX3_write_r4 ++ (wsX3_write_r5 ++ wsX3_write_r6))))) ++ wsX30 ++ wsX10 ++ wsX20)
def wsX3_copy_r1 : List Cond := [Cond.fieldLink RX3 12 "LentSectors" "now" "LLentSectors$Heads;", Cond.fieldLink RX3 16 "LentSectors" "trial" "LLentSectors$Heads;", Cond.methodLink RX3 67 yX1_isAddress, Cond.instanceMethod yX1_isAddress, Cond.selects RX1 yX1_isAddress yX1_isAddress, Cond.initialized RX1, Cond.code yX1_isAddress cX1_isAddress 2 (some .boolean), Cond.fieldLink RX1 19 "LentSectors$Heads" "spares" "[I", Cond.static yX3_isSector, Cond.initialized RX3, Cond.code yX3_isSector cX3_isSector 1 (some .boolean), Cond.static yX3_placeOf, Cond.code yX3_placeOf cX3_placeOf 1 (some .int), Cond.static yX3_headOf, Cond.code yX3_headOf cX3_headOf 1 (some .int), Cond.methodLink RX3 40 yX3_startTrial, Cond.instanceMethod yX3_startTrial, Cond.selects RX3 yX3_startTrial yX3_startTrial, Cond.code yX3_startTrial cX3_startTrial 1 none, Cond.methodLink RX3 115 yX1_takeOver, Cond.instanceMethod yX1_takeOver, Cond.selects RX1 yX1_takeOver yX1_takeOver, Cond.code yX1_takeOver cX1_takeOver 2 none, Cond.fieldLink RX1 9 "LentSectors$Heads" "limit" "I"]
def wsX3_copy_r2 : List Cond := [Cond.fieldLink RX1 15 "LentSectors$Heads" "ageing" "[I", Cond.methodLink RX1 63 arraycopyName, Cond.native arraycopyName, Cond.static arraycopyName, Cond.initialized "java/lang/System", Cond.fieldLink RX1 22 "LentSectors$Heads" "givenUp" "[Z", Cond.fieldLink RX1 26 "LentSectors$Heads" "wear" "[I", Cond.fieldLink RX1 29 "LentSectors$Heads" "value" "[I", Cond.fieldLink RX1 32 "LentSectors$Heads" "rescuesOf" "[I", Cond.fieldLink RX1 35 "LentSectors$Heads" "server" "[I", Cond.fieldLink RX1 38 "LentSectors$Heads" "client" "[I", Cond.fieldLink RX1 41 "LentSectors$Heads" "arm" "I", Cond.fieldLink RX1 44 "LentSectors$Heads" "steps" "I", Cond.fieldLink RX1 47 "LentSectors$Heads" "rescues" "I", Cond.fieldLink RX1 50 "LentSectors$Heads" "losses" "I", Cond.fieldLink RX1 53 "LentSectors$Heads" "reads" "I", Cond.fieldLink RX1 56 "LentSectors$Heads" "writes" "I", Cond.methodLink RX3 70 yX1_copyRow, Cond.instanceMethod yX1_copyRow, Cond.selects RX1 yX1_copyRow yX1_copyRow, Cond.code yX1_copyRow cX1_copyRow 6 (some .int), Cond.methodLink RX1 127 yX1_readAt, Cond.instanceMethod yX1_readAt, Cond.selects RX1 yX1_readAt yX1_readAt]
def wsX3_copy_r3 : List Cond := [Cond.code yX1_readAt cX1_readAt 2 (some .int), Cond.methodLink RX1 69 yX1_isAddress, Cond.methodLink RX1 83 yX1_isLost, Cond.instanceMethod yX1_isLost, Cond.selects RX1 yX1_isLost yX1_isLost, Cond.code yX1_isLost cX1_isLost 2 (some .boolean), Cond.methodLink RX1 108 yX1_goTo, Cond.instanceMethod yX1_goTo, Cond.selects RX1 yX1_goTo yX1_goTo, Cond.code yX1_goTo cX1_goTo 2 none, Cond.methodLink RX1 145 yX1_stepsTo, Cond.instanceMethod yX1_stepsTo, Cond.selects RX1 yX1_stepsTo yX1_stepsTo, Cond.code yX1_stepsTo cX1_stepsTo 3 (some .int), Cond.static yX3_stepsBetween, Cond.code yX3_stepsBetween cX3_stepsBetween 3 (some .int), Cond.methodLink RX3 151 Lib.Math.abs.name, Cond.static Lib.Math.abs.name, Cond.initialized "java/lang/Math", Cond.code Lib.Math.abs.name Lib.Math.abs.code 1 (some .int), Cond.methodLink RX3 148 yX3_placeOf, Cond.methodLink RX3 156 yX3_headOf, Cond.methodLink RX1 112 yX1_wearByReading, Cond.instanceMethod yX1_wearByReading]
def wsX3_copy_r4 : List Cond := [Cond.selects RX1 yX1_wearByReading yX1_wearByReading, Cond.code yX1_wearByReading cX1_wearByReading 2 none, Cond.methodLink RX1 115 yX1_lookAt, Cond.instanceMethod yX1_lookAt, Cond.selects RX1 yX1_lookAt yX1_lookAt, Cond.code yX1_lookAt cX1_lookAt 4 none, Cond.methodLink RX1 86 yX1_isGood, Cond.instanceMethod yX1_isGood, Cond.selects RX1 yX1_isGood yX1_isGood, Cond.code yX1_isGood cX1_isGood 2 (some .boolean), Cond.methodLink RX1 118 yX1_lendableTo, Cond.instanceMethod yX1_lendableTo, Cond.selects RX1 yX1_lendableTo yX1_lendableTo, Cond.code yX1_lendableTo cX1_lendableTo 7 (some .int), Cond.methodLink RX1 95 yX1_firstFreeOf, Cond.instanceMethod yX1_firstFreeOf, Cond.selects RX1 yX1_firstFreeOf yX1_firstFreeOf, Cond.code yX1_firstFreeOf cX1_firstFreeOf 3 (some .int), Cond.methodLink RX1 92 yX1_isFree, Cond.instanceMethod yX1_isFree, Cond.selects RX1 yX1_isFree yX1_isFree, Cond.code yX1_isFree cX1_isFree 4 (some .boolean), Cond.methodLink RX1 98 yX1_freeOf, Cond.instanceMethod yX1_freeOf]
def wsX3_copy_r5 : List Cond := [Cond.selects RX1 yX1_freeOf yX1_freeOf, Cond.code yX1_freeOf cX1_freeOf 4 (some .int), Cond.methodLink RX1 121 yX1_lend, Cond.instanceMethod yX1_lend, Cond.selects RX1 yX1_lend yX1_lend, Cond.code yX1_lend cX1_lend 3 none, Cond.methodLink RX1 142 yX1_release, Cond.instanceMethod yX1_release, Cond.selects RX1 yX1_release yX1_release, Cond.code yX1_release cX1_release 2 none, Cond.methodLink RX1 136 yX1_moveTo, Cond.instanceMethod yX1_moveTo, Cond.selects RX1 yX1_moveTo yX1_moveTo, Cond.code yX1_moveTo cX1_moveTo 2 none, Cond.methodLink RX1 124 yX1_wearByWriting, Cond.instanceMethod yX1_wearByWriting, Cond.selects RX1 yX1_wearByWriting yX1_wearByWriting, Cond.code yX1_wearByWriting cX1_wearByWriting 2 none, Cond.methodLink RX1 89 yX1_isBad, Cond.instanceMethod yX1_isBad, Cond.selects RX1 yX1_isBad yX1_isBad, Cond.code yX1_isBad cX1_isBad 2 (some .boolean), Cond.methodLink RX1 139 yX1_lose, Cond.instanceMethod yX1_lose]
def wsX3_copy_r6 : List Cond := [Cond.selects RX1 yX1_lose yX1_lose, Cond.code yX1_lose cX1_lose 2 none, Cond.methodLink RX1 130 yX1_writeAt, Cond.instanceMethod yX1_writeAt, Cond.selects RX1 yX1_writeAt yX1_writeAt, Cond.code yX1_writeAt cX1_writeAt 4 (some .int), Cond.methodLink RX3 47 yX3_settle, Cond.instanceMethod yX3_settle, Cond.selects RX3 yX3_settle yX3_settle, Cond.code yX3_settle cX3_settle 2 (some .int), Cond.fieldLink RX3 25 "LentSectors" "history" "LLentSectors$History;", Cond.methodLink RX3 145 yX2_record, Cond.instanceMethod yX2_record, Cond.selects RX2 yX2_record yX2_record, Cond.initialized RX2, Cond.code yX2_record cX2_record 2 none, Cond.fieldLink RX2 21 "LentSectors$History" "many" "I", Cond.fieldLink RX2 17 "LentSectors$History" "oldest" "I", Cond.fieldLink RX2 11 "LentSectors$History" "rooms" "[LLentSectors$Heads;", Cond.methodLink RX2 25 yX1_takeOver]
def wsX3_copy : List Cond := .code yX3_copy cX3_copy 5 (some .int) :: ((wsX3_copy_r1 ++ (wsX3_copy_r2 ++ (wsX3_copy_r3 ++ (wsX3_copy_r4 ++ (wsX3_copy_r5 ++ wsX3_copy_r6))))) ++ wsX30 ++ wsX10 ++ wsX20)
def wsX3_isHead : List Cond := .code yX3_isHead cX3_isHead 1 (some .boolean) :: ([])
def wsX3_test_r1 : List Cond := [Cond.fieldLink RX3 16 "LentSectors" "trial" "LLentSectors$Heads;", Cond.methodLink RX3 50 yX3_isHead, Cond.static yX3_isHead, Cond.initialized RX3, Cond.code yX3_isHead cX3_isHead 1 (some .boolean), Cond.methodLink RX3 40 yX3_startTrial, Cond.instanceMethod yX3_startTrial, Cond.selects RX3 yX3_startTrial yX3_startTrial, Cond.code yX3_startTrial cX3_startTrial 1 none, Cond.fieldLink RX3 12 "LentSectors" "now" "LLentSectors$Heads;", Cond.methodLink RX3 115 yX1_takeOver, Cond.instanceMethod yX1_takeOver, Cond.selects RX1 yX1_takeOver yX1_takeOver, Cond.initialized RX1, Cond.code yX1_takeOver cX1_takeOver 2 none, Cond.fieldLink RX1 9 "LentSectors$Heads" "limit" "I", Cond.fieldLink RX1 15 "LentSectors$Heads" "ageing" "[I", Cond.methodLink RX1 63 arraycopyName, Cond.native arraycopyName, Cond.static arraycopyName, Cond.initialized "java/lang/System", Cond.fieldLink RX1 19 "LentSectors$Heads" "spares" "[I", Cond.fieldLink RX1 22 "LentSectors$Heads" "givenUp" "[Z", Cond.fieldLink RX1 26 "LentSectors$Heads" "wear" "[I"]
def wsX3_test_r2 : List Cond := [Cond.fieldLink RX1 29 "LentSectors$Heads" "value" "[I", Cond.fieldLink RX1 32 "LentSectors$Heads" "rescuesOf" "[I", Cond.fieldLink RX1 35 "LentSectors$Heads" "server" "[I", Cond.fieldLink RX1 38 "LentSectors$Heads" "client" "[I", Cond.fieldLink RX1 41 "LentSectors$Heads" "arm" "I", Cond.fieldLink RX1 44 "LentSectors$Heads" "steps" "I", Cond.fieldLink RX1 47 "LentSectors$Heads" "rescues" "I", Cond.fieldLink RX1 50 "LentSectors$Heads" "losses" "I", Cond.fieldLink RX1 53 "LentSectors$Heads" "reads" "I", Cond.fieldLink RX1 56 "LentSectors$Heads" "writes" "I", Cond.methodLink RX3 74 yX1_testHead, Cond.instanceMethod yX1_testHead, Cond.selects RX1 yX1_testHead yX1_testHead, Cond.code yX1_testHead cX1_testHead 4 (some .int), Cond.methodLink RX1 133 yX1_lostOf, Cond.instanceMethod yX1_lostOf, Cond.selects RX1 yX1_lostOf yX1_lostOf, Cond.code yX1_lostOf cX1_lostOf 4 (some .int), Cond.methodLink RX1 83 yX1_isLost, Cond.instanceMethod yX1_isLost, Cond.selects RX1 yX1_isLost yX1_isLost, Cond.code yX1_isLost cX1_isLost 2 (some .boolean), Cond.methodLink RX1 127 yX1_readAt, Cond.instanceMethod yX1_readAt]
def wsX3_test_r3 : List Cond := [Cond.selects RX1 yX1_readAt yX1_readAt, Cond.code yX1_readAt cX1_readAt 2 (some .int), Cond.methodLink RX1 69 yX1_isAddress, Cond.instanceMethod yX1_isAddress, Cond.selects RX1 yX1_isAddress yX1_isAddress, Cond.code yX1_isAddress cX1_isAddress 2 (some .boolean), Cond.static yX3_isSector, Cond.code yX3_isSector cX3_isSector 1 (some .boolean), Cond.static yX3_placeOf, Cond.code yX3_placeOf cX3_placeOf 1 (some .int), Cond.static yX3_headOf, Cond.code yX3_headOf cX3_headOf 1 (some .int), Cond.methodLink RX1 108 yX1_goTo, Cond.instanceMethod yX1_goTo, Cond.selects RX1 yX1_goTo yX1_goTo, Cond.code yX1_goTo cX1_goTo 2 none, Cond.methodLink RX1 145 yX1_stepsTo, Cond.instanceMethod yX1_stepsTo, Cond.selects RX1 yX1_stepsTo yX1_stepsTo, Cond.code yX1_stepsTo cX1_stepsTo 3 (some .int), Cond.static yX3_stepsBetween, Cond.code yX3_stepsBetween cX3_stepsBetween 3 (some .int), Cond.methodLink RX3 151 Lib.Math.abs.name, Cond.static Lib.Math.abs.name]
def wsX3_test_r4 : List Cond := [Cond.initialized "java/lang/Math", Cond.code Lib.Math.abs.name Lib.Math.abs.code 1 (some .int), Cond.methodLink RX3 148 yX3_placeOf, Cond.methodLink RX3 156 yX3_headOf, Cond.methodLink RX1 112 yX1_wearByReading, Cond.instanceMethod yX1_wearByReading, Cond.selects RX1 yX1_wearByReading yX1_wearByReading, Cond.code yX1_wearByReading cX1_wearByReading 2 none, Cond.methodLink RX1 115 yX1_lookAt, Cond.instanceMethod yX1_lookAt, Cond.selects RX1 yX1_lookAt yX1_lookAt, Cond.code yX1_lookAt cX1_lookAt 4 none, Cond.methodLink RX1 86 yX1_isGood, Cond.instanceMethod yX1_isGood, Cond.selects RX1 yX1_isGood yX1_isGood, Cond.code yX1_isGood cX1_isGood 2 (some .boolean), Cond.methodLink RX1 118 yX1_lendableTo, Cond.instanceMethod yX1_lendableTo, Cond.selects RX1 yX1_lendableTo yX1_lendableTo, Cond.code yX1_lendableTo cX1_lendableTo 7 (some .int), Cond.methodLink RX1 95 yX1_firstFreeOf, Cond.instanceMethod yX1_firstFreeOf, Cond.selects RX1 yX1_firstFreeOf yX1_firstFreeOf, Cond.code yX1_firstFreeOf cX1_firstFreeOf 3 (some .int)]
def wsX3_test_r5 : List Cond := [Cond.methodLink RX1 92 yX1_isFree, Cond.instanceMethod yX1_isFree, Cond.selects RX1 yX1_isFree yX1_isFree, Cond.code yX1_isFree cX1_isFree 4 (some .boolean), Cond.methodLink RX1 98 yX1_freeOf, Cond.instanceMethod yX1_freeOf, Cond.selects RX1 yX1_freeOf yX1_freeOf, Cond.code yX1_freeOf cX1_freeOf 4 (some .int), Cond.methodLink RX1 121 yX1_lend, Cond.instanceMethod yX1_lend, Cond.selects RX1 yX1_lend yX1_lend, Cond.code yX1_lend cX1_lend 3 none, Cond.methodLink RX1 142 yX1_release, Cond.instanceMethod yX1_release, Cond.selects RX1 yX1_release yX1_release, Cond.code yX1_release cX1_release 2 none, Cond.methodLink RX1 136 yX1_moveTo, Cond.instanceMethod yX1_moveTo, Cond.selects RX1 yX1_moveTo yX1_moveTo, Cond.code yX1_moveTo cX1_moveTo 2 none, Cond.methodLink RX1 124 yX1_wearByWriting, Cond.instanceMethod yX1_wearByWriting, Cond.selects RX1 yX1_wearByWriting yX1_wearByWriting, Cond.code yX1_wearByWriting cX1_wearByWriting 2 none]
def wsX3_test_r6 : List Cond := [Cond.methodLink RX1 89 yX1_isBad, Cond.instanceMethod yX1_isBad, Cond.selects RX1 yX1_isBad yX1_isBad, Cond.code yX1_isBad cX1_isBad 2 (some .boolean), Cond.methodLink RX1 139 yX1_lose, Cond.instanceMethod yX1_lose, Cond.selects RX1 yX1_lose yX1_lose, Cond.code yX1_lose cX1_lose 2 none, Cond.methodLink RX3 47 yX3_settle, Cond.instanceMethod yX3_settle, Cond.selects RX3 yX3_settle yX3_settle, Cond.code yX3_settle cX3_settle 2 (some .int), Cond.fieldLink RX3 25 "LentSectors" "history" "LLentSectors$History;", Cond.methodLink RX3 145 yX2_record, Cond.instanceMethod yX2_record, Cond.selects RX2 yX2_record yX2_record, Cond.initialized RX2, Cond.code yX2_record cX2_record 2 none, Cond.fieldLink RX2 21 "LentSectors$History" "many" "I", Cond.fieldLink RX2 17 "LentSectors$History" "oldest" "I", Cond.fieldLink RX2 11 "LentSectors$History" "rooms" "[LLentSectors$Heads;", Cond.methodLink RX2 25 yX1_takeOver]
def wsX3_test : List Cond := .code yX3_test cX3_test 2 (some .int) :: ((wsX3_test_r1 ++ (wsX3_test_r2 ++ (wsX3_test_r3 ++ (wsX3_test_r4 ++ (wsX3_test_r5 ++ wsX3_test_r6))))) ++ wsX30 ++ wsX10 ++ wsX20)
def wsX3_perform_r1 : List Cond := [Cond.fieldLink RX3 32 "LentSectors" "text" "LLentSectors$CommandText;", Cond.fieldLink RX3 16 "LentSectors" "trial" "LLentSectors$Heads;", Cond.methodLink RX3 77 yX0_parse, Cond.instanceMethod yX0_parse, Cond.selects RX0 yX0_parse yX0_parse, Cond.initialized RX0, Cond.code yX0_parse cX0_parse 2 (some .int), Cond.fieldLink RX0 28 "LentSectors$CommandText" "at" "I", Cond.fieldLink RX0 25 "LentSectors$CommandText" "commands" "I", Cond.methodLink RX0 31 yX0_takeCommand, Cond.instanceMethod yX0_takeCommand, Cond.selects RX0 yX0_takeCommand yX0_takeCommand, Cond.code yX0_takeCommand cX0_takeCommand 4 (some .boolean), Cond.methodLink RX0 39 yX0_take, Cond.instanceMethod yX0_take, Cond.selects RX0 yX0_take yX0_take, Cond.code yX0_take cX0_take 2 (some .boolean), Cond.methodLink RX0 35 yX0_peek, Cond.instanceMethod yX0_peek, Cond.selects RX0 yX0_peek yX0_peek, Cond.code yX0_peek cX0_peek 1 (some .int), Cond.fieldLink RX0 15 "LentSectors$CommandText" "length" "I", Cond.fieldLink RX0 9 "LentSectors$CommandText" "codes" "[I", Cond.methodLink RX0 43 yX0_takeNumber]
def wsX3_perform_r2 : List Cond := [Cond.instanceMethod yX0_takeNumber, Cond.selects RX0 yX0_takeNumber yX0_takeNumber, Cond.code yX0_takeNumber cX0_takeNumber 4 (some .int), Cond.methodLink RX0 51 yX0_digitAt, Cond.instanceMethod yX0_digitAt, Cond.selects RX0 yX0_digitAt yX0_digitAt, Cond.code yX0_digitAt cX0_digitAt 2 (some .int), Cond.methodLink RX0 47 yX0_addCommand, Cond.instanceMethod yX0_addCommand, Cond.selects RX0 yX0_addCommand yX0_addCommand, Cond.code yX0_addCommand cX0_addCommand 3 none, Cond.fieldLink RX0 19 "LentSectors$CommandText" "sectors" "[I", Cond.fieldLink RX0 22 "LentSectors$CommandText" "values" "[I", Cond.methodLink RX3 40 yX3_startTrial, Cond.instanceMethod yX3_startTrial, Cond.selects RX3 yX3_startTrial yX3_startTrial, Cond.initialized RX3, Cond.code yX3_startTrial cX3_startTrial 1 none, Cond.fieldLink RX3 12 "LentSectors" "now" "LLentSectors$Heads;", Cond.methodLink RX3 115 yX1_takeOver, Cond.instanceMethod yX1_takeOver, Cond.selects RX1 yX1_takeOver yX1_takeOver, Cond.initialized RX1, Cond.code yX1_takeOver cX1_takeOver 2 none]
def wsX3_perform_r3 : List Cond := [Cond.fieldLink RX1 9 "LentSectors$Heads" "limit" "I", Cond.fieldLink RX1 15 "LentSectors$Heads" "ageing" "[I", Cond.methodLink RX1 63 arraycopyName, Cond.native arraycopyName, Cond.static arraycopyName, Cond.initialized "java/lang/System", Cond.fieldLink RX1 19 "LentSectors$Heads" "spares" "[I", Cond.fieldLink RX1 22 "LentSectors$Heads" "givenUp" "[Z", Cond.fieldLink RX1 26 "LentSectors$Heads" "wear" "[I", Cond.fieldLink RX1 29 "LentSectors$Heads" "value" "[I", Cond.fieldLink RX1 32 "LentSectors$Heads" "rescuesOf" "[I", Cond.fieldLink RX1 35 "LentSectors$Heads" "server" "[I", Cond.fieldLink RX1 38 "LentSectors$Heads" "client" "[I", Cond.fieldLink RX1 41 "LentSectors$Heads" "arm" "I", Cond.fieldLink RX1 44 "LentSectors$Heads" "steps" "I", Cond.fieldLink RX1 47 "LentSectors$Heads" "rescues" "I", Cond.fieldLink RX1 50 "LentSectors$Heads" "losses" "I", Cond.fieldLink RX1 53 "LentSectors$Heads" "reads" "I", Cond.fieldLink RX1 56 "LentSectors$Heads" "writes" "I", Cond.methodLink RX3 81 yX0_commandCount, Cond.instanceMethod yX0_commandCount, Cond.selects RX0 yX0_commandCount yX0_commandCount, Cond.code yX0_commandCount cX0_commandCount 1 (some .int), Cond.methodLink RX3 84 yX0_commandSector]
def wsX3_perform_r4 : List Cond := [Cond.instanceMethod yX0_commandSector, Cond.selects RX0 yX0_commandSector yX0_commandSector, Cond.code yX0_commandSector cX0_commandSector 2 (some .int), Cond.methodLink RX3 87 yX0_commandValue, Cond.instanceMethod yX0_commandValue, Cond.selects RX0 yX0_commandValue yX0_commandValue, Cond.code yX0_commandValue cX0_commandValue 2 (some .int), Cond.methodLink RX3 61 yX1_readAt, Cond.instanceMethod yX1_readAt, Cond.selects RX1 yX1_readAt yX1_readAt, Cond.code yX1_readAt cX1_readAt 2 (some .int), Cond.methodLink RX1 69 yX1_isAddress, Cond.instanceMethod yX1_isAddress, Cond.selects RX1 yX1_isAddress yX1_isAddress, Cond.code yX1_isAddress cX1_isAddress 2 (some .boolean), Cond.static yX3_isSector, Cond.code yX3_isSector cX3_isSector 1 (some .boolean), Cond.static yX3_placeOf, Cond.code yX3_placeOf cX3_placeOf 1 (some .int), Cond.static yX3_headOf, Cond.code yX3_headOf cX3_headOf 1 (some .int), Cond.methodLink RX1 83 yX1_isLost, Cond.instanceMethod yX1_isLost, Cond.selects RX1 yX1_isLost yX1_isLost]
def wsX3_perform_r5 : List Cond := [Cond.code yX1_isLost cX1_isLost 2 (some .boolean), Cond.methodLink RX1 108 yX1_goTo, Cond.instanceMethod yX1_goTo, Cond.selects RX1 yX1_goTo yX1_goTo, Cond.code yX1_goTo cX1_goTo 2 none, Cond.methodLink RX1 145 yX1_stepsTo, Cond.instanceMethod yX1_stepsTo, Cond.selects RX1 yX1_stepsTo yX1_stepsTo, Cond.code yX1_stepsTo cX1_stepsTo 3 (some .int), Cond.static yX3_stepsBetween, Cond.code yX3_stepsBetween cX3_stepsBetween 3 (some .int), Cond.methodLink RX3 151 Lib.Math.abs.name, Cond.static Lib.Math.abs.name, Cond.initialized "java/lang/Math", Cond.code Lib.Math.abs.name Lib.Math.abs.code 1 (some .int), Cond.methodLink RX3 148 yX3_placeOf, Cond.methodLink RX3 156 yX3_headOf, Cond.methodLink RX1 112 yX1_wearByReading, Cond.instanceMethod yX1_wearByReading, Cond.selects RX1 yX1_wearByReading yX1_wearByReading, Cond.code yX1_wearByReading cX1_wearByReading 2 none, Cond.methodLink RX1 115 yX1_lookAt, Cond.instanceMethod yX1_lookAt, Cond.selects RX1 yX1_lookAt yX1_lookAt]
def wsX3_perform_r6 : List Cond := [Cond.code yX1_lookAt cX1_lookAt 4 none, Cond.methodLink RX1 86 yX1_isGood, Cond.instanceMethod yX1_isGood, Cond.selects RX1 yX1_isGood yX1_isGood, Cond.code yX1_isGood cX1_isGood 2 (some .boolean), Cond.methodLink RX1 118 yX1_lendableTo, Cond.instanceMethod yX1_lendableTo, Cond.selects RX1 yX1_lendableTo yX1_lendableTo, Cond.code yX1_lendableTo cX1_lendableTo 7 (some .int), Cond.methodLink RX1 95 yX1_firstFreeOf, Cond.instanceMethod yX1_firstFreeOf, Cond.selects RX1 yX1_firstFreeOf yX1_firstFreeOf, Cond.code yX1_firstFreeOf cX1_firstFreeOf 3 (some .int), Cond.methodLink RX1 92 yX1_isFree, Cond.instanceMethod yX1_isFree, Cond.selects RX1 yX1_isFree yX1_isFree, Cond.code yX1_isFree cX1_isFree 4 (some .boolean), Cond.methodLink RX1 98 yX1_freeOf, Cond.instanceMethod yX1_freeOf, Cond.selects RX1 yX1_freeOf yX1_freeOf, Cond.code yX1_freeOf cX1_freeOf 4 (some .int), Cond.methodLink RX1 121 yX1_lend, Cond.instanceMethod yX1_lend, Cond.selects RX1 yX1_lend yX1_lend]
def wsX3_perform_r7 : List Cond := [Cond.code yX1_lend cX1_lend 3 none, Cond.methodLink RX1 142 yX1_release, Cond.instanceMethod yX1_release, Cond.selects RX1 yX1_release yX1_release, Cond.code yX1_release cX1_release 2 none, Cond.methodLink RX1 136 yX1_moveTo, Cond.instanceMethod yX1_moveTo, Cond.selects RX1 yX1_moveTo yX1_moveTo, Cond.code yX1_moveTo cX1_moveTo 2 none, Cond.methodLink RX1 124 yX1_wearByWriting, Cond.instanceMethod yX1_wearByWriting, Cond.selects RX1 yX1_wearByWriting yX1_wearByWriting, Cond.code yX1_wearByWriting cX1_wearByWriting 2 none, Cond.methodLink RX1 89 yX1_isBad, Cond.instanceMethod yX1_isBad, Cond.selects RX1 yX1_isBad yX1_isBad, Cond.code yX1_isBad cX1_isBad 2 (some .boolean), Cond.methodLink RX1 139 yX1_lose, Cond.instanceMethod yX1_lose, Cond.selects RX1 yX1_lose yX1_lose, Cond.code yX1_lose cX1_lose 2 none, Cond.methodLink RX3 64 yX1_writeAt, Cond.instanceMethod yX1_writeAt, Cond.selects RX1 yX1_writeAt yX1_writeAt]
def wsX3_perform_r8 : List Cond := [Cond.code yX1_writeAt cX1_writeAt 4 (some .int), Cond.methodLink RX3 47 yX3_settle, Cond.instanceMethod yX3_settle, Cond.selects RX3 yX3_settle yX3_settle, Cond.code yX3_settle cX3_settle 2 (some .int), Cond.fieldLink RX3 25 "LentSectors" "history" "LLentSectors$History;", Cond.methodLink RX3 145 yX2_record, Cond.instanceMethod yX2_record, Cond.selects RX2 yX2_record yX2_record, Cond.initialized RX2, Cond.code yX2_record cX2_record 2 none, Cond.fieldLink RX2 21 "LentSectors$History" "many" "I", Cond.fieldLink RX2 17 "LentSectors$History" "oldest" "I", Cond.fieldLink RX2 11 "LentSectors$History" "rooms" "[LLentSectors$Heads;", Cond.methodLink RX2 25 yX1_takeOver]
def wsX3_perform : List Cond := .code yX3_perform cX3_perform 6 (some .int) :: ((wsX3_perform_r1 ++ (wsX3_perform_r2 ++ (wsX3_perform_r3 ++ (wsX3_perform_r4 ++ (wsX3_perform_r5 ++ (wsX3_perform_r6 ++ (wsX3_perform_r7 ++ wsX3_perform_r8))))))) ++ wsX30 ++ wsX00 ++ wsX10 ++ wsX20)
def wsX3_giveBack_r1 : List Cond := [Cond.fieldLink RX3 16 "LentSectors" "trial" "LLentSectors$Heads;", Cond.methodLink RX3 40 yX3_startTrial, Cond.instanceMethod yX3_startTrial, Cond.selects RX3 yX3_startTrial yX3_startTrial, Cond.initialized RX3, Cond.code yX3_startTrial cX3_startTrial 1 none, Cond.fieldLink RX3 12 "LentSectors" "now" "LLentSectors$Heads;", Cond.methodLink RX3 115 yX1_takeOver, Cond.instanceMethod yX1_takeOver, Cond.selects RX1 yX1_takeOver yX1_takeOver, Cond.initialized RX1, Cond.code yX1_takeOver cX1_takeOver 2 none, Cond.fieldLink RX1 9 "LentSectors$Heads" "limit" "I", Cond.fieldLink RX1 15 "LentSectors$Heads" "ageing" "[I", Cond.methodLink RX1 63 arraycopyName, Cond.native arraycopyName, Cond.static arraycopyName, Cond.initialized "java/lang/System", Cond.fieldLink RX1 19 "LentSectors$Heads" "spares" "[I", Cond.fieldLink RX1 22 "LentSectors$Heads" "givenUp" "[Z", Cond.fieldLink RX1 26 "LentSectors$Heads" "wear" "[I", Cond.fieldLink RX1 29 "LentSectors$Heads" "value" "[I", Cond.fieldLink RX1 32 "LentSectors$Heads" "rescuesOf" "[I", Cond.fieldLink RX1 35 "LentSectors$Heads" "server" "[I"]
def wsX3_giveBack_r2 : List Cond := [Cond.fieldLink RX1 38 "LentSectors$Heads" "client" "[I", Cond.fieldLink RX1 41 "LentSectors$Heads" "arm" "I", Cond.fieldLink RX1 44 "LentSectors$Heads" "steps" "I", Cond.fieldLink RX1 47 "LentSectors$Heads" "rescues" "I", Cond.fieldLink RX1 50 "LentSectors$Heads" "losses" "I", Cond.fieldLink RX1 53 "LentSectors$Heads" "reads" "I", Cond.fieldLink RX1 56 "LentSectors$Heads" "writes" "I", Cond.methodLink RX3 90 yX1_giveBackAt, Cond.instanceMethod yX1_giveBackAt, Cond.selects RX1 yX1_giveBackAt yX1_giveBackAt, Cond.code yX1_giveBackAt cX1_giveBackAt 3 (some .int), Cond.methodLink RX1 69 yX1_isAddress, Cond.instanceMethod yX1_isAddress, Cond.selects RX1 yX1_isAddress yX1_isAddress, Cond.code yX1_isAddress cX1_isAddress 2 (some .boolean), Cond.static yX3_isSector, Cond.code yX3_isSector cX3_isSector 1 (some .boolean), Cond.static yX3_placeOf, Cond.code yX3_placeOf cX3_placeOf 1 (some .int), Cond.static yX3_headOf, Cond.code yX3_headOf cX3_headOf 1 (some .int), Cond.methodLink RX1 148 yX1_isLongWay, Cond.instanceMethod yX1_isLongWay, Cond.selects RX1 yX1_isLongWay yX1_isLongWay]
def wsX3_giveBack_r3 : List Cond := [Cond.code yX1_isLongWay cX1_isLongWay 2 (some .boolean), Cond.methodLink RX1 83 yX1_isLost, Cond.instanceMethod yX1_isLost, Cond.selects RX1 yX1_isLost yX1_isLost, Cond.code yX1_isLost cX1_isLost 2 (some .boolean), Cond.methodLink RX1 86 yX1_isGood, Cond.instanceMethod yX1_isGood, Cond.selects RX1 yX1_isGood yX1_isGood, Cond.code yX1_isGood cX1_isGood 2 (some .boolean), Cond.methodLink RX1 108 yX1_goTo, Cond.instanceMethod yX1_goTo, Cond.selects RX1 yX1_goTo yX1_goTo, Cond.code yX1_goTo cX1_goTo 2 none, Cond.methodLink RX1 145 yX1_stepsTo, Cond.instanceMethod yX1_stepsTo, Cond.selects RX1 yX1_stepsTo yX1_stepsTo, Cond.code yX1_stepsTo cX1_stepsTo 3 (some .int), Cond.static yX3_stepsBetween, Cond.code yX3_stepsBetween cX3_stepsBetween 3 (some .int), Cond.methodLink RX3 151 Lib.Math.abs.name, Cond.static Lib.Math.abs.name, Cond.initialized "java/lang/Math", Cond.code Lib.Math.abs.name Lib.Math.abs.code 1 (some .int), Cond.methodLink RX3 148 yX3_placeOf]
def wsX3_giveBack_r4 : List Cond := [Cond.methodLink RX3 156 yX3_headOf, Cond.methodLink RX1 136 yX1_moveTo, Cond.instanceMethod yX1_moveTo, Cond.selects RX1 yX1_moveTo yX1_moveTo, Cond.code yX1_moveTo cX1_moveTo 2 none, Cond.methodLink RX1 124 yX1_wearByWriting, Cond.instanceMethod yX1_wearByWriting, Cond.selects RX1 yX1_wearByWriting yX1_wearByWriting, Cond.code yX1_wearByWriting cX1_wearByWriting 2 none, Cond.methodLink RX1 121 yX1_lend, Cond.instanceMethod yX1_lend, Cond.selects RX1 yX1_lend yX1_lend, Cond.code yX1_lend cX1_lend 3 none, Cond.methodLink RX1 142 yX1_release, Cond.instanceMethod yX1_release, Cond.selects RX1 yX1_release yX1_release, Cond.code yX1_release cX1_release 2 none, Cond.methodLink RX3 47 yX3_settle, Cond.instanceMethod yX3_settle, Cond.selects RX3 yX3_settle yX3_settle, Cond.code yX3_settle cX3_settle 2 (some .int), Cond.fieldLink RX3 25 "LentSectors" "history" "LLentSectors$History;", Cond.methodLink RX3 145 yX2_record, Cond.instanceMethod yX2_record]
def wsX3_giveBack_r5 : List Cond := [Cond.selects RX2 yX2_record yX2_record, Cond.initialized RX2, Cond.code yX2_record cX2_record 2 none, Cond.fieldLink RX2 21 "LentSectors$History" "many" "I", Cond.fieldLink RX2 17 "LentSectors$History" "oldest" "I", Cond.fieldLink RX2 11 "LentSectors$History" "rooms" "[LLentSectors$Heads;", Cond.methodLink RX2 25 yX1_takeOver]
def wsX3_giveBack : List Cond := .code yX3_giveBack cX3_giveBack 2 (some .int) :: ((wsX3_giveBack_r1 ++ (wsX3_giveBack_r2 ++ (wsX3_giveBack_r3 ++ (wsX3_giveBack_r4 ++ wsX3_giveBack_r5)))) ++ wsX30 ++ wsX10 ++ wsX20)
def wsX3_giveUp_r1 : List Cond := [Cond.fieldLink RX3 12 "LentSectors" "now" "LLentSectors$Heads;", Cond.fieldLink RX3 16 "LentSectors" "trial" "LLentSectors$Heads;", Cond.methodLink RX3 50 yX3_isHead, Cond.static yX3_isHead, Cond.initialized RX3, Cond.code yX3_isHead cX3_isHead 1 (some .boolean), Cond.methodLink RX3 93 yX1_othersAreGivenUp, Cond.instanceMethod yX1_othersAreGivenUp, Cond.selects RX1 yX1_othersAreGivenUp yX1_othersAreGivenUp, Cond.initialized RX1, Cond.code yX1_othersAreGivenUp cX1_othersAreGivenUp 3 (some .boolean), Cond.fieldLink RX1 22 "LentSectors$Heads" "givenUp" "[Z", Cond.methodLink RX3 96 yX1_isGivenUp, Cond.instanceMethod yX1_isGivenUp, Cond.selects RX1 yX1_isGivenUp yX1_isGivenUp, Cond.code yX1_isGivenUp cX1_isGivenUp 2 (some .boolean), Cond.methodLink RX3 40 yX3_startTrial, Cond.instanceMethod yX3_startTrial, Cond.selects RX3 yX3_startTrial yX3_startTrial, Cond.code yX3_startTrial cX3_startTrial 1 none, Cond.methodLink RX3 115 yX1_takeOver, Cond.instanceMethod yX1_takeOver, Cond.selects RX1 yX1_takeOver yX1_takeOver, Cond.code yX1_takeOver cX1_takeOver 2 none]
def wsX3_giveUp_r2 : List Cond := [Cond.fieldLink RX1 9 "LentSectors$Heads" "limit" "I", Cond.fieldLink RX1 15 "LentSectors$Heads" "ageing" "[I", Cond.methodLink RX1 63 arraycopyName, Cond.native arraycopyName, Cond.static arraycopyName, Cond.initialized "java/lang/System", Cond.fieldLink RX1 19 "LentSectors$Heads" "spares" "[I", Cond.fieldLink RX1 26 "LentSectors$Heads" "wear" "[I", Cond.fieldLink RX1 29 "LentSectors$Heads" "value" "[I", Cond.fieldLink RX1 32 "LentSectors$Heads" "rescuesOf" "[I", Cond.fieldLink RX1 35 "LentSectors$Heads" "server" "[I", Cond.fieldLink RX1 38 "LentSectors$Heads" "client" "[I", Cond.fieldLink RX1 41 "LentSectors$Heads" "arm" "I", Cond.fieldLink RX1 44 "LentSectors$Heads" "steps" "I", Cond.fieldLink RX1 47 "LentSectors$Heads" "rescues" "I", Cond.fieldLink RX1 50 "LentSectors$Heads" "losses" "I", Cond.fieldLink RX1 53 "LentSectors$Heads" "reads" "I", Cond.fieldLink RX1 56 "LentSectors$Heads" "writes" "I", Cond.methodLink RX3 99 yX1_vacate, Cond.instanceMethod yX1_vacate, Cond.selects RX1 yX1_vacate yX1_vacate, Cond.code yX1_vacate cX1_vacate 4 (some .int), Cond.methodLink RX1 69 yX1_isAddress, Cond.instanceMethod yX1_isAddress]
def wsX3_giveUp_r3 : List Cond := [Cond.selects RX1 yX1_isAddress yX1_isAddress, Cond.code yX1_isAddress cX1_isAddress 2 (some .boolean), Cond.static yX3_isSector, Cond.code yX3_isSector cX3_isSector 1 (some .boolean), Cond.static yX3_placeOf, Cond.code yX3_placeOf cX3_placeOf 1 (some .int), Cond.static yX3_headOf, Cond.code yX3_headOf cX3_headOf 1 (some .int), Cond.methodLink RX1 83 yX1_isLost, Cond.instanceMethod yX1_isLost, Cond.selects RX1 yX1_isLost yX1_isLost, Cond.code yX1_isLost cX1_isLost 2 (some .boolean), Cond.methodLink RX1 151 yX1_moveAway, Cond.instanceMethod yX1_moveAway, Cond.selects RX1 yX1_moveAway yX1_moveAway, Cond.code yX1_moveAway cX1_moveAway 3 none, Cond.methodLink RX1 118 yX1_lendableTo, Cond.instanceMethod yX1_lendableTo, Cond.selects RX1 yX1_lendableTo yX1_lendableTo, Cond.code yX1_lendableTo cX1_lendableTo 7 (some .int), Cond.methodLink RX1 95 yX1_firstFreeOf, Cond.instanceMethod yX1_firstFreeOf, Cond.selects RX1 yX1_firstFreeOf yX1_firstFreeOf, Cond.code yX1_firstFreeOf cX1_firstFreeOf 3 (some .int)]
def wsX3_giveUp_r4 : List Cond := [Cond.methodLink RX1 92 yX1_isFree, Cond.instanceMethod yX1_isFree, Cond.selects RX1 yX1_isFree yX1_isFree, Cond.code yX1_isFree cX1_isFree 4 (some .boolean), Cond.methodLink RX1 86 yX1_isGood, Cond.instanceMethod yX1_isGood, Cond.selects RX1 yX1_isGood yX1_isGood, Cond.code yX1_isGood cX1_isGood 2 (some .boolean), Cond.methodLink RX1 98 yX1_freeOf, Cond.instanceMethod yX1_freeOf, Cond.selects RX1 yX1_freeOf yX1_freeOf, Cond.code yX1_freeOf cX1_freeOf 4 (some .int), Cond.methodLink RX1 139 yX1_lose, Cond.instanceMethod yX1_lose, Cond.selects RX1 yX1_lose yX1_lose, Cond.code yX1_lose cX1_lose 2 none, Cond.methodLink RX1 142 yX1_release, Cond.instanceMethod yX1_release, Cond.selects RX1 yX1_release yX1_release, Cond.code yX1_release cX1_release 2 none, Cond.methodLink RX1 121 yX1_lend, Cond.instanceMethod yX1_lend, Cond.selects RX1 yX1_lend yX1_lend, Cond.code yX1_lend cX1_lend 3 none]
def wsX3_giveUp_r5 : List Cond := [Cond.methodLink RX1 124 yX1_wearByWriting, Cond.instanceMethod yX1_wearByWriting, Cond.selects RX1 yX1_wearByWriting yX1_wearByWriting, Cond.code yX1_wearByWriting cX1_wearByWriting 2 none, Cond.methodLink RX3 47 yX3_settle, Cond.instanceMethod yX3_settle, Cond.selects RX3 yX3_settle yX3_settle, Cond.code yX3_settle cX3_settle 2 (some .int), Cond.fieldLink RX3 25 "LentSectors" "history" "LLentSectors$History;", Cond.methodLink RX3 145 yX2_record, Cond.instanceMethod yX2_record, Cond.selects RX2 yX2_record yX2_record, Cond.initialized RX2, Cond.code yX2_record cX2_record 2 none, Cond.fieldLink RX2 21 "LentSectors$History" "many" "I", Cond.fieldLink RX2 17 "LentSectors$History" "oldest" "I", Cond.fieldLink RX2 11 "LentSectors$History" "rooms" "[LLentSectors$Heads;", Cond.methodLink RX2 25 yX1_takeOver]
def wsX3_giveUp : List Cond := .code yX3_giveUp cX3_giveUp 2 (some .int) :: ((wsX3_giveUp_r1 ++ (wsX3_giveUp_r2 ++ (wsX3_giveUp_r3 ++ (wsX3_giveUp_r4 ++ wsX3_giveUp_r5)))) ++ wsX30 ++ wsX10 ++ wsX20)
def wsX3_undo_r1 : List Cond := [Cond.fieldLink RX3 25 "LentSectors" "history" "LLentSectors$History;", Cond.fieldLink RX3 12 "LentSectors" "now" "LLentSectors$Heads;", Cond.methodLink RX3 108 yX2_states, Cond.instanceMethod yX2_states, Cond.selects RX2 yX2_states yX2_states, Cond.initialized RX2, Cond.code yX2_states cX2_states 1 (some .int), Cond.fieldLink RX2 21 "LentSectors$History" "many" "I", Cond.methodLink RX3 111 yX2_takeBack, Cond.instanceMethod yX2_takeBack, Cond.selects RX2 yX2_takeBack yX2_takeBack, Cond.code yX2_takeBack cX2_takeBack 2 none, Cond.fieldLink RX2 11 "LentSectors$History" "rooms" "[LLentSectors$Heads;", Cond.fieldLink RX2 17 "LentSectors$History" "oldest" "I", Cond.methodLink RX2 25 yX1_takeOver, Cond.instanceMethod yX1_takeOver, Cond.selects RX1 yX1_takeOver yX1_takeOver, Cond.initialized RX1, Cond.code yX1_takeOver cX1_takeOver 2 none, Cond.fieldLink RX1 9 "LentSectors$Heads" "limit" "I", Cond.fieldLink RX1 15 "LentSectors$Heads" "ageing" "[I", Cond.methodLink RX1 63 arraycopyName, Cond.native arraycopyName, Cond.static arraycopyName]
def wsX3_undo_r2 : List Cond := [Cond.initialized "java/lang/System", Cond.fieldLink RX1 19 "LentSectors$Heads" "spares" "[I", Cond.fieldLink RX1 22 "LentSectors$Heads" "givenUp" "[Z", Cond.fieldLink RX1 26 "LentSectors$Heads" "wear" "[I", Cond.fieldLink RX1 29 "LentSectors$Heads" "value" "[I", Cond.fieldLink RX1 32 "LentSectors$Heads" "rescuesOf" "[I", Cond.fieldLink RX1 35 "LentSectors$Heads" "server" "[I", Cond.fieldLink RX1 38 "LentSectors$Heads" "client" "[I", Cond.fieldLink RX1 41 "LentSectors$Heads" "arm" "I", Cond.fieldLink RX1 44 "LentSectors$Heads" "steps" "I", Cond.fieldLink RX1 47 "LentSectors$Heads" "rescues" "I", Cond.fieldLink RX1 50 "LentSectors$Heads" "losses" "I", Cond.fieldLink RX1 53 "LentSectors$Heads" "reads" "I", Cond.fieldLink RX1 56 "LentSectors$Heads" "writes" "I"]
def wsX3_undo : List Cond := .code yX3_undo cX3_undo 1 (some .int) :: ((wsX3_undo_r1 ++ wsX3_undo_r2) ++ wsX30 ++ wsX20 ++ wsX10)
def wsX3_restore_r1 : List Cond := [Cond.fieldLink RX3 36 "LentSectors" "hasKept" "Z", Cond.fieldLink RX3 16 "LentSectors" "trial" "LLentSectors$Heads;", Cond.fieldLink RX3 19 "LentSectors" "kept" "LLentSectors$Heads;", Cond.methodLink RX3 115 yX1_takeOver, Cond.instanceMethod yX1_takeOver, Cond.selects RX1 yX1_takeOver yX1_takeOver, Cond.initialized RX1, Cond.code yX1_takeOver cX1_takeOver 2 none, Cond.fieldLink RX1 9 "LentSectors$Heads" "limit" "I", Cond.fieldLink RX1 15 "LentSectors$Heads" "ageing" "[I", Cond.methodLink RX1 63 arraycopyName, Cond.native arraycopyName, Cond.static arraycopyName, Cond.initialized "java/lang/System", Cond.fieldLink RX1 19 "LentSectors$Heads" "spares" "[I", Cond.fieldLink RX1 22 "LentSectors$Heads" "givenUp" "[Z", Cond.fieldLink RX1 26 "LentSectors$Heads" "wear" "[I", Cond.fieldLink RX1 29 "LentSectors$Heads" "value" "[I", Cond.fieldLink RX1 32 "LentSectors$Heads" "rescuesOf" "[I", Cond.fieldLink RX1 35 "LentSectors$Heads" "server" "[I", Cond.fieldLink RX1 38 "LentSectors$Heads" "client" "[I", Cond.fieldLink RX1 41 "LentSectors$Heads" "arm" "I", Cond.fieldLink RX1 44 "LentSectors$Heads" "steps" "I", Cond.fieldLink RX1 47 "LentSectors$Heads" "rescues" "I"]
def wsX3_restore_r2 : List Cond := [Cond.fieldLink RX1 50 "LentSectors$Heads" "losses" "I", Cond.fieldLink RX1 53 "LentSectors$Heads" "reads" "I", Cond.fieldLink RX1 56 "LentSectors$Heads" "writes" "I", Cond.methodLink RX3 118 yX1_stepsSoFar, Cond.instanceMethod yX1_stepsSoFar, Cond.selects RX1 yX1_stepsSoFar yX1_stepsSoFar, Cond.code yX1_stepsSoFar cX1_stepsSoFar 1 (some .int), Cond.methodLink RX3 47 yX3_settle, Cond.instanceMethod yX3_settle, Cond.selects RX3 yX3_settle yX3_settle, Cond.initialized RX3, Cond.code yX3_settle cX3_settle 2 (some .int), Cond.fieldLink RX3 25 "LentSectors" "history" "LLentSectors$History;", Cond.fieldLink RX3 12 "LentSectors" "now" "LLentSectors$Heads;", Cond.methodLink RX3 145 yX2_record, Cond.instanceMethod yX2_record, Cond.selects RX2 yX2_record yX2_record, Cond.initialized RX2, Cond.code yX2_record cX2_record 2 none, Cond.fieldLink RX2 21 "LentSectors$History" "many" "I", Cond.fieldLink RX2 17 "LentSectors$History" "oldest" "I", Cond.fieldLink RX2 11 "LentSectors$History" "rooms" "[LLentSectors$Heads;", Cond.methodLink RX2 25 yX1_takeOver]
def wsX3_restore : List Cond := .code yX3_restore cX3_restore 1 (some .int) :: ((wsX3_restore_r1 ++ wsX3_restore_r2) ++ wsX30 ++ wsX10 ++ wsX20)
def wsX3_address_r1 : List Cond := [Cond.fieldLink RX3 12 "LentSectors" "now" "LLentSectors$Heads;", Cond.methodLink RX3 67 yX1_isAddress, Cond.instanceMethod yX1_isAddress, Cond.selects RX1 yX1_isAddress yX1_isAddress, Cond.initialized RX1, Cond.code yX1_isAddress cX1_isAddress 2 (some .boolean), Cond.fieldLink RX1 19 "LentSectors$Heads" "spares" "[I", Cond.static yX3_isSector, Cond.initialized RX3, Cond.code yX3_isSector cX3_isSector 1 (some .boolean), Cond.static yX3_placeOf, Cond.code yX3_placeOf cX3_placeOf 1 (some .int), Cond.static yX3_headOf, Cond.code yX3_headOf cX3_headOf 1 (some .int), Cond.methodLink RX3 121 yX1_tellAddress, Cond.instanceMethod yX1_tellAddress, Cond.selects RX1 yX1_tellAddress yX1_tellAddress, Cond.code yX1_tellAddress cX1_tellAddress 3 (some .int), Cond.fieldLink RX1 29 "LentSectors$Heads" "value" "[I", Cond.fieldLink RX1 35 "LentSectors$Heads" "server" "[I", Cond.fieldLink RX1 32 "LentSectors$Heads" "rescuesOf" "[I", Cond.methodLink RX1 83 yX1_isLost, Cond.instanceMethod yX1_isLost, Cond.selects RX1 yX1_isLost yX1_isLost]
def wsX3_address_r2 : List Cond := [Cond.code yX1_isLost cX1_isLost 2 (some .boolean), Cond.methodLink RX1 148 yX1_isLongWay, Cond.instanceMethod yX1_isLongWay, Cond.selects RX1 yX1_isLongWay yX1_isLongWay, Cond.code yX1_isLongWay cX1_isLongWay 2 (some .boolean), Cond.methodLink RX1 118 yX1_lendableTo, Cond.instanceMethod yX1_lendableTo, Cond.selects RX1 yX1_lendableTo yX1_lendableTo, Cond.code yX1_lendableTo cX1_lendableTo 7 (some .int), Cond.methodLink RX1 95 yX1_firstFreeOf, Cond.instanceMethod yX1_firstFreeOf, Cond.selects RX1 yX1_firstFreeOf yX1_firstFreeOf, Cond.code yX1_firstFreeOf cX1_firstFreeOf 3 (some .int), Cond.methodLink RX1 92 yX1_isFree, Cond.instanceMethod yX1_isFree, Cond.selects RX1 yX1_isFree yX1_isFree, Cond.code yX1_isFree cX1_isFree 4 (some .boolean), Cond.fieldLink RX1 38 "LentSectors$Heads" "client" "[I", Cond.fieldLink RX1 22 "LentSectors$Heads" "givenUp" "[Z", Cond.methodLink RX1 86 yX1_isGood, Cond.instanceMethod yX1_isGood, Cond.selects RX1 yX1_isGood yX1_isGood, Cond.code yX1_isGood cX1_isGood 2 (some .boolean), Cond.fieldLink RX1 26 "LentSectors$Heads" "wear" "[I"]
def wsX3_address_r3 : List Cond := [Cond.fieldLink RX1 9 "LentSectors$Heads" "limit" "I", Cond.methodLink RX1 98 yX1_freeOf, Cond.instanceMethod yX1_freeOf, Cond.selects RX1 yX1_freeOf yX1_freeOf, Cond.code yX1_freeOf cX1_freeOf 4 (some .int), Cond.methodLink RX1 145 yX1_stepsTo, Cond.instanceMethod yX1_stepsTo, Cond.selects RX1 yX1_stepsTo yX1_stepsTo, Cond.code yX1_stepsTo cX1_stepsTo 3 (some .int), Cond.fieldLink RX1 41 "LentSectors$Heads" "arm" "I", Cond.static yX3_stepsBetween, Cond.code yX3_stepsBetween cX3_stepsBetween 3 (some .int), Cond.methodLink RX3 151 Lib.Math.abs.name, Cond.static Lib.Math.abs.name, Cond.initialized "java/lang/Math", Cond.code Lib.Math.abs.name Lib.Math.abs.code 1 (some .int), Cond.methodLink RX3 148 yX3_placeOf, Cond.methodLink RX3 156 yX3_headOf]
def wsX3_address : List Cond := .code yX3_address cX3_address 3 (some .int) :: ((wsX3_address_r1 ++ (wsX3_address_r2 ++ wsX3_address_r3)) ++ wsX30 ++ wsX10)
def wsX3_sector_r1 : List Cond := [Cond.fieldLink RX3 12 "LentSectors" "now" "LLentSectors$Heads;", Cond.methodLink RX3 124 yX3_isSector, Cond.static yX3_isSector, Cond.initialized RX3, Cond.code yX3_isSector cX3_isSector 1 (some .boolean), Cond.methodLink RX3 127 yX1_tellSector, Cond.instanceMethod yX1_tellSector, Cond.selects RX1 yX1_tellSector yX1_tellSector, Cond.initialized RX1, Cond.code yX1_tellSector cX1_tellSector 3 (some .int), Cond.fieldLink RX1 26 "LentSectors$Heads" "wear" "[I", Cond.fieldLink RX1 38 "LentSectors$Heads" "client" "[I", Cond.methodLink RX1 154 yX1_gradeOf, Cond.instanceMethod yX1_gradeOf, Cond.selects RX1 yX1_gradeOf yX1_gradeOf, Cond.code yX1_gradeOf cX1_gradeOf 2 (some .int), Cond.methodLink RX1 86 yX1_isGood, Cond.instanceMethod yX1_isGood, Cond.selects RX1 yX1_isGood yX1_isGood, Cond.code yX1_isGood cX1_isGood 2 (some .boolean), Cond.fieldLink RX1 9 "LentSectors$Heads" "limit" "I", Cond.methodLink RX1 89 yX1_isBad, Cond.instanceMethod yX1_isBad, Cond.selects RX1 yX1_isBad yX1_isBad]
def wsX3_sector_r2 : List Cond := [Cond.code yX1_isBad cX1_isBad 2 (some .boolean), Cond.methodLink RX1 69 yX1_isAddress, Cond.instanceMethod yX1_isAddress, Cond.selects RX1 yX1_isAddress yX1_isAddress, Cond.code yX1_isAddress cX1_isAddress 2 (some .boolean), Cond.fieldLink RX1 19 "LentSectors$Heads" "spares" "[I", Cond.static yX3_placeOf, Cond.code yX3_placeOf cX3_placeOf 1 (some .int), Cond.static yX3_headOf, Cond.code yX3_headOf cX3_headOf 1 (some .int), Cond.methodLink RX1 92 yX1_isFree, Cond.instanceMethod yX1_isFree, Cond.selects RX1 yX1_isFree yX1_isFree, Cond.code yX1_isFree cX1_isFree 4 (some .boolean), Cond.fieldLink RX1 22 "LentSectors$Heads" "givenUp" "[Z"]
def wsX3_sector : List Cond := .code yX3_sector cX3_sector 3 (some .int) :: ((wsX3_sector_r1 ++ wsX3_sector_r2) ++ wsX30 ++ wsX10)
def wsX3_head_r1 : List Cond := [Cond.fieldLink RX3 12 "LentSectors" "now" "LLentSectors$Heads;", Cond.methodLink RX3 50 yX3_isHead, Cond.static yX3_isHead, Cond.initialized RX3, Cond.code yX3_isHead cX3_isHead 1 (some .boolean), Cond.methodLink RX3 130 yX1_tellHead, Cond.instanceMethod yX1_tellHead, Cond.selects RX1 yX1_tellHead yX1_tellHead, Cond.initialized RX1, Cond.code yX1_tellHead cX1_tellHead 3 (some .int), Cond.fieldLink RX1 15 "LentSectors$Heads" "ageing" "[I", Cond.fieldLink RX1 19 "LentSectors$Heads" "spares" "[I", Cond.fieldLink RX1 22 "LentSectors$Heads" "givenUp" "[Z", Cond.fieldLink RX1 38 "LentSectors$Heads" "client" "[I", Cond.fieldLink RX1 35 "LentSectors$Heads" "server" "[I", Cond.methodLink RX1 98 yX1_freeOf, Cond.instanceMethod yX1_freeOf, Cond.selects RX1 yX1_freeOf yX1_freeOf, Cond.code yX1_freeOf cX1_freeOf 4 (some .int), Cond.methodLink RX1 92 yX1_isFree, Cond.instanceMethod yX1_isFree, Cond.selects RX1 yX1_isFree yX1_isFree, Cond.code yX1_isFree cX1_isFree 4 (some .boolean), Cond.static yX3_headOf]
def wsX3_head_r2 : List Cond := [Cond.code yX3_headOf cX3_headOf 1 (some .int), Cond.static yX3_placeOf, Cond.code yX3_placeOf cX3_placeOf 1 (some .int), Cond.methodLink RX1 86 yX1_isGood, Cond.instanceMethod yX1_isGood, Cond.selects RX1 yX1_isGood yX1_isGood, Cond.code yX1_isGood cX1_isGood 2 (some .boolean), Cond.fieldLink RX1 26 "LentSectors$Heads" "wear" "[I", Cond.fieldLink RX1 9 "LentSectors$Heads" "limit" "I", Cond.methodLink RX1 157 yX1_leadingElsewhere, Cond.instanceMethod yX1_leadingElsewhere, Cond.selects RX1 yX1_leadingElsewhere yX1_leadingElsewhere, Cond.code yX1_leadingElsewhere cX1_leadingElsewhere 6 (some .int), Cond.methodLink RX1 133 yX1_lostOf, Cond.instanceMethod yX1_lostOf, Cond.selects RX1 yX1_lostOf yX1_lostOf, Cond.code yX1_lostOf cX1_lostOf 4 (some .int), Cond.methodLink RX1 83 yX1_isLost, Cond.instanceMethod yX1_isLost, Cond.selects RX1 yX1_isLost yX1_isLost, Cond.code yX1_isLost cX1_isLost 2 (some .boolean), Cond.methodLink RX1 105 yX1_wearOf, Cond.instanceMethod yX1_wearOf, Cond.selects RX1 yX1_wearOf yX1_wearOf]
def wsX3_head_r3 : List Cond := [Cond.code yX1_wearOf cX1_wearOf 4 (some .int), Cond.methodLink RX1 161 yX1_gradedOf, Cond.instanceMethod yX1_gradedOf, Cond.selects RX1 yX1_gradedOf yX1_gradedOf, Cond.code yX1_gradedOf cX1_gradedOf 5 (some .int), Cond.methodLink RX1 154 yX1_gradeOf, Cond.instanceMethod yX1_gradeOf, Cond.selects RX1 yX1_gradeOf yX1_gradeOf, Cond.code yX1_gradeOf cX1_gradeOf 2 (some .int), Cond.methodLink RX1 89 yX1_isBad, Cond.instanceMethod yX1_isBad, Cond.selects RX1 yX1_isBad yX1_isBad, Cond.code yX1_isBad cX1_isBad 2 (some .boolean)]
def wsX3_head : List Cond := .code yX3_head cX3_head 3 (some .int) :: ((wsX3_head_r1 ++ (wsX3_head_r2 ++ wsX3_head_r3)) ++ wsX30 ++ wsX10)
def wsX3_readsLeft_r1 : List Cond := [Cond.fieldLink RX3 12 "LentSectors" "now" "LLentSectors$Heads;", Cond.methodLink RX3 133 yX1_readsUntilChange, Cond.instanceMethod yX1_readsUntilChange, Cond.selects RX1 yX1_readsUntilChange yX1_readsUntilChange, Cond.initialized RX1, Cond.code yX1_readsUntilChange cX1_readsUntilChange 6 (some .int), Cond.fieldLink RX1 35 "LentSectors$Heads" "server" "[I", Cond.fieldLink RX1 9 "LentSectors$Heads" "limit" "I", Cond.fieldLink RX1 26 "LentSectors$Heads" "wear" "[I", Cond.fieldLink RX1 15 "LentSectors$Heads" "ageing" "[I", Cond.methodLink RX1 69 yX1_isAddress, Cond.instanceMethod yX1_isAddress, Cond.selects RX1 yX1_isAddress yX1_isAddress, Cond.code yX1_isAddress cX1_isAddress 2 (some .boolean), Cond.fieldLink RX1 19 "LentSectors$Heads" "spares" "[I", Cond.static yX3_isSector, Cond.initialized RX3, Cond.code yX3_isSector cX3_isSector 1 (some .boolean), Cond.static yX3_placeOf, Cond.code yX3_placeOf cX3_placeOf 1 (some .int), Cond.static yX3_headOf, Cond.code yX3_headOf cX3_headOf 1 (some .int), Cond.methodLink RX1 83 yX1_isLost, Cond.instanceMethod yX1_isLost]
def wsX3_readsLeft_r2 : List Cond := [Cond.selects RX1 yX1_isLost yX1_isLost, Cond.code yX1_isLost cX1_isLost 2 (some .boolean), Cond.methodLink RX1 118 yX1_lendableTo, Cond.instanceMethod yX1_lendableTo, Cond.selects RX1 yX1_lendableTo yX1_lendableTo, Cond.code yX1_lendableTo cX1_lendableTo 7 (some .int), Cond.methodLink RX1 95 yX1_firstFreeOf, Cond.instanceMethod yX1_firstFreeOf, Cond.selects RX1 yX1_firstFreeOf yX1_firstFreeOf, Cond.code yX1_firstFreeOf cX1_firstFreeOf 3 (some .int), Cond.methodLink RX1 92 yX1_isFree, Cond.instanceMethod yX1_isFree, Cond.selects RX1 yX1_isFree yX1_isFree, Cond.code yX1_isFree cX1_isFree 4 (some .boolean), Cond.fieldLink RX1 38 "LentSectors$Heads" "client" "[I", Cond.fieldLink RX1 22 "LentSectors$Heads" "givenUp" "[Z", Cond.methodLink RX1 86 yX1_isGood, Cond.instanceMethod yX1_isGood, Cond.selects RX1 yX1_isGood yX1_isGood, Cond.code yX1_isGood cX1_isGood 2 (some .boolean), Cond.methodLink RX1 98 yX1_freeOf, Cond.instanceMethod yX1_freeOf, Cond.selects RX1 yX1_freeOf yX1_freeOf, Cond.code yX1_freeOf cX1_freeOf 4 (some .int)]
def wsX3_readsLeft : List Cond := .code yX3_readsLeft cX3_readsLeft 2 (some .int) :: ((wsX3_readsLeft_r1 ++ wsX3_readsLeft_r2) ++ wsX30 ++ wsX10)
def wsX3_wouldLose_r1 : List Cond := [Cond.fieldLink RX3 12 "LentSectors" "now" "LLentSectors$Heads;", Cond.fieldLink RX3 16 "LentSectors" "trial" "LLentSectors$Heads;", Cond.methodLink RX3 50 yX3_isHead, Cond.static yX3_isHead, Cond.initialized RX3, Cond.code yX3_isHead cX3_isHead 1 (some .boolean), Cond.methodLink RX3 96 yX1_isGivenUp, Cond.instanceMethod yX1_isGivenUp, Cond.selects RX1 yX1_isGivenUp yX1_isGivenUp, Cond.initialized RX1, Cond.code yX1_isGivenUp cX1_isGivenUp 2 (some .boolean), Cond.fieldLink RX1 22 "LentSectors$Heads" "givenUp" "[Z", Cond.methodLink RX3 40 yX3_startTrial, Cond.instanceMethod yX3_startTrial, Cond.selects RX3 yX3_startTrial yX3_startTrial, Cond.code yX3_startTrial cX3_startTrial 1 none, Cond.methodLink RX3 115 yX1_takeOver, Cond.instanceMethod yX1_takeOver, Cond.selects RX1 yX1_takeOver yX1_takeOver, Cond.code yX1_takeOver cX1_takeOver 2 none, Cond.fieldLink RX1 9 "LentSectors$Heads" "limit" "I", Cond.fieldLink RX1 15 "LentSectors$Heads" "ageing" "[I", Cond.methodLink RX1 63 arraycopyName, Cond.native arraycopyName]
def wsX3_wouldLose_r2 : List Cond := [Cond.static arraycopyName, Cond.initialized "java/lang/System", Cond.fieldLink RX1 19 "LentSectors$Heads" "spares" "[I", Cond.fieldLink RX1 26 "LentSectors$Heads" "wear" "[I", Cond.fieldLink RX1 29 "LentSectors$Heads" "value" "[I", Cond.fieldLink RX1 32 "LentSectors$Heads" "rescuesOf" "[I", Cond.fieldLink RX1 35 "LentSectors$Heads" "server" "[I", Cond.fieldLink RX1 38 "LentSectors$Heads" "client" "[I", Cond.fieldLink RX1 41 "LentSectors$Heads" "arm" "I", Cond.fieldLink RX1 44 "LentSectors$Heads" "steps" "I", Cond.fieldLink RX1 47 "LentSectors$Heads" "rescues" "I", Cond.fieldLink RX1 50 "LentSectors$Heads" "losses" "I", Cond.fieldLink RX1 53 "LentSectors$Heads" "reads" "I", Cond.fieldLink RX1 56 "LentSectors$Heads" "writes" "I", Cond.methodLink RX3 99 yX1_vacate, Cond.instanceMethod yX1_vacate, Cond.selects RX1 yX1_vacate yX1_vacate, Cond.code yX1_vacate cX1_vacate 4 (some .int), Cond.methodLink RX1 69 yX1_isAddress, Cond.instanceMethod yX1_isAddress, Cond.selects RX1 yX1_isAddress yX1_isAddress, Cond.code yX1_isAddress cX1_isAddress 2 (some .boolean), Cond.static yX3_isSector, Cond.code yX3_isSector cX3_isSector 1 (some .boolean)]
def wsX3_wouldLose_r3 : List Cond := [Cond.static yX3_placeOf, Cond.code yX3_placeOf cX3_placeOf 1 (some .int), Cond.static yX3_headOf, Cond.code yX3_headOf cX3_headOf 1 (some .int), Cond.methodLink RX1 83 yX1_isLost, Cond.instanceMethod yX1_isLost, Cond.selects RX1 yX1_isLost yX1_isLost, Cond.code yX1_isLost cX1_isLost 2 (some .boolean), Cond.methodLink RX1 151 yX1_moveAway, Cond.instanceMethod yX1_moveAway, Cond.selects RX1 yX1_moveAway yX1_moveAway, Cond.code yX1_moveAway cX1_moveAway 3 none, Cond.methodLink RX1 118 yX1_lendableTo, Cond.instanceMethod yX1_lendableTo, Cond.selects RX1 yX1_lendableTo yX1_lendableTo, Cond.code yX1_lendableTo cX1_lendableTo 7 (some .int), Cond.methodLink RX1 95 yX1_firstFreeOf, Cond.instanceMethod yX1_firstFreeOf, Cond.selects RX1 yX1_firstFreeOf yX1_firstFreeOf, Cond.code yX1_firstFreeOf cX1_firstFreeOf 3 (some .int), Cond.methodLink RX1 92 yX1_isFree, Cond.instanceMethod yX1_isFree, Cond.selects RX1 yX1_isFree yX1_isFree, Cond.code yX1_isFree cX1_isFree 4 (some .boolean)]
def wsX3_wouldLose_r4 : List Cond := [Cond.methodLink RX1 86 yX1_isGood, Cond.instanceMethod yX1_isGood, Cond.selects RX1 yX1_isGood yX1_isGood, Cond.code yX1_isGood cX1_isGood 2 (some .boolean), Cond.methodLink RX1 98 yX1_freeOf, Cond.instanceMethod yX1_freeOf, Cond.selects RX1 yX1_freeOf yX1_freeOf, Cond.code yX1_freeOf cX1_freeOf 4 (some .int), Cond.methodLink RX1 139 yX1_lose, Cond.instanceMethod yX1_lose, Cond.selects RX1 yX1_lose yX1_lose, Cond.code yX1_lose cX1_lose 2 none, Cond.methodLink RX1 142 yX1_release, Cond.instanceMethod yX1_release, Cond.selects RX1 yX1_release yX1_release, Cond.code yX1_release cX1_release 2 none, Cond.methodLink RX1 121 yX1_lend, Cond.instanceMethod yX1_lend, Cond.selects RX1 yX1_lend yX1_lend, Cond.code yX1_lend cX1_lend 3 none, Cond.methodLink RX1 124 yX1_wearByWriting, Cond.instanceMethod yX1_wearByWriting, Cond.selects RX1 yX1_wearByWriting yX1_wearByWriting, Cond.code yX1_wearByWriting cX1_wearByWriting 2 none]
def wsX3_wouldLose : List Cond := .code yX3_wouldLose cX3_wouldLose 2 (some .int) :: ((wsX3_wouldLose_r1 ++ (wsX3_wouldLose_r2 ++ (wsX3_wouldLose_r3 ++ wsX3_wouldLose_r4))) ++ wsX30 ++ wsX10)
def wsX3_worst_r1 : List Cond := [Cond.fieldLink RX3 12 "LentSectors" "now" "LLentSectors$Heads;", Cond.methodLink RX3 136 yX1_addressOfRank, Cond.instanceMethod yX1_addressOfRank, Cond.selects RX1 yX1_addressOfRank yX1_addressOfRank, Cond.initialized RX1, Cond.code yX1_addressOfRank cX1_addressOfRank 3 (some .int), Cond.methodLink RX1 171 yX1_hasRank, Cond.instanceMethod yX1_hasRank, Cond.selects RX1 yX1_hasRank yX1_hasRank, Cond.code yX1_hasRank cX1_hasRank 2 (some .boolean), Cond.methodLink RX1 69 yX1_isAddress, Cond.instanceMethod yX1_isAddress, Cond.selects RX1 yX1_isAddress yX1_isAddress, Cond.code yX1_isAddress cX1_isAddress 2 (some .boolean), Cond.fieldLink RX1 19 "LentSectors$Heads" "spares" "[I", Cond.static yX3_isSector, Cond.initialized RX3, Cond.code yX3_isSector cX3_isSector 1 (some .boolean), Cond.static yX3_placeOf, Cond.code yX3_placeOf cX3_placeOf 1 (some .int), Cond.static yX3_headOf, Cond.code yX3_headOf cX3_headOf 1 (some .int), Cond.methodLink RX1 83 yX1_isLost, Cond.instanceMethod yX1_isLost]
def wsX3_worst_r2 : List Cond := [Cond.selects RX1 yX1_isLost yX1_isLost, Cond.code yX1_isLost cX1_isLost 2 (some .boolean), Cond.fieldLink RX1 35 "LentSectors$Heads" "server" "[I", Cond.methodLink RX1 174 yX1_rankOf, Cond.instanceMethod yX1_rankOf, Cond.selects RX1 yX1_rankOf yX1_rankOf, Cond.code yX1_rankOf cX1_rankOf 6 (some .int), Cond.fieldLink RX1 26 "LentSectors$Heads" "wear" "[I"]
def wsX3_worst : List Cond := .code yX3_worst cX3_worst 2 (some .int) :: ((wsX3_worst_r1 ++ wsX3_worst_r2) ++ wsX30 ++ wsX10)
def wsX3_count_r1 : List Cond := [Cond.fieldLink RX3 25 "LentSectors" "history" "LLentSectors$History;", Cond.fieldLink RX3 32 "LentSectors" "text" "LLentSectors$CommandText;", Cond.fieldLink RX3 12 "LentSectors" "now" "LLentSectors$Heads;", Cond.methodLink RX3 108 yX2_states, Cond.instanceMethod yX2_states, Cond.selects RX2 yX2_states yX2_states, Cond.initialized RX2, Cond.code yX2_states cX2_states 1 (some .int), Cond.fieldLink RX2 21 "LentSectors$History" "many" "I", Cond.methodLink RX3 139 yX0_length, Cond.instanceMethod yX0_length, Cond.selects RX0 yX0_length yX0_length, Cond.initialized RX0, Cond.code yX0_length cX0_length 1 (some .int), Cond.fieldLink RX0 15 "LentSectors$CommandText" "length" "I", Cond.methodLink RX3 142 yX1_tellWhole, Cond.instanceMethod yX1_tellWhole, Cond.selects RX1 yX1_tellWhole yX1_tellWhole, Cond.initialized RX1, Cond.code yX1_tellWhole cX1_tellWhole 2 (some .int), Cond.fieldLink RX1 9 "LentSectors$Heads" "limit" "I", Cond.fieldLink RX1 41 "LentSectors$Heads" "arm" "I", Cond.fieldLink RX1 44 "LentSectors$Heads" "steps" "I", Cond.fieldLink RX1 47 "LentSectors$Heads" "rescues" "I"]
def wsX3_count_r2 : List Cond := [Cond.fieldLink RX1 50 "LentSectors$Heads" "losses" "I", Cond.fieldLink RX1 53 "LentSectors$Heads" "reads" "I", Cond.fieldLink RX1 56 "LentSectors$Heads" "writes" "I", Cond.methodLink RX1 164 yX1_overHeads, Cond.instanceMethod yX1_overHeads, Cond.selects RX1 yX1_overHeads yX1_overHeads, Cond.code yX1_overHeads cX1_overHeads 4 (some .int), Cond.methodLink RX1 177 yX1_tellHead, Cond.instanceMethod yX1_tellHead, Cond.selects RX1 yX1_tellHead yX1_tellHead, Cond.code yX1_tellHead cX1_tellHead 3 (some .int), Cond.fieldLink RX1 15 "LentSectors$Heads" "ageing" "[I", Cond.fieldLink RX1 19 "LentSectors$Heads" "spares" "[I", Cond.fieldLink RX1 22 "LentSectors$Heads" "givenUp" "[Z", Cond.fieldLink RX1 38 "LentSectors$Heads" "client" "[I", Cond.fieldLink RX1 35 "LentSectors$Heads" "server" "[I", Cond.methodLink RX1 98 yX1_freeOf, Cond.instanceMethod yX1_freeOf, Cond.selects RX1 yX1_freeOf yX1_freeOf, Cond.code yX1_freeOf cX1_freeOf 4 (some .int), Cond.methodLink RX1 92 yX1_isFree, Cond.instanceMethod yX1_isFree, Cond.selects RX1 yX1_isFree yX1_isFree, Cond.code yX1_isFree cX1_isFree 4 (some .boolean)]
def wsX3_count_r3 : List Cond := [Cond.static yX3_headOf, Cond.initialized RX3, Cond.code yX3_headOf cX3_headOf 1 (some .int), Cond.static yX3_placeOf, Cond.code yX3_placeOf cX3_placeOf 1 (some .int), Cond.methodLink RX1 86 yX1_isGood, Cond.instanceMethod yX1_isGood, Cond.selects RX1 yX1_isGood yX1_isGood, Cond.code yX1_isGood cX1_isGood 2 (some .boolean), Cond.fieldLink RX1 26 "LentSectors$Heads" "wear" "[I", Cond.methodLink RX1 157 yX1_leadingElsewhere, Cond.instanceMethod yX1_leadingElsewhere, Cond.selects RX1 yX1_leadingElsewhere yX1_leadingElsewhere, Cond.code yX1_leadingElsewhere cX1_leadingElsewhere 6 (some .int), Cond.methodLink RX1 133 yX1_lostOf, Cond.instanceMethod yX1_lostOf, Cond.selects RX1 yX1_lostOf yX1_lostOf, Cond.code yX1_lostOf cX1_lostOf 4 (some .int), Cond.methodLink RX1 83 yX1_isLost, Cond.instanceMethod yX1_isLost, Cond.selects RX1 yX1_isLost yX1_isLost, Cond.code yX1_isLost cX1_isLost 2 (some .boolean), Cond.methodLink RX1 105 yX1_wearOf, Cond.instanceMethod yX1_wearOf]
def wsX3_count_r4 : List Cond := [Cond.selects RX1 yX1_wearOf yX1_wearOf, Cond.code yX1_wearOf cX1_wearOf 4 (some .int), Cond.methodLink RX1 161 yX1_gradedOf, Cond.instanceMethod yX1_gradedOf, Cond.selects RX1 yX1_gradedOf yX1_gradedOf, Cond.code yX1_gradedOf cX1_gradedOf 5 (some .int), Cond.methodLink RX1 154 yX1_gradeOf, Cond.instanceMethod yX1_gradeOf, Cond.selects RX1 yX1_gradeOf yX1_gradeOf, Cond.code yX1_gradeOf cX1_gradeOf 2 (some .int), Cond.methodLink RX1 89 yX1_isBad, Cond.instanceMethod yX1_isBad, Cond.selects RX1 yX1_isBad yX1_isBad, Cond.code yX1_isBad cX1_isBad 2 (some .boolean), Cond.methodLink RX1 167 yX1_longWayCount, Cond.instanceMethod yX1_longWayCount, Cond.selects RX1 yX1_longWayCount yX1_longWayCount, Cond.code yX1_longWayCount cX1_longWayCount 3 (some .int), Cond.methodLink RX1 69 yX1_isAddress, Cond.instanceMethod yX1_isAddress, Cond.selects RX1 yX1_isAddress yX1_isAddress, Cond.code yX1_isAddress cX1_isAddress 2 (some .boolean), Cond.static yX3_isSector, Cond.code yX3_isSector cX3_isSector 1 (some .boolean)]
def wsX3_count_r5 : List Cond := [Cond.methodLink RX1 148 yX1_isLongWay, Cond.instanceMethod yX1_isLongWay, Cond.selects RX1 yX1_isLongWay yX1_isLongWay, Cond.code yX1_isLongWay cX1_isLongWay 2 (some .boolean)]
def wsX3_count : List Cond := .code yX3_count cX3_count 2 (some .int) :: ((wsX3_count_r1 ++ (wsX3_count_r2 ++ (wsX3_count_r3 ++ (wsX3_count_r4 ++ wsX3_count_r5)))) ++ wsX30 ++ wsX20 ++ wsX00 ++ wsX10)
def wsJ9_abs_0f7a4 : List Cond := .code yJ9_abs_0f7a4 cJ9_abs_0f7a4 1 (some .int) :: ([])
def wsL_cell : List Cond := .code yL_cell cL_cell 2 (some .int) :: ([.constant RL 7 (2920009)])
def wsL_low : List Cond := .code yL_low cL_low 2 (some .int) :: ([.constant RL 8 (2147483647)])
def wsL_digest_r1 : List Cond := [Cond.constantLong RL 9 (89), Cond.constantLong RL 11 (31), Cond.constantLong RL 19 (7), Cond.constantLong RL 25 (49), Cond.methodLink RL 13 yX3_count, Cond.instanceMethod yX3_count, Cond.selects RX3 yX3_count yX3_count, Cond.initialized RX3, Cond.code yX3_count cX3_count 2 (some .int), Cond.fieldLink RX3 25 "LentSectors" "history" "LLentSectors$History;", Cond.fieldLink RX3 32 "LentSectors" "text" "LLentSectors$CommandText;", Cond.fieldLink RX3 12 "LentSectors" "now" "LLentSectors$Heads;", Cond.methodLink RX3 108 yX2_states, Cond.instanceMethod yX2_states, Cond.selects RX2 yX2_states yX2_states, Cond.initialized RX2, Cond.code yX2_states cX2_states 1 (some .int), Cond.fieldLink RX2 21 "LentSectors$History" "many" "I", Cond.methodLink RX3 139 yX0_length, Cond.instanceMethod yX0_length, Cond.selects RX0 yX0_length yX0_length, Cond.initialized RX0, Cond.code yX0_length cX0_length 1 (some .int), Cond.fieldLink RX0 15 "LentSectors$CommandText" "length" "I"]
def wsL_digest_r2 : List Cond := [Cond.methodLink RX3 142 yX1_tellWhole, Cond.instanceMethod yX1_tellWhole, Cond.selects RX1 yX1_tellWhole yX1_tellWhole, Cond.initialized RX1, Cond.code yX1_tellWhole cX1_tellWhole 2 (some .int), Cond.fieldLink RX1 9 "LentSectors$Heads" "limit" "I", Cond.fieldLink RX1 41 "LentSectors$Heads" "arm" "I", Cond.fieldLink RX1 44 "LentSectors$Heads" "steps" "I", Cond.fieldLink RX1 47 "LentSectors$Heads" "rescues" "I", Cond.fieldLink RX1 50 "LentSectors$Heads" "losses" "I", Cond.fieldLink RX1 53 "LentSectors$Heads" "reads" "I", Cond.fieldLink RX1 56 "LentSectors$Heads" "writes" "I", Cond.methodLink RX1 164 yX1_overHeads, Cond.instanceMethod yX1_overHeads, Cond.selects RX1 yX1_overHeads yX1_overHeads, Cond.code yX1_overHeads cX1_overHeads 4 (some .int), Cond.methodLink RX1 177 yX1_tellHead, Cond.instanceMethod yX1_tellHead, Cond.selects RX1 yX1_tellHead yX1_tellHead, Cond.code yX1_tellHead cX1_tellHead 3 (some .int), Cond.fieldLink RX1 15 "LentSectors$Heads" "ageing" "[I", Cond.fieldLink RX1 19 "LentSectors$Heads" "spares" "[I", Cond.fieldLink RX1 22 "LentSectors$Heads" "givenUp" "[Z", Cond.fieldLink RX1 38 "LentSectors$Heads" "client" "[I"]
def wsL_digest_r3 : List Cond := [Cond.fieldLink RX1 35 "LentSectors$Heads" "server" "[I", Cond.methodLink RX1 98 yX1_freeOf, Cond.instanceMethod yX1_freeOf, Cond.selects RX1 yX1_freeOf yX1_freeOf, Cond.code yX1_freeOf cX1_freeOf 4 (some .int), Cond.methodLink RX1 92 yX1_isFree, Cond.instanceMethod yX1_isFree, Cond.selects RX1 yX1_isFree yX1_isFree, Cond.code yX1_isFree cX1_isFree 4 (some .boolean), Cond.static yX3_headOf, Cond.code yX3_headOf cX3_headOf 1 (some .int), Cond.static yX3_placeOf, Cond.code yX3_placeOf cX3_placeOf 1 (some .int), Cond.methodLink RX1 86 yX1_isGood, Cond.instanceMethod yX1_isGood, Cond.selects RX1 yX1_isGood yX1_isGood, Cond.code yX1_isGood cX1_isGood 2 (some .boolean), Cond.fieldLink RX1 26 "LentSectors$Heads" "wear" "[I", Cond.methodLink RX1 157 yX1_leadingElsewhere, Cond.instanceMethod yX1_leadingElsewhere, Cond.selects RX1 yX1_leadingElsewhere yX1_leadingElsewhere, Cond.code yX1_leadingElsewhere cX1_leadingElsewhere 6 (some .int), Cond.methodLink RX1 133 yX1_lostOf, Cond.instanceMethod yX1_lostOf]
def wsL_digest_r4 : List Cond := [Cond.selects RX1 yX1_lostOf yX1_lostOf, Cond.code yX1_lostOf cX1_lostOf 4 (some .int), Cond.methodLink RX1 83 yX1_isLost, Cond.instanceMethod yX1_isLost, Cond.selects RX1 yX1_isLost yX1_isLost, Cond.code yX1_isLost cX1_isLost 2 (some .boolean), Cond.methodLink RX1 105 yX1_wearOf, Cond.instanceMethod yX1_wearOf, Cond.selects RX1 yX1_wearOf yX1_wearOf, Cond.code yX1_wearOf cX1_wearOf 4 (some .int), Cond.methodLink RX1 161 yX1_gradedOf, Cond.instanceMethod yX1_gradedOf, Cond.selects RX1 yX1_gradedOf yX1_gradedOf, Cond.code yX1_gradedOf cX1_gradedOf 5 (some .int), Cond.methodLink RX1 154 yX1_gradeOf, Cond.instanceMethod yX1_gradeOf, Cond.selects RX1 yX1_gradeOf yX1_gradeOf, Cond.code yX1_gradeOf cX1_gradeOf 2 (some .int), Cond.methodLink RX1 89 yX1_isBad, Cond.instanceMethod yX1_isBad, Cond.selects RX1 yX1_isBad yX1_isBad, Cond.code yX1_isBad cX1_isBad 2 (some .boolean), Cond.methodLink RX1 167 yX1_longWayCount, Cond.instanceMethod yX1_longWayCount]
def wsL_digest_r5 : List Cond := [Cond.selects RX1 yX1_longWayCount yX1_longWayCount, Cond.code yX1_longWayCount cX1_longWayCount 3 (some .int), Cond.methodLink RX1 69 yX1_isAddress, Cond.instanceMethod yX1_isAddress, Cond.selects RX1 yX1_isAddress yX1_isAddress, Cond.code yX1_isAddress cX1_isAddress 2 (some .boolean), Cond.static yX3_isSector, Cond.code yX3_isSector cX3_isSector 1 (some .boolean), Cond.methodLink RX1 148 yX1_isLongWay, Cond.instanceMethod yX1_isLongWay, Cond.selects RX1 yX1_isLongWay yX1_isLongWay, Cond.code yX1_isLongWay cX1_isLongWay 2 (some .boolean), Cond.methodLink RL 21 yX3_sector, Cond.instanceMethod yX3_sector, Cond.selects RX3 yX3_sector yX3_sector, Cond.code yX3_sector cX3_sector 3 (some .int), Cond.methodLink RX3 124 yX3_isSector, Cond.methodLink RX3 127 yX1_tellSector, Cond.instanceMethod yX1_tellSector, Cond.selects RX1 yX1_tellSector yX1_tellSector, Cond.code yX1_tellSector cX1_tellSector 3 (some .int), Cond.methodLink RL 27 yX3_address, Cond.instanceMethod yX3_address, Cond.selects RX3 yX3_address yX3_address]
def wsL_digest_r6 : List Cond := [Cond.code yX3_address cX3_address 3 (some .int), Cond.methodLink RX3 67 yX1_isAddress, Cond.methodLink RX3 121 yX1_tellAddress, Cond.instanceMethod yX1_tellAddress, Cond.selects RX1 yX1_tellAddress yX1_tellAddress, Cond.code yX1_tellAddress cX1_tellAddress 3 (some .int), Cond.fieldLink RX1 29 "LentSectors$Heads" "value" "[I", Cond.fieldLink RX1 32 "LentSectors$Heads" "rescuesOf" "[I", Cond.methodLink RX1 118 yX1_lendableTo, Cond.instanceMethod yX1_lendableTo, Cond.selects RX1 yX1_lendableTo yX1_lendableTo, Cond.code yX1_lendableTo cX1_lendableTo 7 (some .int), Cond.methodLink RX1 95 yX1_firstFreeOf, Cond.instanceMethod yX1_firstFreeOf, Cond.selects RX1 yX1_firstFreeOf yX1_firstFreeOf, Cond.code yX1_firstFreeOf cX1_firstFreeOf 3 (some .int), Cond.methodLink RX1 145 yX1_stepsTo, Cond.instanceMethod yX1_stepsTo, Cond.selects RX1 yX1_stepsTo yX1_stepsTo, Cond.code yX1_stepsTo cX1_stepsTo 3 (some .int), Cond.static yX3_stepsBetween, Cond.code yX3_stepsBetween cX3_stepsBetween 3 (some .int), Cond.methodLink RX3 151 Lib.Math.abs.name, Cond.static Lib.Math.abs.name]
def wsL_digest_r7 : List Cond := [Cond.initialized "java/lang/Math", Cond.code Lib.Math.abs.name Lib.Math.abs.code 1 (some .int), Cond.methodLink RX3 148 yX3_placeOf, Cond.methodLink RX3 156 yX3_headOf, Cond.methodLink RL 30 yX3_head, Cond.instanceMethod yX3_head, Cond.selects RX3 yX3_head yX3_head, Cond.code yX3_head cX3_head 3 (some .int), Cond.methodLink RX3 50 yX3_isHead, Cond.static yX3_isHead, Cond.code yX3_isHead cX3_isHead 1 (some .boolean), Cond.methodLink RX3 130 yX1_tellHead]
def wsL_digest : List Cond := .code yL_digest cL_digest 4 (some .long) :: ((wsL_digest_r1 ++ (wsL_digest_r2 ++ (wsL_digest_r3 ++ (wsL_digest_r4 ++ (wsL_digest_r5 ++ (wsL_digest_r6 ++ wsL_digest_r7)))))) ++ wsX30 ++ wsX20 ++ wsX00 ++ wsX10)
def wsL_sectors_r1 : List Cond := [Cond.methodLink RL 13 yX3_count, Cond.instanceMethod yX3_count, Cond.selects RX3 yX3_count yX3_count, Cond.initialized RX3, Cond.code yX3_count cX3_count 2 (some .int), Cond.fieldLink RX3 25 "LentSectors" "history" "LLentSectors$History;", Cond.fieldLink RX3 32 "LentSectors" "text" "LLentSectors$CommandText;", Cond.fieldLink RX3 12 "LentSectors" "now" "LLentSectors$Heads;", Cond.methodLink RX3 108 yX2_states, Cond.instanceMethod yX2_states, Cond.selects RX2 yX2_states yX2_states, Cond.initialized RX2, Cond.code yX2_states cX2_states 1 (some .int), Cond.fieldLink RX2 21 "LentSectors$History" "many" "I", Cond.methodLink RX3 139 yX0_length, Cond.instanceMethod yX0_length, Cond.selects RX0 yX0_length yX0_length, Cond.initialized RX0, Cond.code yX0_length cX0_length 1 (some .int), Cond.fieldLink RX0 15 "LentSectors$CommandText" "length" "I", Cond.methodLink RX3 142 yX1_tellWhole, Cond.instanceMethod yX1_tellWhole, Cond.selects RX1 yX1_tellWhole yX1_tellWhole, Cond.initialized RX1]
def wsL_sectors_r2 : List Cond := [Cond.code yX1_tellWhole cX1_tellWhole 2 (some .int), Cond.fieldLink RX1 9 "LentSectors$Heads" "limit" "I", Cond.fieldLink RX1 41 "LentSectors$Heads" "arm" "I", Cond.fieldLink RX1 44 "LentSectors$Heads" "steps" "I", Cond.fieldLink RX1 47 "LentSectors$Heads" "rescues" "I", Cond.fieldLink RX1 50 "LentSectors$Heads" "losses" "I", Cond.fieldLink RX1 53 "LentSectors$Heads" "reads" "I", Cond.fieldLink RX1 56 "LentSectors$Heads" "writes" "I", Cond.methodLink RX1 164 yX1_overHeads, Cond.instanceMethod yX1_overHeads, Cond.selects RX1 yX1_overHeads yX1_overHeads, Cond.code yX1_overHeads cX1_overHeads 4 (some .int), Cond.methodLink RX1 177 yX1_tellHead, Cond.instanceMethod yX1_tellHead, Cond.selects RX1 yX1_tellHead yX1_tellHead, Cond.code yX1_tellHead cX1_tellHead 3 (some .int), Cond.fieldLink RX1 15 "LentSectors$Heads" "ageing" "[I", Cond.fieldLink RX1 19 "LentSectors$Heads" "spares" "[I", Cond.fieldLink RX1 22 "LentSectors$Heads" "givenUp" "[Z", Cond.fieldLink RX1 38 "LentSectors$Heads" "client" "[I", Cond.fieldLink RX1 35 "LentSectors$Heads" "server" "[I", Cond.methodLink RX1 98 yX1_freeOf, Cond.instanceMethod yX1_freeOf, Cond.selects RX1 yX1_freeOf yX1_freeOf]
def wsL_sectors_r3 : List Cond := [Cond.code yX1_freeOf cX1_freeOf 4 (some .int), Cond.methodLink RX1 92 yX1_isFree, Cond.instanceMethod yX1_isFree, Cond.selects RX1 yX1_isFree yX1_isFree, Cond.code yX1_isFree cX1_isFree 4 (some .boolean), Cond.static yX3_headOf, Cond.code yX3_headOf cX3_headOf 1 (some .int), Cond.static yX3_placeOf, Cond.code yX3_placeOf cX3_placeOf 1 (some .int), Cond.methodLink RX1 86 yX1_isGood, Cond.instanceMethod yX1_isGood, Cond.selects RX1 yX1_isGood yX1_isGood, Cond.code yX1_isGood cX1_isGood 2 (some .boolean), Cond.fieldLink RX1 26 "LentSectors$Heads" "wear" "[I", Cond.methodLink RX1 157 yX1_leadingElsewhere, Cond.instanceMethod yX1_leadingElsewhere, Cond.selects RX1 yX1_leadingElsewhere yX1_leadingElsewhere, Cond.code yX1_leadingElsewhere cX1_leadingElsewhere 6 (some .int), Cond.methodLink RX1 133 yX1_lostOf, Cond.instanceMethod yX1_lostOf, Cond.selects RX1 yX1_lostOf yX1_lostOf, Cond.code yX1_lostOf cX1_lostOf 4 (some .int), Cond.methodLink RX1 83 yX1_isLost, Cond.instanceMethod yX1_isLost]
def wsL_sectors_r4 : List Cond := [Cond.selects RX1 yX1_isLost yX1_isLost, Cond.code yX1_isLost cX1_isLost 2 (some .boolean), Cond.methodLink RX1 105 yX1_wearOf, Cond.instanceMethod yX1_wearOf, Cond.selects RX1 yX1_wearOf yX1_wearOf, Cond.code yX1_wearOf cX1_wearOf 4 (some .int), Cond.methodLink RX1 161 yX1_gradedOf, Cond.instanceMethod yX1_gradedOf, Cond.selects RX1 yX1_gradedOf yX1_gradedOf, Cond.code yX1_gradedOf cX1_gradedOf 5 (some .int), Cond.methodLink RX1 154 yX1_gradeOf, Cond.instanceMethod yX1_gradeOf, Cond.selects RX1 yX1_gradeOf yX1_gradeOf, Cond.code yX1_gradeOf cX1_gradeOf 2 (some .int), Cond.methodLink RX1 89 yX1_isBad, Cond.instanceMethod yX1_isBad, Cond.selects RX1 yX1_isBad yX1_isBad, Cond.code yX1_isBad cX1_isBad 2 (some .boolean), Cond.methodLink RX1 167 yX1_longWayCount, Cond.instanceMethod yX1_longWayCount, Cond.selects RX1 yX1_longWayCount yX1_longWayCount, Cond.code yX1_longWayCount cX1_longWayCount 3 (some .int), Cond.methodLink RX1 69 yX1_isAddress, Cond.instanceMethod yX1_isAddress]
def wsL_sectors_r5 : List Cond := [Cond.selects RX1 yX1_isAddress yX1_isAddress, Cond.code yX1_isAddress cX1_isAddress 2 (some .boolean), Cond.static yX3_isSector, Cond.code yX3_isSector cX3_isSector 1 (some .boolean), Cond.methodLink RX1 148 yX1_isLongWay, Cond.instanceMethod yX1_isLongWay, Cond.selects RX1 yX1_isLongWay yX1_isLongWay, Cond.code yX1_isLongWay cX1_isLongWay 2 (some .boolean), Cond.methodLink RL 21 yX3_sector, Cond.instanceMethod yX3_sector, Cond.selects RX3 yX3_sector yX3_sector, Cond.code yX3_sector cX3_sector 3 (some .int), Cond.methodLink RX3 124 yX3_isSector, Cond.methodLink RX3 127 yX1_tellSector, Cond.instanceMethod yX1_tellSector, Cond.selects RX1 yX1_tellSector yX1_tellSector, Cond.code yX1_tellSector cX1_tellSector 3 (some .int), Cond.methodLink RL 30 yX3_head, Cond.instanceMethod yX3_head, Cond.selects RX3 yX3_head yX3_head, Cond.code yX3_head cX3_head 3 (some .int), Cond.methodLink RX3 50 yX3_isHead, Cond.static yX3_isHead, Cond.code yX3_isHead cX3_isHead 1 (some .boolean)]
def wsL_sectors_r6 : List Cond := [Cond.methodLink RX3 130 yX1_tellHead, Cond.methodLink RL 27 yX3_address, Cond.instanceMethod yX3_address, Cond.selects RX3 yX3_address yX3_address, Cond.code yX3_address cX3_address 3 (some .int), Cond.methodLink RX3 67 yX1_isAddress, Cond.methodLink RX3 121 yX1_tellAddress, Cond.instanceMethod yX1_tellAddress, Cond.selects RX1 yX1_tellAddress yX1_tellAddress, Cond.code yX1_tellAddress cX1_tellAddress 3 (some .int), Cond.fieldLink RX1 29 "LentSectors$Heads" "value" "[I", Cond.fieldLink RX1 32 "LentSectors$Heads" "rescuesOf" "[I", Cond.methodLink RX1 118 yX1_lendableTo, Cond.instanceMethod yX1_lendableTo, Cond.selects RX1 yX1_lendableTo yX1_lendableTo, Cond.code yX1_lendableTo cX1_lendableTo 7 (some .int), Cond.methodLink RX1 95 yX1_firstFreeOf, Cond.instanceMethod yX1_firstFreeOf, Cond.selects RX1 yX1_firstFreeOf yX1_firstFreeOf, Cond.code yX1_firstFreeOf cX1_firstFreeOf 3 (some .int), Cond.methodLink RX1 145 yX1_stepsTo, Cond.instanceMethod yX1_stepsTo, Cond.selects RX1 yX1_stepsTo yX1_stepsTo, Cond.code yX1_stepsTo cX1_stepsTo 3 (some .int)]
def wsL_sectors_r7 : List Cond := [Cond.static yX3_stepsBetween, Cond.code yX3_stepsBetween cX3_stepsBetween 3 (some .int), Cond.methodLink RX3 151 Lib.Math.abs.name, Cond.static Lib.Math.abs.name, Cond.initialized "java/lang/Math", Cond.code Lib.Math.abs.name Lib.Math.abs.code 1 (some .int), Cond.methodLink RX3 148 yX3_placeOf, Cond.methodLink RX3 156 yX3_headOf]
def wsL_sectors : List Cond := .code yL_sectors cL_sectors 10 (some .boolean) :: ((wsL_sectors_r1 ++ (wsL_sectors_r2 ++ (wsL_sectors_r3 ++ (wsL_sectors_r4 ++ (wsL_sectors_r5 ++ (wsL_sectors_r6 ++ wsL_sectors_r7)))))) ++ wsX30 ++ wsX20 ++ wsX00 ++ wsX10)
def wsL_lends_r1 : List Cond := [Cond.methodLink RL 30 yX3_head, Cond.instanceMethod yX3_head, Cond.selects RX3 yX3_head yX3_head, Cond.initialized RX3, Cond.code yX3_head cX3_head 3 (some .int), Cond.fieldLink RX3 12 "LentSectors" "now" "LLentSectors$Heads;", Cond.methodLink RX3 50 yX3_isHead, Cond.static yX3_isHead, Cond.code yX3_isHead cX3_isHead 1 (some .boolean), Cond.methodLink RX3 130 yX1_tellHead, Cond.instanceMethod yX1_tellHead, Cond.selects RX1 yX1_tellHead yX1_tellHead, Cond.initialized RX1, Cond.code yX1_tellHead cX1_tellHead 3 (some .int), Cond.fieldLink RX1 15 "LentSectors$Heads" "ageing" "[I", Cond.fieldLink RX1 19 "LentSectors$Heads" "spares" "[I", Cond.fieldLink RX1 22 "LentSectors$Heads" "givenUp" "[Z", Cond.fieldLink RX1 38 "LentSectors$Heads" "client" "[I", Cond.fieldLink RX1 35 "LentSectors$Heads" "server" "[I", Cond.methodLink RX1 98 yX1_freeOf, Cond.instanceMethod yX1_freeOf, Cond.selects RX1 yX1_freeOf yX1_freeOf, Cond.code yX1_freeOf cX1_freeOf 4 (some .int), Cond.methodLink RX1 92 yX1_isFree]
def wsL_lends_r2 : List Cond := [Cond.instanceMethod yX1_isFree, Cond.selects RX1 yX1_isFree yX1_isFree, Cond.code yX1_isFree cX1_isFree 4 (some .boolean), Cond.static yX3_headOf, Cond.code yX3_headOf cX3_headOf 1 (some .int), Cond.static yX3_placeOf, Cond.code yX3_placeOf cX3_placeOf 1 (some .int), Cond.methodLink RX1 86 yX1_isGood, Cond.instanceMethod yX1_isGood, Cond.selects RX1 yX1_isGood yX1_isGood, Cond.code yX1_isGood cX1_isGood 2 (some .boolean), Cond.fieldLink RX1 26 "LentSectors$Heads" "wear" "[I", Cond.fieldLink RX1 9 "LentSectors$Heads" "limit" "I", Cond.methodLink RX1 157 yX1_leadingElsewhere, Cond.instanceMethod yX1_leadingElsewhere, Cond.selects RX1 yX1_leadingElsewhere yX1_leadingElsewhere, Cond.code yX1_leadingElsewhere cX1_leadingElsewhere 6 (some .int), Cond.methodLink RX1 133 yX1_lostOf, Cond.instanceMethod yX1_lostOf, Cond.selects RX1 yX1_lostOf yX1_lostOf, Cond.code yX1_lostOf cX1_lostOf 4 (some .int), Cond.methodLink RX1 83 yX1_isLost, Cond.instanceMethod yX1_isLost, Cond.selects RX1 yX1_isLost yX1_isLost]
def wsL_lends_r3 : List Cond := [Cond.code yX1_isLost cX1_isLost 2 (some .boolean), Cond.methodLink RX1 105 yX1_wearOf, Cond.instanceMethod yX1_wearOf, Cond.selects RX1 yX1_wearOf yX1_wearOf, Cond.code yX1_wearOf cX1_wearOf 4 (some .int), Cond.methodLink RX1 161 yX1_gradedOf, Cond.instanceMethod yX1_gradedOf, Cond.selects RX1 yX1_gradedOf yX1_gradedOf, Cond.code yX1_gradedOf cX1_gradedOf 5 (some .int), Cond.methodLink RX1 154 yX1_gradeOf, Cond.instanceMethod yX1_gradeOf, Cond.selects RX1 yX1_gradeOf yX1_gradeOf, Cond.code yX1_gradeOf cX1_gradeOf 2 (some .int), Cond.methodLink RX1 89 yX1_isBad, Cond.instanceMethod yX1_isBad, Cond.selects RX1 yX1_isBad yX1_isBad, Cond.code yX1_isBad cX1_isBad 2 (some .boolean), Cond.methodLink RL 21 yX3_sector, Cond.instanceMethod yX3_sector, Cond.selects RX3 yX3_sector yX3_sector, Cond.code yX3_sector cX3_sector 3 (some .int), Cond.methodLink RX3 124 yX3_isSector, Cond.static yX3_isSector, Cond.code yX3_isSector cX3_isSector 1 (some .boolean)]
def wsL_lends_r4 : List Cond := [Cond.methodLink RX3 127 yX1_tellSector, Cond.instanceMethod yX1_tellSector, Cond.selects RX1 yX1_tellSector yX1_tellSector, Cond.code yX1_tellSector cX1_tellSector 3 (some .int), Cond.methodLink RX1 69 yX1_isAddress, Cond.instanceMethod yX1_isAddress, Cond.selects RX1 yX1_isAddress yX1_isAddress, Cond.code yX1_isAddress cX1_isAddress 2 (some .boolean)]
def wsL_lends : List Cond := .code yL_lends cL_lends 4 (some .int) :: ((wsL_lends_r1 ++ (wsL_lends_r2 ++ (wsL_lends_r3 ++ wsL_lends_r4))) ++ wsX30 ++ wsX10)
def wsL_apart : List Cond := .code yL_apart cL_apart 4 (some .int) :: ([])
def wsL_steps_r1 : List Cond := [Cond.methodLink RL 13 yX3_count, Cond.instanceMethod yX3_count, Cond.selects RX3 yX3_count yX3_count, Cond.initialized RX3, Cond.code yX3_count cX3_count 2 (some .int), Cond.fieldLink RX3 25 "LentSectors" "history" "LLentSectors$History;", Cond.fieldLink RX3 32 "LentSectors" "text" "LLentSectors$CommandText;", Cond.fieldLink RX3 12 "LentSectors" "now" "LLentSectors$Heads;", Cond.methodLink RX3 108 yX2_states, Cond.instanceMethod yX2_states, Cond.selects RX2 yX2_states yX2_states, Cond.initialized RX2, Cond.code yX2_states cX2_states 1 (some .int), Cond.fieldLink RX2 21 "LentSectors$History" "many" "I", Cond.methodLink RX3 139 yX0_length, Cond.instanceMethod yX0_length, Cond.selects RX0 yX0_length yX0_length, Cond.initialized RX0, Cond.code yX0_length cX0_length 1 (some .int), Cond.fieldLink RX0 15 "LentSectors$CommandText" "length" "I", Cond.methodLink RX3 142 yX1_tellWhole, Cond.instanceMethod yX1_tellWhole, Cond.selects RX1 yX1_tellWhole yX1_tellWhole, Cond.initialized RX1]
def wsL_steps_r2 : List Cond := [Cond.code yX1_tellWhole cX1_tellWhole 2 (some .int), Cond.fieldLink RX1 9 "LentSectors$Heads" "limit" "I", Cond.fieldLink RX1 41 "LentSectors$Heads" "arm" "I", Cond.fieldLink RX1 44 "LentSectors$Heads" "steps" "I", Cond.fieldLink RX1 47 "LentSectors$Heads" "rescues" "I", Cond.fieldLink RX1 50 "LentSectors$Heads" "losses" "I", Cond.fieldLink RX1 53 "LentSectors$Heads" "reads" "I", Cond.fieldLink RX1 56 "LentSectors$Heads" "writes" "I", Cond.methodLink RX1 164 yX1_overHeads, Cond.instanceMethod yX1_overHeads, Cond.selects RX1 yX1_overHeads yX1_overHeads, Cond.code yX1_overHeads cX1_overHeads 4 (some .int), Cond.methodLink RX1 177 yX1_tellHead, Cond.instanceMethod yX1_tellHead, Cond.selects RX1 yX1_tellHead yX1_tellHead, Cond.code yX1_tellHead cX1_tellHead 3 (some .int), Cond.fieldLink RX1 15 "LentSectors$Heads" "ageing" "[I", Cond.fieldLink RX1 19 "LentSectors$Heads" "spares" "[I", Cond.fieldLink RX1 22 "LentSectors$Heads" "givenUp" "[Z", Cond.fieldLink RX1 38 "LentSectors$Heads" "client" "[I", Cond.fieldLink RX1 35 "LentSectors$Heads" "server" "[I", Cond.methodLink RX1 98 yX1_freeOf, Cond.instanceMethod yX1_freeOf, Cond.selects RX1 yX1_freeOf yX1_freeOf]
def wsL_steps_r3 : List Cond := [Cond.code yX1_freeOf cX1_freeOf 4 (some .int), Cond.methodLink RX1 92 yX1_isFree, Cond.instanceMethod yX1_isFree, Cond.selects RX1 yX1_isFree yX1_isFree, Cond.code yX1_isFree cX1_isFree 4 (some .boolean), Cond.static yX3_headOf, Cond.code yX3_headOf cX3_headOf 1 (some .int), Cond.static yX3_placeOf, Cond.code yX3_placeOf cX3_placeOf 1 (some .int), Cond.methodLink RX1 86 yX1_isGood, Cond.instanceMethod yX1_isGood, Cond.selects RX1 yX1_isGood yX1_isGood, Cond.code yX1_isGood cX1_isGood 2 (some .boolean), Cond.fieldLink RX1 26 "LentSectors$Heads" "wear" "[I", Cond.methodLink RX1 157 yX1_leadingElsewhere, Cond.instanceMethod yX1_leadingElsewhere, Cond.selects RX1 yX1_leadingElsewhere yX1_leadingElsewhere, Cond.code yX1_leadingElsewhere cX1_leadingElsewhere 6 (some .int), Cond.methodLink RX1 133 yX1_lostOf, Cond.instanceMethod yX1_lostOf, Cond.selects RX1 yX1_lostOf yX1_lostOf, Cond.code yX1_lostOf cX1_lostOf 4 (some .int), Cond.methodLink RX1 83 yX1_isLost, Cond.instanceMethod yX1_isLost]
def wsL_steps_r4 : List Cond := [Cond.selects RX1 yX1_isLost yX1_isLost, Cond.code yX1_isLost cX1_isLost 2 (some .boolean), Cond.methodLink RX1 105 yX1_wearOf, Cond.instanceMethod yX1_wearOf, Cond.selects RX1 yX1_wearOf yX1_wearOf, Cond.code yX1_wearOf cX1_wearOf 4 (some .int), Cond.methodLink RX1 161 yX1_gradedOf, Cond.instanceMethod yX1_gradedOf, Cond.selects RX1 yX1_gradedOf yX1_gradedOf, Cond.code yX1_gradedOf cX1_gradedOf 5 (some .int), Cond.methodLink RX1 154 yX1_gradeOf, Cond.instanceMethod yX1_gradeOf, Cond.selects RX1 yX1_gradeOf yX1_gradeOf, Cond.code yX1_gradeOf cX1_gradeOf 2 (some .int), Cond.methodLink RX1 89 yX1_isBad, Cond.instanceMethod yX1_isBad, Cond.selects RX1 yX1_isBad yX1_isBad, Cond.code yX1_isBad cX1_isBad 2 (some .boolean), Cond.methodLink RX1 167 yX1_longWayCount, Cond.instanceMethod yX1_longWayCount, Cond.selects RX1 yX1_longWayCount yX1_longWayCount, Cond.code yX1_longWayCount cX1_longWayCount 3 (some .int), Cond.methodLink RX1 69 yX1_isAddress, Cond.instanceMethod yX1_isAddress]
def wsL_steps_r5 : List Cond := [Cond.selects RX1 yX1_isAddress yX1_isAddress, Cond.code yX1_isAddress cX1_isAddress 2 (some .boolean), Cond.static yX3_isSector, Cond.code yX3_isSector cX3_isSector 1 (some .boolean), Cond.methodLink RX1 148 yX1_isLongWay, Cond.instanceMethod yX1_isLongWay, Cond.selects RX1 yX1_isLongWay yX1_isLongWay, Cond.code yX1_isLongWay cX1_isLongWay 2 (some .boolean), Cond.methodLink RL 30 yX3_head, Cond.instanceMethod yX3_head, Cond.selects RX3 yX3_head yX3_head, Cond.code yX3_head cX3_head 3 (some .int), Cond.methodLink RX3 50 yX3_isHead, Cond.static yX3_isHead, Cond.code yX3_isHead cX3_isHead 1 (some .boolean), Cond.methodLink RX3 130 yX1_tellHead, Cond.methodLink RL 43 yL_apart, Cond.static yL_apart, Cond.initialized RL, Cond.code yL_apart cL_apart 4 (some .int)]
def wsL_steps : List Cond := .code yL_steps cL_steps 5 (some .int) :: ((wsL_steps_r1 ++ (wsL_steps_r2 ++ (wsL_steps_r3 ++ (wsL_steps_r4 ++ wsL_steps_r5)))) ++ wsX30 ++ wsX20 ++ wsX00 ++ wsX10)
def wsL_addresses_r1 : List Cond := [Cond.methodLink RL 33 yL_lends, Cond.static yL_lends, Cond.initialized RL, Cond.code yL_lends cL_lends 4 (some .int), Cond.methodLink RL 30 yX3_head, Cond.instanceMethod yX3_head, Cond.selects RX3 yX3_head yX3_head, Cond.initialized RX3, Cond.code yX3_head cX3_head 3 (some .int), Cond.fieldLink RX3 12 "LentSectors" "now" "LLentSectors$Heads;", Cond.methodLink RX3 50 yX3_isHead, Cond.static yX3_isHead, Cond.code yX3_isHead cX3_isHead 1 (some .boolean), Cond.methodLink RX3 130 yX1_tellHead, Cond.instanceMethod yX1_tellHead, Cond.selects RX1 yX1_tellHead yX1_tellHead, Cond.initialized RX1, Cond.code yX1_tellHead cX1_tellHead 3 (some .int), Cond.fieldLink RX1 15 "LentSectors$Heads" "ageing" "[I", Cond.fieldLink RX1 19 "LentSectors$Heads" "spares" "[I", Cond.fieldLink RX1 22 "LentSectors$Heads" "givenUp" "[Z", Cond.fieldLink RX1 38 "LentSectors$Heads" "client" "[I", Cond.fieldLink RX1 35 "LentSectors$Heads" "server" "[I", Cond.methodLink RX1 98 yX1_freeOf]
def wsL_addresses_r2 : List Cond := [Cond.instanceMethod yX1_freeOf, Cond.selects RX1 yX1_freeOf yX1_freeOf, Cond.code yX1_freeOf cX1_freeOf 4 (some .int), Cond.methodLink RX1 92 yX1_isFree, Cond.instanceMethod yX1_isFree, Cond.selects RX1 yX1_isFree yX1_isFree, Cond.code yX1_isFree cX1_isFree 4 (some .boolean), Cond.static yX3_headOf, Cond.code yX3_headOf cX3_headOf 1 (some .int), Cond.static yX3_placeOf, Cond.code yX3_placeOf cX3_placeOf 1 (some .int), Cond.methodLink RX1 86 yX1_isGood, Cond.instanceMethod yX1_isGood, Cond.selects RX1 yX1_isGood yX1_isGood, Cond.code yX1_isGood cX1_isGood 2 (some .boolean), Cond.fieldLink RX1 26 "LentSectors$Heads" "wear" "[I", Cond.fieldLink RX1 9 "LentSectors$Heads" "limit" "I", Cond.methodLink RX1 157 yX1_leadingElsewhere, Cond.instanceMethod yX1_leadingElsewhere, Cond.selects RX1 yX1_leadingElsewhere yX1_leadingElsewhere, Cond.code yX1_leadingElsewhere cX1_leadingElsewhere 6 (some .int), Cond.methodLink RX1 133 yX1_lostOf, Cond.instanceMethod yX1_lostOf, Cond.selects RX1 yX1_lostOf yX1_lostOf]
def wsL_addresses_r3 : List Cond := [Cond.code yX1_lostOf cX1_lostOf 4 (some .int), Cond.methodLink RX1 83 yX1_isLost, Cond.instanceMethod yX1_isLost, Cond.selects RX1 yX1_isLost yX1_isLost, Cond.code yX1_isLost cX1_isLost 2 (some .boolean), Cond.methodLink RX1 105 yX1_wearOf, Cond.instanceMethod yX1_wearOf, Cond.selects RX1 yX1_wearOf yX1_wearOf, Cond.code yX1_wearOf cX1_wearOf 4 (some .int), Cond.methodLink RX1 161 yX1_gradedOf, Cond.instanceMethod yX1_gradedOf, Cond.selects RX1 yX1_gradedOf yX1_gradedOf, Cond.code yX1_gradedOf cX1_gradedOf 5 (some .int), Cond.methodLink RX1 154 yX1_gradeOf, Cond.instanceMethod yX1_gradeOf, Cond.selects RX1 yX1_gradeOf yX1_gradeOf, Cond.code yX1_gradeOf cX1_gradeOf 2 (some .int), Cond.methodLink RX1 89 yX1_isBad, Cond.instanceMethod yX1_isBad, Cond.selects RX1 yX1_isBad yX1_isBad, Cond.code yX1_isBad cX1_isBad 2 (some .boolean), Cond.methodLink RL 21 yX3_sector, Cond.instanceMethod yX3_sector, Cond.selects RX3 yX3_sector yX3_sector]
def wsL_addresses_r4 : List Cond := [Cond.code yX3_sector cX3_sector 3 (some .int), Cond.methodLink RX3 124 yX3_isSector, Cond.static yX3_isSector, Cond.code yX3_isSector cX3_isSector 1 (some .boolean), Cond.methodLink RX3 127 yX1_tellSector, Cond.instanceMethod yX1_tellSector, Cond.selects RX1 yX1_tellSector yX1_tellSector, Cond.code yX1_tellSector cX1_tellSector 3 (some .int), Cond.methodLink RX1 69 yX1_isAddress, Cond.instanceMethod yX1_isAddress, Cond.selects RX1 yX1_isAddress yX1_isAddress, Cond.code yX1_isAddress cX1_isAddress 2 (some .boolean), Cond.methodLink RL 27 yX3_address, Cond.instanceMethod yX3_address, Cond.selects RX3 yX3_address yX3_address, Cond.code yX3_address cX3_address 3 (some .int), Cond.methodLink RX3 67 yX1_isAddress, Cond.methodLink RX3 121 yX1_tellAddress, Cond.instanceMethod yX1_tellAddress, Cond.selects RX1 yX1_tellAddress yX1_tellAddress, Cond.code yX1_tellAddress cX1_tellAddress 3 (some .int), Cond.fieldLink RX1 29 "LentSectors$Heads" "value" "[I", Cond.fieldLink RX1 32 "LentSectors$Heads" "rescuesOf" "[I", Cond.methodLink RX1 148 yX1_isLongWay]
def wsL_addresses_r5 : List Cond := [Cond.instanceMethod yX1_isLongWay, Cond.selects RX1 yX1_isLongWay yX1_isLongWay, Cond.code yX1_isLongWay cX1_isLongWay 2 (some .boolean), Cond.methodLink RX1 118 yX1_lendableTo, Cond.instanceMethod yX1_lendableTo, Cond.selects RX1 yX1_lendableTo yX1_lendableTo, Cond.code yX1_lendableTo cX1_lendableTo 7 (some .int), Cond.methodLink RX1 95 yX1_firstFreeOf, Cond.instanceMethod yX1_firstFreeOf, Cond.selects RX1 yX1_firstFreeOf yX1_firstFreeOf, Cond.code yX1_firstFreeOf cX1_firstFreeOf 3 (some .int), Cond.methodLink RX1 145 yX1_stepsTo, Cond.instanceMethod yX1_stepsTo, Cond.selects RX1 yX1_stepsTo yX1_stepsTo, Cond.code yX1_stepsTo cX1_stepsTo 3 (some .int), Cond.fieldLink RX1 41 "LentSectors$Heads" "arm" "I", Cond.static yX3_stepsBetween, Cond.code yX3_stepsBetween cX3_stepsBetween 3 (some .int), Cond.methodLink RX3 151 Lib.Math.abs.name, Cond.static Lib.Math.abs.name, Cond.initialized "java/lang/Math", Cond.code Lib.Math.abs.name Lib.Math.abs.code 1 (some .int), Cond.methodLink RX3 148 yX3_placeOf, Cond.methodLink RX3 156 yX3_headOf]
def wsL_addresses_r6 : List Cond := [Cond.methodLink RL 39 yL_steps, Cond.static yL_steps, Cond.code yL_steps cL_steps 5 (some .int), Cond.methodLink RL 13 yX3_count, Cond.instanceMethod yX3_count, Cond.selects RX3 yX3_count yX3_count, Cond.code yX3_count cX3_count 2 (some .int), Cond.fieldLink RX3 25 "LentSectors" "history" "LLentSectors$History;", Cond.fieldLink RX3 32 "LentSectors" "text" "LLentSectors$CommandText;", Cond.methodLink RX3 108 yX2_states, Cond.instanceMethod yX2_states, Cond.selects RX2 yX2_states yX2_states, Cond.initialized RX2, Cond.code yX2_states cX2_states 1 (some .int), Cond.fieldLink RX2 21 "LentSectors$History" "many" "I", Cond.methodLink RX3 139 yX0_length, Cond.instanceMethod yX0_length, Cond.selects RX0 yX0_length yX0_length, Cond.initialized RX0, Cond.code yX0_length cX0_length 1 (some .int), Cond.fieldLink RX0 15 "LentSectors$CommandText" "length" "I", Cond.methodLink RX3 142 yX1_tellWhole, Cond.instanceMethod yX1_tellWhole, Cond.selects RX1 yX1_tellWhole yX1_tellWhole]
def wsL_addresses_r7 : List Cond := [Cond.code yX1_tellWhole cX1_tellWhole 2 (some .int), Cond.fieldLink RX1 44 "LentSectors$Heads" "steps" "I", Cond.fieldLink RX1 47 "LentSectors$Heads" "rescues" "I", Cond.fieldLink RX1 50 "LentSectors$Heads" "losses" "I", Cond.fieldLink RX1 53 "LentSectors$Heads" "reads" "I", Cond.fieldLink RX1 56 "LentSectors$Heads" "writes" "I", Cond.methodLink RX1 164 yX1_overHeads, Cond.instanceMethod yX1_overHeads, Cond.selects RX1 yX1_overHeads yX1_overHeads, Cond.code yX1_overHeads cX1_overHeads 4 (some .int), Cond.methodLink RX1 177 yX1_tellHead, Cond.methodLink RX1 167 yX1_longWayCount, Cond.instanceMethod yX1_longWayCount, Cond.selects RX1 yX1_longWayCount yX1_longWayCount, Cond.code yX1_longWayCount cX1_longWayCount 3 (some .int), Cond.methodLink RL 43 yL_apart, Cond.static yL_apart, Cond.code yL_apart cL_apart 4 (some .int)]
def wsL_addresses : List Cond := .code yL_addresses cL_addresses 14 (some .boolean) :: ((wsL_addresses_r1 ++ (wsL_addresses_r2 ++ (wsL_addresses_r3 ++ (wsL_addresses_r4 ++ (wsL_addresses_r5 ++ (wsL_addresses_r6 ++ wsL_addresses_r7)))))) ++ wsX30 ++ wsX10 ++ wsX20 ++ wsX00)
def wsL_worst_r1 : List Cond := [Cond.constant RL 47 (1000000), Cond.methodLink RL 48 yX3_worst, Cond.instanceMethod yX3_worst, Cond.selects RX3 yX3_worst yX3_worst, Cond.initialized RX3, Cond.code yX3_worst cX3_worst 2 (some .int), Cond.fieldLink RX3 12 "LentSectors" "now" "LLentSectors$Heads;", Cond.methodLink RX3 136 yX1_addressOfRank, Cond.instanceMethod yX1_addressOfRank, Cond.selects RX1 yX1_addressOfRank yX1_addressOfRank, Cond.initialized RX1, Cond.code yX1_addressOfRank cX1_addressOfRank 3 (some .int), Cond.methodLink RX1 171 yX1_hasRank, Cond.instanceMethod yX1_hasRank, Cond.selects RX1 yX1_hasRank yX1_hasRank, Cond.code yX1_hasRank cX1_hasRank 2 (some .boolean), Cond.methodLink RX1 69 yX1_isAddress, Cond.instanceMethod yX1_isAddress, Cond.selects RX1 yX1_isAddress yX1_isAddress, Cond.code yX1_isAddress cX1_isAddress 2 (some .boolean), Cond.fieldLink RX1 19 "LentSectors$Heads" "spares" "[I", Cond.static yX3_isSector, Cond.code yX3_isSector cX3_isSector 1 (some .boolean), Cond.static yX3_placeOf]
def wsL_worst_r2 : List Cond := [Cond.code yX3_placeOf cX3_placeOf 1 (some .int), Cond.static yX3_headOf, Cond.code yX3_headOf cX3_headOf 1 (some .int), Cond.methodLink RX1 83 yX1_isLost, Cond.instanceMethod yX1_isLost, Cond.selects RX1 yX1_isLost yX1_isLost, Cond.code yX1_isLost cX1_isLost 2 (some .boolean), Cond.fieldLink RX1 35 "LentSectors$Heads" "server" "[I", Cond.methodLink RX1 174 yX1_rankOf, Cond.instanceMethod yX1_rankOf, Cond.selects RX1 yX1_rankOf yX1_rankOf, Cond.code yX1_rankOf cX1_rankOf 6 (some .int), Cond.fieldLink RX1 26 "LentSectors$Heads" "wear" "[I", Cond.methodLink RL 13 yX3_count, Cond.instanceMethod yX3_count, Cond.selects RX3 yX3_count yX3_count, Cond.code yX3_count cX3_count 2 (some .int), Cond.fieldLink RX3 25 "LentSectors" "history" "LLentSectors$History;", Cond.fieldLink RX3 32 "LentSectors" "text" "LLentSectors$CommandText;", Cond.methodLink RX3 108 yX2_states, Cond.instanceMethod yX2_states, Cond.selects RX2 yX2_states yX2_states, Cond.initialized RX2, Cond.code yX2_states cX2_states 1 (some .int)]
def wsL_worst_r3 : List Cond := [Cond.fieldLink RX2 21 "LentSectors$History" "many" "I", Cond.methodLink RX3 139 yX0_length, Cond.instanceMethod yX0_length, Cond.selects RX0 yX0_length yX0_length, Cond.initialized RX0, Cond.code yX0_length cX0_length 1 (some .int), Cond.fieldLink RX0 15 "LentSectors$CommandText" "length" "I", Cond.methodLink RX3 142 yX1_tellWhole, Cond.instanceMethod yX1_tellWhole, Cond.selects RX1 yX1_tellWhole yX1_tellWhole, Cond.code yX1_tellWhole cX1_tellWhole 2 (some .int), Cond.fieldLink RX1 9 "LentSectors$Heads" "limit" "I", Cond.fieldLink RX1 41 "LentSectors$Heads" "arm" "I", Cond.fieldLink RX1 44 "LentSectors$Heads" "steps" "I", Cond.fieldLink RX1 47 "LentSectors$Heads" "rescues" "I", Cond.fieldLink RX1 50 "LentSectors$Heads" "losses" "I", Cond.fieldLink RX1 53 "LentSectors$Heads" "reads" "I", Cond.fieldLink RX1 56 "LentSectors$Heads" "writes" "I", Cond.methodLink RX1 164 yX1_overHeads, Cond.instanceMethod yX1_overHeads, Cond.selects RX1 yX1_overHeads yX1_overHeads, Cond.code yX1_overHeads cX1_overHeads 4 (some .int), Cond.methodLink RX1 177 yX1_tellHead, Cond.instanceMethod yX1_tellHead]
def wsL_worst_r4 : List Cond := [Cond.selects RX1 yX1_tellHead yX1_tellHead, Cond.code yX1_tellHead cX1_tellHead 3 (some .int), Cond.fieldLink RX1 15 "LentSectors$Heads" "ageing" "[I", Cond.fieldLink RX1 22 "LentSectors$Heads" "givenUp" "[Z", Cond.fieldLink RX1 38 "LentSectors$Heads" "client" "[I", Cond.methodLink RX1 98 yX1_freeOf, Cond.instanceMethod yX1_freeOf, Cond.selects RX1 yX1_freeOf yX1_freeOf, Cond.code yX1_freeOf cX1_freeOf 4 (some .int), Cond.methodLink RX1 92 yX1_isFree, Cond.instanceMethod yX1_isFree, Cond.selects RX1 yX1_isFree yX1_isFree, Cond.code yX1_isFree cX1_isFree 4 (some .boolean), Cond.methodLink RX1 86 yX1_isGood, Cond.instanceMethod yX1_isGood, Cond.selects RX1 yX1_isGood yX1_isGood, Cond.code yX1_isGood cX1_isGood 2 (some .boolean), Cond.methodLink RX1 157 yX1_leadingElsewhere, Cond.instanceMethod yX1_leadingElsewhere, Cond.selects RX1 yX1_leadingElsewhere yX1_leadingElsewhere, Cond.code yX1_leadingElsewhere cX1_leadingElsewhere 6 (some .int), Cond.methodLink RX1 133 yX1_lostOf, Cond.instanceMethod yX1_lostOf, Cond.selects RX1 yX1_lostOf yX1_lostOf]
def wsL_worst_r5 : List Cond := [Cond.code yX1_lostOf cX1_lostOf 4 (some .int), Cond.methodLink RX1 105 yX1_wearOf, Cond.instanceMethod yX1_wearOf, Cond.selects RX1 yX1_wearOf yX1_wearOf, Cond.code yX1_wearOf cX1_wearOf 4 (some .int), Cond.methodLink RX1 161 yX1_gradedOf, Cond.instanceMethod yX1_gradedOf, Cond.selects RX1 yX1_gradedOf yX1_gradedOf, Cond.code yX1_gradedOf cX1_gradedOf 5 (some .int), Cond.methodLink RX1 154 yX1_gradeOf, Cond.instanceMethod yX1_gradeOf, Cond.selects RX1 yX1_gradeOf yX1_gradeOf, Cond.code yX1_gradeOf cX1_gradeOf 2 (some .int), Cond.methodLink RX1 89 yX1_isBad, Cond.instanceMethod yX1_isBad, Cond.selects RX1 yX1_isBad yX1_isBad, Cond.code yX1_isBad cX1_isBad 2 (some .boolean), Cond.methodLink RX1 167 yX1_longWayCount, Cond.instanceMethod yX1_longWayCount, Cond.selects RX1 yX1_longWayCount yX1_longWayCount, Cond.code yX1_longWayCount cX1_longWayCount 3 (some .int), Cond.methodLink RX1 148 yX1_isLongWay, Cond.instanceMethod yX1_isLongWay, Cond.selects RX1 yX1_isLongWay yX1_isLongWay]
def wsL_worst_r6 : List Cond := [Cond.code yX1_isLongWay cX1_isLongWay 2 (some .boolean), Cond.methodLink RL 27 yX3_address, Cond.instanceMethod yX3_address, Cond.selects RX3 yX3_address yX3_address, Cond.code yX3_address cX3_address 3 (some .int), Cond.methodLink RX3 67 yX1_isAddress, Cond.methodLink RX3 121 yX1_tellAddress, Cond.instanceMethod yX1_tellAddress, Cond.selects RX1 yX1_tellAddress yX1_tellAddress, Cond.code yX1_tellAddress cX1_tellAddress 3 (some .int), Cond.fieldLink RX1 29 "LentSectors$Heads" "value" "[I", Cond.fieldLink RX1 32 "LentSectors$Heads" "rescuesOf" "[I", Cond.methodLink RX1 118 yX1_lendableTo, Cond.instanceMethod yX1_lendableTo, Cond.selects RX1 yX1_lendableTo yX1_lendableTo, Cond.code yX1_lendableTo cX1_lendableTo 7 (some .int), Cond.methodLink RX1 95 yX1_firstFreeOf, Cond.instanceMethod yX1_firstFreeOf, Cond.selects RX1 yX1_firstFreeOf yX1_firstFreeOf, Cond.code yX1_firstFreeOf cX1_firstFreeOf 3 (some .int), Cond.methodLink RX1 145 yX1_stepsTo, Cond.instanceMethod yX1_stepsTo, Cond.selects RX1 yX1_stepsTo yX1_stepsTo, Cond.code yX1_stepsTo cX1_stepsTo 3 (some .int)]
def wsL_worst_r7 : List Cond := [Cond.static yX3_stepsBetween, Cond.code yX3_stepsBetween cX3_stepsBetween 3 (some .int), Cond.methodLink RX3 151 Lib.Math.abs.name, Cond.static Lib.Math.abs.name, Cond.initialized "java/lang/Math", Cond.code Lib.Math.abs.name Lib.Math.abs.code 1 (some .int), Cond.methodLink RX3 148 yX3_placeOf, Cond.methodLink RX3 156 yX3_headOf, Cond.methodLink RL 21 yX3_sector, Cond.instanceMethod yX3_sector, Cond.selects RX3 yX3_sector yX3_sector, Cond.code yX3_sector cX3_sector 3 (some .int), Cond.methodLink RX3 124 yX3_isSector, Cond.methodLink RX3 127 yX1_tellSector, Cond.instanceMethod yX1_tellSector, Cond.selects RX1 yX1_tellSector yX1_tellSector, Cond.code yX1_tellSector cX1_tellSector 3 (some .int)]
def wsL_worst : List Cond := .code yL_worst cL_worst 7 (some .boolean) :: ((wsL_worst_r1 ++ (wsL_worst_r2 ++ (wsL_worst_r3 ++ (wsL_worst_r4 ++ (wsL_worst_r5 ++ (wsL_worst_r6 ++ wsL_worst_r7)))))) ++ wsX30 ++ wsX10 ++ wsX20 ++ wsX00)
def wsL_reads_r1 : List Cond := [Cond.methodLink RL 27 yX3_address, Cond.instanceMethod yX3_address, Cond.selects RX3 yX3_address yX3_address, Cond.initialized RX3, Cond.code yX3_address cX3_address 3 (some .int), Cond.fieldLink RX3 12 "LentSectors" "now" "LLentSectors$Heads;", Cond.methodLink RX3 67 yX1_isAddress, Cond.instanceMethod yX1_isAddress, Cond.selects RX1 yX1_isAddress yX1_isAddress, Cond.initialized RX1, Cond.code yX1_isAddress cX1_isAddress 2 (some .boolean), Cond.fieldLink RX1 19 "LentSectors$Heads" "spares" "[I", Cond.static yX3_isSector, Cond.code yX3_isSector cX3_isSector 1 (some .boolean), Cond.static yX3_placeOf, Cond.code yX3_placeOf cX3_placeOf 1 (some .int), Cond.static yX3_headOf, Cond.code yX3_headOf cX3_headOf 1 (some .int), Cond.methodLink RX3 121 yX1_tellAddress, Cond.instanceMethod yX1_tellAddress, Cond.selects RX1 yX1_tellAddress yX1_tellAddress, Cond.code yX1_tellAddress cX1_tellAddress 3 (some .int), Cond.fieldLink RX1 29 "LentSectors$Heads" "value" "[I", Cond.fieldLink RX1 35 "LentSectors$Heads" "server" "[I"]
def wsL_reads_r2 : List Cond := [Cond.fieldLink RX1 32 "LentSectors$Heads" "rescuesOf" "[I", Cond.methodLink RX1 83 yX1_isLost, Cond.instanceMethod yX1_isLost, Cond.selects RX1 yX1_isLost yX1_isLost, Cond.code yX1_isLost cX1_isLost 2 (some .boolean), Cond.methodLink RX1 148 yX1_isLongWay, Cond.instanceMethod yX1_isLongWay, Cond.selects RX1 yX1_isLongWay yX1_isLongWay, Cond.code yX1_isLongWay cX1_isLongWay 2 (some .boolean), Cond.methodLink RX1 118 yX1_lendableTo, Cond.instanceMethod yX1_lendableTo, Cond.selects RX1 yX1_lendableTo yX1_lendableTo, Cond.code yX1_lendableTo cX1_lendableTo 7 (some .int), Cond.methodLink RX1 95 yX1_firstFreeOf, Cond.instanceMethod yX1_firstFreeOf, Cond.selects RX1 yX1_firstFreeOf yX1_firstFreeOf, Cond.code yX1_firstFreeOf cX1_firstFreeOf 3 (some .int), Cond.methodLink RX1 92 yX1_isFree, Cond.instanceMethod yX1_isFree, Cond.selects RX1 yX1_isFree yX1_isFree, Cond.code yX1_isFree cX1_isFree 4 (some .boolean), Cond.fieldLink RX1 38 "LentSectors$Heads" "client" "[I", Cond.fieldLink RX1 22 "LentSectors$Heads" "givenUp" "[Z", Cond.methodLink RX1 86 yX1_isGood]
def wsL_reads_r3 : List Cond := [Cond.instanceMethod yX1_isGood, Cond.selects RX1 yX1_isGood yX1_isGood, Cond.code yX1_isGood cX1_isGood 2 (some .boolean), Cond.fieldLink RX1 26 "LentSectors$Heads" "wear" "[I", Cond.fieldLink RX1 9 "LentSectors$Heads" "limit" "I", Cond.methodLink RX1 98 yX1_freeOf, Cond.instanceMethod yX1_freeOf, Cond.selects RX1 yX1_freeOf yX1_freeOf, Cond.code yX1_freeOf cX1_freeOf 4 (some .int), Cond.methodLink RX1 145 yX1_stepsTo, Cond.instanceMethod yX1_stepsTo, Cond.selects RX1 yX1_stepsTo yX1_stepsTo, Cond.code yX1_stepsTo cX1_stepsTo 3 (some .int), Cond.fieldLink RX1 41 "LentSectors$Heads" "arm" "I", Cond.static yX3_stepsBetween, Cond.code yX3_stepsBetween cX3_stepsBetween 3 (some .int), Cond.methodLink RX3 151 Lib.Math.abs.name, Cond.static Lib.Math.abs.name, Cond.initialized "java/lang/Math", Cond.code Lib.Math.abs.name Lib.Math.abs.code 1 (some .int), Cond.methodLink RX3 148 yX3_placeOf, Cond.methodLink RX3 156 yX3_headOf, Cond.methodLink RL 13 yX3_count, Cond.instanceMethod yX3_count]
def wsL_reads_r4 : List Cond := [Cond.selects RX3 yX3_count yX3_count, Cond.code yX3_count cX3_count 2 (some .int), Cond.fieldLink RX3 25 "LentSectors" "history" "LLentSectors$History;", Cond.fieldLink RX3 32 "LentSectors" "text" "LLentSectors$CommandText;", Cond.methodLink RX3 108 yX2_states, Cond.instanceMethod yX2_states, Cond.selects RX2 yX2_states yX2_states, Cond.initialized RX2, Cond.code yX2_states cX2_states 1 (some .int), Cond.fieldLink RX2 21 "LentSectors$History" "many" "I", Cond.methodLink RX3 139 yX0_length, Cond.instanceMethod yX0_length, Cond.selects RX0 yX0_length yX0_length, Cond.initialized RX0, Cond.code yX0_length cX0_length 1 (some .int), Cond.fieldLink RX0 15 "LentSectors$CommandText" "length" "I", Cond.methodLink RX3 142 yX1_tellWhole, Cond.instanceMethod yX1_tellWhole, Cond.selects RX1 yX1_tellWhole yX1_tellWhole, Cond.code yX1_tellWhole cX1_tellWhole 2 (some .int), Cond.fieldLink RX1 44 "LentSectors$Heads" "steps" "I", Cond.fieldLink RX1 47 "LentSectors$Heads" "rescues" "I", Cond.fieldLink RX1 50 "LentSectors$Heads" "losses" "I", Cond.fieldLink RX1 53 "LentSectors$Heads" "reads" "I"]
def wsL_reads_r5 : List Cond := [Cond.fieldLink RX1 56 "LentSectors$Heads" "writes" "I", Cond.methodLink RX1 164 yX1_overHeads, Cond.instanceMethod yX1_overHeads, Cond.selects RX1 yX1_overHeads yX1_overHeads, Cond.code yX1_overHeads cX1_overHeads 4 (some .int), Cond.methodLink RX1 177 yX1_tellHead, Cond.instanceMethod yX1_tellHead, Cond.selects RX1 yX1_tellHead yX1_tellHead, Cond.code yX1_tellHead cX1_tellHead 3 (some .int), Cond.fieldLink RX1 15 "LentSectors$Heads" "ageing" "[I", Cond.methodLink RX1 157 yX1_leadingElsewhere, Cond.instanceMethod yX1_leadingElsewhere, Cond.selects RX1 yX1_leadingElsewhere yX1_leadingElsewhere, Cond.code yX1_leadingElsewhere cX1_leadingElsewhere 6 (some .int), Cond.methodLink RX1 133 yX1_lostOf, Cond.instanceMethod yX1_lostOf, Cond.selects RX1 yX1_lostOf yX1_lostOf, Cond.code yX1_lostOf cX1_lostOf 4 (some .int), Cond.methodLink RX1 105 yX1_wearOf, Cond.instanceMethod yX1_wearOf, Cond.selects RX1 yX1_wearOf yX1_wearOf, Cond.code yX1_wearOf cX1_wearOf 4 (some .int), Cond.methodLink RX1 161 yX1_gradedOf, Cond.instanceMethod yX1_gradedOf]
def wsL_reads_r6 : List Cond := [Cond.selects RX1 yX1_gradedOf yX1_gradedOf, Cond.code yX1_gradedOf cX1_gradedOf 5 (some .int), Cond.methodLink RX1 154 yX1_gradeOf, Cond.instanceMethod yX1_gradeOf, Cond.selects RX1 yX1_gradeOf yX1_gradeOf, Cond.code yX1_gradeOf cX1_gradeOf 2 (some .int), Cond.methodLink RX1 89 yX1_isBad, Cond.instanceMethod yX1_isBad, Cond.selects RX1 yX1_isBad yX1_isBad, Cond.code yX1_isBad cX1_isBad 2 (some .boolean), Cond.methodLink RX1 167 yX1_longWayCount, Cond.instanceMethod yX1_longWayCount, Cond.selects RX1 yX1_longWayCount yX1_longWayCount, Cond.code yX1_longWayCount cX1_longWayCount 3 (some .int), Cond.methodLink RX1 69 yX1_isAddress, Cond.methodLink RL 51 yL_low, Cond.static yL_low, Cond.initialized RL, Cond.code yL_low cL_low 2 (some .int), Cond.constant RL 8 (2147483647), Cond.methodLink RL 54 yX3_readsLeft, Cond.instanceMethod yX3_readsLeft, Cond.selects RX3 yX3_readsLeft yX3_readsLeft, Cond.code yX3_readsLeft cX3_readsLeft 2 (some .int)]
def wsL_reads_r7 : List Cond := [Cond.methodLink RX3 133 yX1_readsUntilChange, Cond.instanceMethod yX1_readsUntilChange, Cond.selects RX1 yX1_readsUntilChange yX1_readsUntilChange, Cond.code yX1_readsUntilChange cX1_readsUntilChange 6 (some .int), Cond.methodLink RL 57 yX3_read, Cond.instanceMethod yX3_read, Cond.selects RX3 yX3_read yX3_read, Cond.code yX3_read cX3_read 2 (some .int), Cond.fieldLink RX3 16 "LentSectors" "trial" "LLentSectors$Heads;", Cond.methodLink RX3 40 yX3_startTrial, Cond.instanceMethod yX3_startTrial, Cond.selects RX3 yX3_startTrial yX3_startTrial, Cond.code yX3_startTrial cX3_startTrial 1 none, Cond.methodLink RX3 115 yX1_takeOver, Cond.instanceMethod yX1_takeOver, Cond.selects RX1 yX1_takeOver yX1_takeOver, Cond.code yX1_takeOver cX1_takeOver 2 none, Cond.methodLink RX1 63 arraycopyName, Cond.native arraycopyName, Cond.static arraycopyName, Cond.initialized "java/lang/System", Cond.methodLink RX3 61 yX1_readAt, Cond.instanceMethod yX1_readAt, Cond.selects RX1 yX1_readAt yX1_readAt]
def wsL_reads_r8 : List Cond := [Cond.code yX1_readAt cX1_readAt 2 (some .int), Cond.methodLink RX1 108 yX1_goTo, Cond.instanceMethod yX1_goTo, Cond.selects RX1 yX1_goTo yX1_goTo, Cond.code yX1_goTo cX1_goTo 2 none, Cond.methodLink RX1 112 yX1_wearByReading, Cond.instanceMethod yX1_wearByReading, Cond.selects RX1 yX1_wearByReading yX1_wearByReading, Cond.code yX1_wearByReading cX1_wearByReading 2 none, Cond.methodLink RX1 115 yX1_lookAt, Cond.instanceMethod yX1_lookAt, Cond.selects RX1 yX1_lookAt yX1_lookAt, Cond.code yX1_lookAt cX1_lookAt 4 none, Cond.methodLink RX1 121 yX1_lend, Cond.instanceMethod yX1_lend, Cond.selects RX1 yX1_lend yX1_lend, Cond.code yX1_lend cX1_lend 3 none, Cond.methodLink RX1 142 yX1_release, Cond.instanceMethod yX1_release, Cond.selects RX1 yX1_release yX1_release, Cond.code yX1_release cX1_release 2 none, Cond.methodLink RX1 136 yX1_moveTo, Cond.instanceMethod yX1_moveTo, Cond.selects RX1 yX1_moveTo yX1_moveTo]
def wsL_reads_r9 : List Cond := [Cond.code yX1_moveTo cX1_moveTo 2 none, Cond.methodLink RX1 124 yX1_wearByWriting, Cond.instanceMethod yX1_wearByWriting, Cond.selects RX1 yX1_wearByWriting yX1_wearByWriting, Cond.code yX1_wearByWriting cX1_wearByWriting 2 none, Cond.methodLink RX1 139 yX1_lose, Cond.instanceMethod yX1_lose, Cond.selects RX1 yX1_lose yX1_lose, Cond.code yX1_lose cX1_lose 2 none, Cond.methodLink RX3 47 yX3_settle, Cond.instanceMethod yX3_settle, Cond.selects RX3 yX3_settle yX3_settle, Cond.code yX3_settle cX3_settle 2 (some .int), Cond.methodLink RX3 145 yX2_record, Cond.instanceMethod yX2_record, Cond.selects RX2 yX2_record yX2_record, Cond.code yX2_record cX2_record 2 none, Cond.fieldLink RX2 17 "LentSectors$History" "oldest" "I", Cond.fieldLink RX2 11 "LentSectors$History" "rooms" "[LLentSectors$Heads;", Cond.methodLink RX2 25 yX1_takeOver, Cond.methodLink RL 21 yX3_sector, Cond.instanceMethod yX3_sector, Cond.selects RX3 yX3_sector yX3_sector, Cond.code yX3_sector cX3_sector 3 (some .int)]
def wsL_reads_r10 : List Cond := [Cond.methodLink RX3 124 yX3_isSector, Cond.methodLink RX3 127 yX1_tellSector, Cond.instanceMethod yX1_tellSector, Cond.selects RX1 yX1_tellSector yX1_tellSector, Cond.code yX1_tellSector cX1_tellSector 3 (some .int)]
def wsL_reads : List Cond := .code yL_reads cL_reads 14 (some .boolean) :: ((wsL_reads_r1 ++ (wsL_reads_r2 ++ (wsL_reads_r3 ++ (wsL_reads_r4 ++ (wsL_reads_r5 ++ (wsL_reads_r6 ++ (wsL_reads_r7 ++ (wsL_reads_r8 ++ (wsL_reads_r9 ++ wsL_reads_r10))))))))) ++ wsX30 ++ wsX10 ++ wsX20 ++ wsX00)
def wsL_writes_r1 : List Cond := [Cond.methodLink RL 27 yX3_address, Cond.instanceMethod yX3_address, Cond.selects RX3 yX3_address yX3_address, Cond.initialized RX3, Cond.code yX3_address cX3_address 3 (some .int), Cond.fieldLink RX3 12 "LentSectors" "now" "LLentSectors$Heads;", Cond.methodLink RX3 67 yX1_isAddress, Cond.instanceMethod yX1_isAddress, Cond.selects RX1 yX1_isAddress yX1_isAddress, Cond.initialized RX1, Cond.code yX1_isAddress cX1_isAddress 2 (some .boolean), Cond.fieldLink RX1 19 "LentSectors$Heads" "spares" "[I", Cond.static yX3_isSector, Cond.code yX3_isSector cX3_isSector 1 (some .boolean), Cond.static yX3_placeOf, Cond.code yX3_placeOf cX3_placeOf 1 (some .int), Cond.static yX3_headOf, Cond.code yX3_headOf cX3_headOf 1 (some .int), Cond.methodLink RX3 121 yX1_tellAddress, Cond.instanceMethod yX1_tellAddress, Cond.selects RX1 yX1_tellAddress yX1_tellAddress, Cond.code yX1_tellAddress cX1_tellAddress 3 (some .int), Cond.fieldLink RX1 29 "LentSectors$Heads" "value" "[I", Cond.fieldLink RX1 35 "LentSectors$Heads" "server" "[I"]
def wsL_writes_r2 : List Cond := [Cond.fieldLink RX1 32 "LentSectors$Heads" "rescuesOf" "[I", Cond.methodLink RX1 83 yX1_isLost, Cond.instanceMethod yX1_isLost, Cond.selects RX1 yX1_isLost yX1_isLost, Cond.code yX1_isLost cX1_isLost 2 (some .boolean), Cond.methodLink RX1 148 yX1_isLongWay, Cond.instanceMethod yX1_isLongWay, Cond.selects RX1 yX1_isLongWay yX1_isLongWay, Cond.code yX1_isLongWay cX1_isLongWay 2 (some .boolean), Cond.methodLink RX1 118 yX1_lendableTo, Cond.instanceMethod yX1_lendableTo, Cond.selects RX1 yX1_lendableTo yX1_lendableTo, Cond.code yX1_lendableTo cX1_lendableTo 7 (some .int), Cond.methodLink RX1 95 yX1_firstFreeOf, Cond.instanceMethod yX1_firstFreeOf, Cond.selects RX1 yX1_firstFreeOf yX1_firstFreeOf, Cond.code yX1_firstFreeOf cX1_firstFreeOf 3 (some .int), Cond.methodLink RX1 92 yX1_isFree, Cond.instanceMethod yX1_isFree, Cond.selects RX1 yX1_isFree yX1_isFree, Cond.code yX1_isFree cX1_isFree 4 (some .boolean), Cond.fieldLink RX1 38 "LentSectors$Heads" "client" "[I", Cond.fieldLink RX1 22 "LentSectors$Heads" "givenUp" "[Z", Cond.methodLink RX1 86 yX1_isGood]
def wsL_writes_r3 : List Cond := [Cond.instanceMethod yX1_isGood, Cond.selects RX1 yX1_isGood yX1_isGood, Cond.code yX1_isGood cX1_isGood 2 (some .boolean), Cond.fieldLink RX1 26 "LentSectors$Heads" "wear" "[I", Cond.fieldLink RX1 9 "LentSectors$Heads" "limit" "I", Cond.methodLink RX1 98 yX1_freeOf, Cond.instanceMethod yX1_freeOf, Cond.selects RX1 yX1_freeOf yX1_freeOf, Cond.code yX1_freeOf cX1_freeOf 4 (some .int), Cond.methodLink RX1 145 yX1_stepsTo, Cond.instanceMethod yX1_stepsTo, Cond.selects RX1 yX1_stepsTo yX1_stepsTo, Cond.code yX1_stepsTo cX1_stepsTo 3 (some .int), Cond.fieldLink RX1 41 "LentSectors$Heads" "arm" "I", Cond.static yX3_stepsBetween, Cond.code yX3_stepsBetween cX3_stepsBetween 3 (some .int), Cond.methodLink RX3 151 Lib.Math.abs.name, Cond.static Lib.Math.abs.name, Cond.initialized "java/lang/Math", Cond.code Lib.Math.abs.name Lib.Math.abs.code 1 (some .int), Cond.methodLink RX3 148 yX3_placeOf, Cond.methodLink RX3 156 yX3_headOf, Cond.methodLink RL 13 yX3_count, Cond.instanceMethod yX3_count]
def wsL_writes_r4 : List Cond := [Cond.selects RX3 yX3_count yX3_count, Cond.code yX3_count cX3_count 2 (some .int), Cond.fieldLink RX3 25 "LentSectors" "history" "LLentSectors$History;", Cond.fieldLink RX3 32 "LentSectors" "text" "LLentSectors$CommandText;", Cond.methodLink RX3 108 yX2_states, Cond.instanceMethod yX2_states, Cond.selects RX2 yX2_states yX2_states, Cond.initialized RX2, Cond.code yX2_states cX2_states 1 (some .int), Cond.fieldLink RX2 21 "LentSectors$History" "many" "I", Cond.methodLink RX3 139 yX0_length, Cond.instanceMethod yX0_length, Cond.selects RX0 yX0_length yX0_length, Cond.initialized RX0, Cond.code yX0_length cX0_length 1 (some .int), Cond.fieldLink RX0 15 "LentSectors$CommandText" "length" "I", Cond.methodLink RX3 142 yX1_tellWhole, Cond.instanceMethod yX1_tellWhole, Cond.selects RX1 yX1_tellWhole yX1_tellWhole, Cond.code yX1_tellWhole cX1_tellWhole 2 (some .int), Cond.fieldLink RX1 44 "LentSectors$Heads" "steps" "I", Cond.fieldLink RX1 47 "LentSectors$Heads" "rescues" "I", Cond.fieldLink RX1 50 "LentSectors$Heads" "losses" "I", Cond.fieldLink RX1 53 "LentSectors$Heads" "reads" "I"]
def wsL_writes_r5 : List Cond := [Cond.fieldLink RX1 56 "LentSectors$Heads" "writes" "I", Cond.methodLink RX1 164 yX1_overHeads, Cond.instanceMethod yX1_overHeads, Cond.selects RX1 yX1_overHeads yX1_overHeads, Cond.code yX1_overHeads cX1_overHeads 4 (some .int), Cond.methodLink RX1 177 yX1_tellHead, Cond.instanceMethod yX1_tellHead, Cond.selects RX1 yX1_tellHead yX1_tellHead, Cond.code yX1_tellHead cX1_tellHead 3 (some .int), Cond.fieldLink RX1 15 "LentSectors$Heads" "ageing" "[I", Cond.methodLink RX1 157 yX1_leadingElsewhere, Cond.instanceMethod yX1_leadingElsewhere, Cond.selects RX1 yX1_leadingElsewhere yX1_leadingElsewhere, Cond.code yX1_leadingElsewhere cX1_leadingElsewhere 6 (some .int), Cond.methodLink RX1 133 yX1_lostOf, Cond.instanceMethod yX1_lostOf, Cond.selects RX1 yX1_lostOf yX1_lostOf, Cond.code yX1_lostOf cX1_lostOf 4 (some .int), Cond.methodLink RX1 105 yX1_wearOf, Cond.instanceMethod yX1_wearOf, Cond.selects RX1 yX1_wearOf yX1_wearOf, Cond.code yX1_wearOf cX1_wearOf 4 (some .int), Cond.methodLink RX1 161 yX1_gradedOf, Cond.instanceMethod yX1_gradedOf]
def wsL_writes_r6 : List Cond := [Cond.selects RX1 yX1_gradedOf yX1_gradedOf, Cond.code yX1_gradedOf cX1_gradedOf 5 (some .int), Cond.methodLink RX1 154 yX1_gradeOf, Cond.instanceMethod yX1_gradeOf, Cond.selects RX1 yX1_gradeOf yX1_gradeOf, Cond.code yX1_gradeOf cX1_gradeOf 2 (some .int), Cond.methodLink RX1 89 yX1_isBad, Cond.instanceMethod yX1_isBad, Cond.selects RX1 yX1_isBad yX1_isBad, Cond.code yX1_isBad cX1_isBad 2 (some .boolean), Cond.methodLink RX1 167 yX1_longWayCount, Cond.instanceMethod yX1_longWayCount, Cond.selects RX1 yX1_longWayCount yX1_longWayCount, Cond.code yX1_longWayCount cX1_longWayCount 3 (some .int), Cond.methodLink RX1 69 yX1_isAddress, Cond.methodLink RL 60 yX3_write, Cond.instanceMethod yX3_write, Cond.selects RX3 yX3_write yX3_write, Cond.code yX3_write cX3_write 3 (some .int), Cond.fieldLink RX3 16 "LentSectors" "trial" "LLentSectors$Heads;", Cond.methodLink RX3 40 yX3_startTrial, Cond.instanceMethod yX3_startTrial, Cond.selects RX3 yX3_startTrial yX3_startTrial, Cond.code yX3_startTrial cX3_startTrial 1 none]
def wsL_writes_r7 : List Cond := [Cond.methodLink RX3 115 yX1_takeOver, Cond.instanceMethod yX1_takeOver, Cond.selects RX1 yX1_takeOver yX1_takeOver, Cond.code yX1_takeOver cX1_takeOver 2 none, Cond.methodLink RX1 63 arraycopyName, Cond.native arraycopyName, Cond.static arraycopyName, Cond.initialized "java/lang/System", Cond.methodLink RX3 64 yX1_writeAt, Cond.instanceMethod yX1_writeAt, Cond.selects RX1 yX1_writeAt yX1_writeAt, Cond.code yX1_writeAt cX1_writeAt 4 (some .int), Cond.methodLink RX1 121 yX1_lend, Cond.instanceMethod yX1_lend, Cond.selects RX1 yX1_lend yX1_lend, Cond.code yX1_lend cX1_lend 3 none, Cond.methodLink RX1 142 yX1_release, Cond.instanceMethod yX1_release, Cond.selects RX1 yX1_release yX1_release, Cond.code yX1_release cX1_release 2 none, Cond.methodLink RX1 108 yX1_goTo, Cond.instanceMethod yX1_goTo, Cond.selects RX1 yX1_goTo yX1_goTo, Cond.code yX1_goTo cX1_goTo 2 none]
def wsL_writes_r8 : List Cond := [Cond.methodLink RX1 124 yX1_wearByWriting, Cond.instanceMethod yX1_wearByWriting, Cond.selects RX1 yX1_wearByWriting yX1_wearByWriting, Cond.code yX1_wearByWriting cX1_wearByWriting 2 none, Cond.methodLink RX1 115 yX1_lookAt, Cond.instanceMethod yX1_lookAt, Cond.selects RX1 yX1_lookAt yX1_lookAt, Cond.code yX1_lookAt cX1_lookAt 4 none, Cond.methodLink RX1 136 yX1_moveTo, Cond.instanceMethod yX1_moveTo, Cond.selects RX1 yX1_moveTo yX1_moveTo, Cond.code yX1_moveTo cX1_moveTo 2 none, Cond.methodLink RX1 139 yX1_lose, Cond.instanceMethod yX1_lose, Cond.selects RX1 yX1_lose yX1_lose, Cond.code yX1_lose cX1_lose 2 none, Cond.methodLink RX3 47 yX3_settle, Cond.instanceMethod yX3_settle, Cond.selects RX3 yX3_settle yX3_settle, Cond.code yX3_settle cX3_settle 2 (some .int), Cond.methodLink RX3 145 yX2_record, Cond.instanceMethod yX2_record, Cond.selects RX2 yX2_record yX2_record, Cond.code yX2_record cX2_record 2 none]
def wsL_writes_r9 : List Cond := [Cond.fieldLink RX2 17 "LentSectors$History" "oldest" "I", Cond.fieldLink RX2 11 "LentSectors$History" "rooms" "[LLentSectors$Heads;", Cond.methodLink RX2 25 yX1_takeOver]
def wsL_writes : List Cond := .code yL_writes cL_writes 8 (some .boolean) :: ((wsL_writes_r1 ++ (wsL_writes_r2 ++ (wsL_writes_r3 ++ (wsL_writes_r4 ++ (wsL_writes_r5 ++ (wsL_writes_r6 ++ (wsL_writes_r7 ++ (wsL_writes_r8 ++ wsL_writes_r9)))))))) ++ wsX30 ++ wsX10 ++ wsX20 ++ wsX00)
def wsL_gives_r1 : List Cond := [Cond.methodLink RL 27 yX3_address, Cond.instanceMethod yX3_address, Cond.selects RX3 yX3_address yX3_address, Cond.initialized RX3, Cond.code yX3_address cX3_address 3 (some .int), Cond.fieldLink RX3 12 "LentSectors" "now" "LLentSectors$Heads;", Cond.methodLink RX3 67 yX1_isAddress, Cond.instanceMethod yX1_isAddress, Cond.selects RX1 yX1_isAddress yX1_isAddress, Cond.initialized RX1, Cond.code yX1_isAddress cX1_isAddress 2 (some .boolean), Cond.fieldLink RX1 19 "LentSectors$Heads" "spares" "[I", Cond.static yX3_isSector, Cond.code yX3_isSector cX3_isSector 1 (some .boolean), Cond.static yX3_placeOf, Cond.code yX3_placeOf cX3_placeOf 1 (some .int), Cond.static yX3_headOf, Cond.code yX3_headOf cX3_headOf 1 (some .int), Cond.methodLink RX3 121 yX1_tellAddress, Cond.instanceMethod yX1_tellAddress, Cond.selects RX1 yX1_tellAddress yX1_tellAddress, Cond.code yX1_tellAddress cX1_tellAddress 3 (some .int), Cond.fieldLink RX1 29 "LentSectors$Heads" "value" "[I", Cond.fieldLink RX1 35 "LentSectors$Heads" "server" "[I"]
def wsL_gives_r2 : List Cond := [Cond.fieldLink RX1 32 "LentSectors$Heads" "rescuesOf" "[I", Cond.methodLink RX1 83 yX1_isLost, Cond.instanceMethod yX1_isLost, Cond.selects RX1 yX1_isLost yX1_isLost, Cond.code yX1_isLost cX1_isLost 2 (some .boolean), Cond.methodLink RX1 148 yX1_isLongWay, Cond.instanceMethod yX1_isLongWay, Cond.selects RX1 yX1_isLongWay yX1_isLongWay, Cond.code yX1_isLongWay cX1_isLongWay 2 (some .boolean), Cond.methodLink RX1 118 yX1_lendableTo, Cond.instanceMethod yX1_lendableTo, Cond.selects RX1 yX1_lendableTo yX1_lendableTo, Cond.code yX1_lendableTo cX1_lendableTo 7 (some .int), Cond.methodLink RX1 95 yX1_firstFreeOf, Cond.instanceMethod yX1_firstFreeOf, Cond.selects RX1 yX1_firstFreeOf yX1_firstFreeOf, Cond.code yX1_firstFreeOf cX1_firstFreeOf 3 (some .int), Cond.methodLink RX1 92 yX1_isFree, Cond.instanceMethod yX1_isFree, Cond.selects RX1 yX1_isFree yX1_isFree, Cond.code yX1_isFree cX1_isFree 4 (some .boolean), Cond.fieldLink RX1 38 "LentSectors$Heads" "client" "[I", Cond.fieldLink RX1 22 "LentSectors$Heads" "givenUp" "[Z", Cond.methodLink RX1 86 yX1_isGood]
def wsL_gives_r3 : List Cond := [Cond.instanceMethod yX1_isGood, Cond.selects RX1 yX1_isGood yX1_isGood, Cond.code yX1_isGood cX1_isGood 2 (some .boolean), Cond.fieldLink RX1 26 "LentSectors$Heads" "wear" "[I", Cond.fieldLink RX1 9 "LentSectors$Heads" "limit" "I", Cond.methodLink RX1 98 yX1_freeOf, Cond.instanceMethod yX1_freeOf, Cond.selects RX1 yX1_freeOf yX1_freeOf, Cond.code yX1_freeOf cX1_freeOf 4 (some .int), Cond.methodLink RX1 145 yX1_stepsTo, Cond.instanceMethod yX1_stepsTo, Cond.selects RX1 yX1_stepsTo yX1_stepsTo, Cond.code yX1_stepsTo cX1_stepsTo 3 (some .int), Cond.fieldLink RX1 41 "LentSectors$Heads" "arm" "I", Cond.static yX3_stepsBetween, Cond.code yX3_stepsBetween cX3_stepsBetween 3 (some .int), Cond.methodLink RX3 151 Lib.Math.abs.name, Cond.static Lib.Math.abs.name, Cond.initialized "java/lang/Math", Cond.code Lib.Math.abs.name Lib.Math.abs.code 1 (some .int), Cond.methodLink RX3 148 yX3_placeOf, Cond.methodLink RX3 156 yX3_headOf, Cond.methodLink RL 63 yX3_giveBack, Cond.instanceMethod yX3_giveBack]
def wsL_gives_r4 : List Cond := [Cond.selects RX3 yX3_giveBack yX3_giveBack, Cond.code yX3_giveBack cX3_giveBack 2 (some .int), Cond.fieldLink RX3 16 "LentSectors" "trial" "LLentSectors$Heads;", Cond.methodLink RX3 40 yX3_startTrial, Cond.instanceMethod yX3_startTrial, Cond.selects RX3 yX3_startTrial yX3_startTrial, Cond.code yX3_startTrial cX3_startTrial 1 none, Cond.methodLink RX3 115 yX1_takeOver, Cond.instanceMethod yX1_takeOver, Cond.selects RX1 yX1_takeOver yX1_takeOver, Cond.code yX1_takeOver cX1_takeOver 2 none, Cond.fieldLink RX1 15 "LentSectors$Heads" "ageing" "[I", Cond.methodLink RX1 63 arraycopyName, Cond.native arraycopyName, Cond.static arraycopyName, Cond.initialized "java/lang/System", Cond.fieldLink RX1 44 "LentSectors$Heads" "steps" "I", Cond.fieldLink RX1 47 "LentSectors$Heads" "rescues" "I", Cond.fieldLink RX1 50 "LentSectors$Heads" "losses" "I", Cond.fieldLink RX1 53 "LentSectors$Heads" "reads" "I", Cond.fieldLink RX1 56 "LentSectors$Heads" "writes" "I", Cond.methodLink RX3 90 yX1_giveBackAt, Cond.instanceMethod yX1_giveBackAt, Cond.selects RX1 yX1_giveBackAt yX1_giveBackAt]
def wsL_gives_r5 : List Cond := [Cond.code yX1_giveBackAt cX1_giveBackAt 3 (some .int), Cond.methodLink RX1 69 yX1_isAddress, Cond.methodLink RX1 108 yX1_goTo, Cond.instanceMethod yX1_goTo, Cond.selects RX1 yX1_goTo yX1_goTo, Cond.code yX1_goTo cX1_goTo 2 none, Cond.methodLink RX1 136 yX1_moveTo, Cond.instanceMethod yX1_moveTo, Cond.selects RX1 yX1_moveTo yX1_moveTo, Cond.code yX1_moveTo cX1_moveTo 2 none, Cond.methodLink RX1 124 yX1_wearByWriting, Cond.instanceMethod yX1_wearByWriting, Cond.selects RX1 yX1_wearByWriting yX1_wearByWriting, Cond.code yX1_wearByWriting cX1_wearByWriting 2 none, Cond.methodLink RX1 121 yX1_lend, Cond.instanceMethod yX1_lend, Cond.selects RX1 yX1_lend yX1_lend, Cond.code yX1_lend cX1_lend 3 none, Cond.methodLink RX1 142 yX1_release, Cond.instanceMethod yX1_release, Cond.selects RX1 yX1_release yX1_release, Cond.code yX1_release cX1_release 2 none, Cond.methodLink RX3 47 yX3_settle, Cond.instanceMethod yX3_settle]
def wsL_gives_r6 : List Cond := [Cond.selects RX3 yX3_settle yX3_settle, Cond.code yX3_settle cX3_settle 2 (some .int), Cond.fieldLink RX3 25 "LentSectors" "history" "LLentSectors$History;", Cond.methodLink RX3 145 yX2_record, Cond.instanceMethod yX2_record, Cond.selects RX2 yX2_record yX2_record, Cond.initialized RX2, Cond.code yX2_record cX2_record 2 none, Cond.fieldLink RX2 21 "LentSectors$History" "many" "I", Cond.fieldLink RX2 17 "LentSectors$History" "oldest" "I", Cond.fieldLink RX2 11 "LentSectors$History" "rooms" "[LLentSectors$Heads;", Cond.methodLink RX2 25 yX1_takeOver, Cond.methodLink RL 21 yX3_sector, Cond.instanceMethod yX3_sector, Cond.selects RX3 yX3_sector yX3_sector, Cond.code yX3_sector cX3_sector 3 (some .int), Cond.methodLink RX3 124 yX3_isSector, Cond.methodLink RX3 127 yX1_tellSector, Cond.instanceMethod yX1_tellSector, Cond.selects RX1 yX1_tellSector yX1_tellSector, Cond.code yX1_tellSector cX1_tellSector 3 (some .int), Cond.methodLink RX1 154 yX1_gradeOf, Cond.instanceMethod yX1_gradeOf, Cond.selects RX1 yX1_gradeOf yX1_gradeOf]
def wsL_gives_r7 : List Cond := [Cond.code yX1_gradeOf cX1_gradeOf 2 (some .int), Cond.methodLink RX1 89 yX1_isBad, Cond.instanceMethod yX1_isBad, Cond.selects RX1 yX1_isBad yX1_isBad, Cond.code yX1_isBad cX1_isBad 2 (some .boolean), Cond.methodLink RL 13 yX3_count, Cond.instanceMethod yX3_count, Cond.selects RX3 yX3_count yX3_count, Cond.code yX3_count cX3_count 2 (some .int), Cond.fieldLink RX3 32 "LentSectors" "text" "LLentSectors$CommandText;", Cond.methodLink RX3 108 yX2_states, Cond.instanceMethod yX2_states, Cond.selects RX2 yX2_states yX2_states, Cond.code yX2_states cX2_states 1 (some .int), Cond.methodLink RX3 139 yX0_length, Cond.instanceMethod yX0_length, Cond.selects RX0 yX0_length yX0_length, Cond.initialized RX0, Cond.code yX0_length cX0_length 1 (some .int), Cond.fieldLink RX0 15 "LentSectors$CommandText" "length" "I", Cond.methodLink RX3 142 yX1_tellWhole, Cond.instanceMethod yX1_tellWhole, Cond.selects RX1 yX1_tellWhole yX1_tellWhole, Cond.code yX1_tellWhole cX1_tellWhole 2 (some .int)]
def wsL_gives_r8 : List Cond := [Cond.methodLink RX1 164 yX1_overHeads, Cond.instanceMethod yX1_overHeads, Cond.selects RX1 yX1_overHeads yX1_overHeads, Cond.code yX1_overHeads cX1_overHeads 4 (some .int), Cond.methodLink RX1 177 yX1_tellHead, Cond.instanceMethod yX1_tellHead, Cond.selects RX1 yX1_tellHead yX1_tellHead, Cond.code yX1_tellHead cX1_tellHead 3 (some .int), Cond.methodLink RX1 157 yX1_leadingElsewhere, Cond.instanceMethod yX1_leadingElsewhere, Cond.selects RX1 yX1_leadingElsewhere yX1_leadingElsewhere, Cond.code yX1_leadingElsewhere cX1_leadingElsewhere 6 (some .int), Cond.methodLink RX1 133 yX1_lostOf, Cond.instanceMethod yX1_lostOf, Cond.selects RX1 yX1_lostOf yX1_lostOf, Cond.code yX1_lostOf cX1_lostOf 4 (some .int), Cond.methodLink RX1 105 yX1_wearOf, Cond.instanceMethod yX1_wearOf, Cond.selects RX1 yX1_wearOf yX1_wearOf, Cond.code yX1_wearOf cX1_wearOf 4 (some .int), Cond.methodLink RX1 161 yX1_gradedOf, Cond.instanceMethod yX1_gradedOf, Cond.selects RX1 yX1_gradedOf yX1_gradedOf, Cond.code yX1_gradedOf cX1_gradedOf 5 (some .int)]
def wsL_gives_r9 : List Cond := [Cond.methodLink RX1 167 yX1_longWayCount, Cond.instanceMethod yX1_longWayCount, Cond.selects RX1 yX1_longWayCount yX1_longWayCount, Cond.code yX1_longWayCount cX1_longWayCount 3 (some .int), Cond.methodLink RL 30 yX3_head, Cond.instanceMethod yX3_head, Cond.selects RX3 yX3_head yX3_head, Cond.code yX3_head cX3_head 3 (some .int), Cond.methodLink RX3 50 yX3_isHead, Cond.static yX3_isHead, Cond.code yX3_isHead cX3_isHead 1 (some .boolean), Cond.methodLink RX3 130 yX1_tellHead]
def wsL_gives : List Cond := .code yL_gives cL_gives 4 (some .boolean) :: ((wsL_gives_r1 ++ (wsL_gives_r2 ++ (wsL_gives_r3 ++ (wsL_gives_r4 ++ (wsL_gives_r5 ++ (wsL_gives_r6 ++ (wsL_gives_r7 ++ (wsL_gives_r8 ++ wsL_gives_r9)))))))) ++ wsX30 ++ wsX10 ++ wsX20 ++ wsX00)
def wsL_drops_r1 : List Cond := [Cond.methodLink RL 66 yX3_wouldLose, Cond.instanceMethod yX3_wouldLose, Cond.selects RX3 yX3_wouldLose yX3_wouldLose, Cond.initialized RX3, Cond.code yX3_wouldLose cX3_wouldLose 2 (some .int), Cond.fieldLink RX3 12 "LentSectors" "now" "LLentSectors$Heads;", Cond.fieldLink RX3 16 "LentSectors" "trial" "LLentSectors$Heads;", Cond.methodLink RX3 50 yX3_isHead, Cond.static yX3_isHead, Cond.code yX3_isHead cX3_isHead 1 (some .boolean), Cond.methodLink RX3 96 yX1_isGivenUp, Cond.instanceMethod yX1_isGivenUp, Cond.selects RX1 yX1_isGivenUp yX1_isGivenUp, Cond.initialized RX1, Cond.code yX1_isGivenUp cX1_isGivenUp 2 (some .boolean), Cond.fieldLink RX1 22 "LentSectors$Heads" "givenUp" "[Z", Cond.methodLink RX3 40 yX3_startTrial, Cond.instanceMethod yX3_startTrial, Cond.selects RX3 yX3_startTrial yX3_startTrial, Cond.code yX3_startTrial cX3_startTrial 1 none, Cond.methodLink RX3 115 yX1_takeOver, Cond.instanceMethod yX1_takeOver, Cond.selects RX1 yX1_takeOver yX1_takeOver, Cond.code yX1_takeOver cX1_takeOver 2 none]
def wsL_drops_r2 : List Cond := [Cond.fieldLink RX1 9 "LentSectors$Heads" "limit" "I", Cond.fieldLink RX1 15 "LentSectors$Heads" "ageing" "[I", Cond.methodLink RX1 63 arraycopyName, Cond.native arraycopyName, Cond.static arraycopyName, Cond.initialized "java/lang/System", Cond.fieldLink RX1 19 "LentSectors$Heads" "spares" "[I", Cond.fieldLink RX1 26 "LentSectors$Heads" "wear" "[I", Cond.fieldLink RX1 29 "LentSectors$Heads" "value" "[I", Cond.fieldLink RX1 32 "LentSectors$Heads" "rescuesOf" "[I", Cond.fieldLink RX1 35 "LentSectors$Heads" "server" "[I", Cond.fieldLink RX1 38 "LentSectors$Heads" "client" "[I", Cond.fieldLink RX1 41 "LentSectors$Heads" "arm" "I", Cond.fieldLink RX1 44 "LentSectors$Heads" "steps" "I", Cond.fieldLink RX1 47 "LentSectors$Heads" "rescues" "I", Cond.fieldLink RX1 50 "LentSectors$Heads" "losses" "I", Cond.fieldLink RX1 53 "LentSectors$Heads" "reads" "I", Cond.fieldLink RX1 56 "LentSectors$Heads" "writes" "I", Cond.methodLink RX3 99 yX1_vacate, Cond.instanceMethod yX1_vacate, Cond.selects RX1 yX1_vacate yX1_vacate, Cond.code yX1_vacate cX1_vacate 4 (some .int), Cond.methodLink RX1 69 yX1_isAddress, Cond.instanceMethod yX1_isAddress]
def wsL_drops_r3 : List Cond := [Cond.selects RX1 yX1_isAddress yX1_isAddress, Cond.code yX1_isAddress cX1_isAddress 2 (some .boolean), Cond.static yX3_isSector, Cond.code yX3_isSector cX3_isSector 1 (some .boolean), Cond.static yX3_placeOf, Cond.code yX3_placeOf cX3_placeOf 1 (some .int), Cond.static yX3_headOf, Cond.code yX3_headOf cX3_headOf 1 (some .int), Cond.methodLink RX1 83 yX1_isLost, Cond.instanceMethod yX1_isLost, Cond.selects RX1 yX1_isLost yX1_isLost, Cond.code yX1_isLost cX1_isLost 2 (some .boolean), Cond.methodLink RX1 151 yX1_moveAway, Cond.instanceMethod yX1_moveAway, Cond.selects RX1 yX1_moveAway yX1_moveAway, Cond.code yX1_moveAway cX1_moveAway 3 none, Cond.methodLink RX1 118 yX1_lendableTo, Cond.instanceMethod yX1_lendableTo, Cond.selects RX1 yX1_lendableTo yX1_lendableTo, Cond.code yX1_lendableTo cX1_lendableTo 7 (some .int), Cond.methodLink RX1 95 yX1_firstFreeOf, Cond.instanceMethod yX1_firstFreeOf, Cond.selects RX1 yX1_firstFreeOf yX1_firstFreeOf, Cond.code yX1_firstFreeOf cX1_firstFreeOf 3 (some .int)]
def wsL_drops_r4 : List Cond := [Cond.methodLink RX1 92 yX1_isFree, Cond.instanceMethod yX1_isFree, Cond.selects RX1 yX1_isFree yX1_isFree, Cond.code yX1_isFree cX1_isFree 4 (some .boolean), Cond.methodLink RX1 86 yX1_isGood, Cond.instanceMethod yX1_isGood, Cond.selects RX1 yX1_isGood yX1_isGood, Cond.code yX1_isGood cX1_isGood 2 (some .boolean), Cond.methodLink RX1 98 yX1_freeOf, Cond.instanceMethod yX1_freeOf, Cond.selects RX1 yX1_freeOf yX1_freeOf, Cond.code yX1_freeOf cX1_freeOf 4 (some .int), Cond.methodLink RX1 139 yX1_lose, Cond.instanceMethod yX1_lose, Cond.selects RX1 yX1_lose yX1_lose, Cond.code yX1_lose cX1_lose 2 none, Cond.methodLink RX1 142 yX1_release, Cond.instanceMethod yX1_release, Cond.selects RX1 yX1_release yX1_release, Cond.code yX1_release cX1_release 2 none, Cond.methodLink RX1 121 yX1_lend, Cond.instanceMethod yX1_lend, Cond.selects RX1 yX1_lend yX1_lend, Cond.code yX1_lend cX1_lend 3 none]
def wsL_drops_r5 : List Cond := [Cond.methodLink RX1 124 yX1_wearByWriting, Cond.instanceMethod yX1_wearByWriting, Cond.selects RX1 yX1_wearByWriting yX1_wearByWriting, Cond.code yX1_wearByWriting cX1_wearByWriting 2 none, Cond.methodLink RL 13 yX3_count, Cond.instanceMethod yX3_count, Cond.selects RX3 yX3_count yX3_count, Cond.code yX3_count cX3_count 2 (some .int), Cond.fieldLink RX3 25 "LentSectors" "history" "LLentSectors$History;", Cond.fieldLink RX3 32 "LentSectors" "text" "LLentSectors$CommandText;", Cond.methodLink RX3 108 yX2_states, Cond.instanceMethod yX2_states, Cond.selects RX2 yX2_states yX2_states, Cond.initialized RX2, Cond.code yX2_states cX2_states 1 (some .int), Cond.fieldLink RX2 21 "LentSectors$History" "many" "I", Cond.methodLink RX3 139 yX0_length, Cond.instanceMethod yX0_length, Cond.selects RX0 yX0_length yX0_length, Cond.initialized RX0, Cond.code yX0_length cX0_length 1 (some .int), Cond.fieldLink RX0 15 "LentSectors$CommandText" "length" "I", Cond.methodLink RX3 142 yX1_tellWhole, Cond.instanceMethod yX1_tellWhole]
def wsL_drops_r6 : List Cond := [Cond.selects RX1 yX1_tellWhole yX1_tellWhole, Cond.code yX1_tellWhole cX1_tellWhole 2 (some .int), Cond.methodLink RX1 164 yX1_overHeads, Cond.instanceMethod yX1_overHeads, Cond.selects RX1 yX1_overHeads yX1_overHeads, Cond.code yX1_overHeads cX1_overHeads 4 (some .int), Cond.methodLink RX1 177 yX1_tellHead, Cond.instanceMethod yX1_tellHead, Cond.selects RX1 yX1_tellHead yX1_tellHead, Cond.code yX1_tellHead cX1_tellHead 3 (some .int), Cond.methodLink RX1 157 yX1_leadingElsewhere, Cond.instanceMethod yX1_leadingElsewhere, Cond.selects RX1 yX1_leadingElsewhere yX1_leadingElsewhere, Cond.code yX1_leadingElsewhere cX1_leadingElsewhere 6 (some .int), Cond.methodLink RX1 133 yX1_lostOf, Cond.instanceMethod yX1_lostOf, Cond.selects RX1 yX1_lostOf yX1_lostOf, Cond.code yX1_lostOf cX1_lostOf 4 (some .int), Cond.methodLink RX1 105 yX1_wearOf, Cond.instanceMethod yX1_wearOf, Cond.selects RX1 yX1_wearOf yX1_wearOf, Cond.code yX1_wearOf cX1_wearOf 4 (some .int), Cond.methodLink RX1 161 yX1_gradedOf, Cond.instanceMethod yX1_gradedOf]
def wsL_drops_r7 : List Cond := [Cond.selects RX1 yX1_gradedOf yX1_gradedOf, Cond.code yX1_gradedOf cX1_gradedOf 5 (some .int), Cond.methodLink RX1 154 yX1_gradeOf, Cond.instanceMethod yX1_gradeOf, Cond.selects RX1 yX1_gradeOf yX1_gradeOf, Cond.code yX1_gradeOf cX1_gradeOf 2 (some .int), Cond.methodLink RX1 89 yX1_isBad, Cond.instanceMethod yX1_isBad, Cond.selects RX1 yX1_isBad yX1_isBad, Cond.code yX1_isBad cX1_isBad 2 (some .boolean), Cond.methodLink RX1 167 yX1_longWayCount, Cond.instanceMethod yX1_longWayCount, Cond.selects RX1 yX1_longWayCount yX1_longWayCount, Cond.code yX1_longWayCount cX1_longWayCount 3 (some .int), Cond.methodLink RX1 148 yX1_isLongWay, Cond.instanceMethod yX1_isLongWay, Cond.selects RX1 yX1_isLongWay yX1_isLongWay, Cond.code yX1_isLongWay cX1_isLongWay 2 (some .boolean), Cond.methodLink RL 30 yX3_head, Cond.instanceMethod yX3_head, Cond.selects RX3 yX3_head yX3_head, Cond.code yX3_head cX3_head 3 (some .int), Cond.methodLink RX3 130 yX1_tellHead, Cond.methodLink RL 69 yX3_giveUp]
def wsL_drops_r8 : List Cond := [Cond.instanceMethod yX3_giveUp, Cond.selects RX3 yX3_giveUp yX3_giveUp, Cond.code yX3_giveUp cX3_giveUp 2 (some .int), Cond.methodLink RX3 93 yX1_othersAreGivenUp, Cond.instanceMethod yX1_othersAreGivenUp, Cond.selects RX1 yX1_othersAreGivenUp yX1_othersAreGivenUp, Cond.code yX1_othersAreGivenUp cX1_othersAreGivenUp 3 (some .boolean), Cond.methodLink RX3 47 yX3_settle, Cond.instanceMethod yX3_settle, Cond.selects RX3 yX3_settle yX3_settle, Cond.code yX3_settle cX3_settle 2 (some .int), Cond.methodLink RX3 145 yX2_record, Cond.instanceMethod yX2_record, Cond.selects RX2 yX2_record yX2_record, Cond.code yX2_record cX2_record 2 none, Cond.fieldLink RX2 17 "LentSectors$History" "oldest" "I", Cond.fieldLink RX2 11 "LentSectors$History" "rooms" "[LLentSectors$Heads;", Cond.methodLink RX2 25 yX1_takeOver]
def wsL_drops : List Cond := .code yL_drops cL_drops 8 (some .boolean) :: ((wsL_drops_r1 ++ (wsL_drops_r2 ++ (wsL_drops_r3 ++ (wsL_drops_r4 ++ (wsL_drops_r5 ++ (wsL_drops_r6 ++ (wsL_drops_r7 ++ wsL_drops_r8))))))) ++ wsX30 ++ wsX10 ++ wsX20 ++ wsX00)
def wsL_does_r1 : List Cond := [Cond.methodLink RL 51 yL_low, Cond.static yL_low, Cond.initialized RL, Cond.code yL_low cL_low 2 (some .int), Cond.constant RL 8 (2147483647), Cond.methodLink RL 72 yL_reads, Cond.static yL_reads, Cond.code yL_reads cL_reads 14 (some .boolean), Cond.methodLink RL 27 yX3_address, Cond.instanceMethod yX3_address, Cond.selects RX3 yX3_address yX3_address, Cond.initialized RX3, Cond.code yX3_address cX3_address 3 (some .int), Cond.fieldLink RX3 12 "LentSectors" "now" "LLentSectors$Heads;", Cond.methodLink RX3 67 yX1_isAddress, Cond.instanceMethod yX1_isAddress, Cond.selects RX1 yX1_isAddress yX1_isAddress, Cond.initialized RX1, Cond.code yX1_isAddress cX1_isAddress 2 (some .boolean), Cond.fieldLink RX1 19 "LentSectors$Heads" "spares" "[I", Cond.static yX3_isSector, Cond.code yX3_isSector cX3_isSector 1 (some .boolean), Cond.static yX3_placeOf, Cond.code yX3_placeOf cX3_placeOf 1 (some .int)]
def wsL_does_r2 : List Cond := [Cond.static yX3_headOf, Cond.code yX3_headOf cX3_headOf 1 (some .int), Cond.methodLink RX3 121 yX1_tellAddress, Cond.instanceMethod yX1_tellAddress, Cond.selects RX1 yX1_tellAddress yX1_tellAddress, Cond.code yX1_tellAddress cX1_tellAddress 3 (some .int), Cond.fieldLink RX1 29 "LentSectors$Heads" "value" "[I", Cond.fieldLink RX1 35 "LentSectors$Heads" "server" "[I", Cond.fieldLink RX1 32 "LentSectors$Heads" "rescuesOf" "[I", Cond.methodLink RX1 83 yX1_isLost, Cond.instanceMethod yX1_isLost, Cond.selects RX1 yX1_isLost yX1_isLost, Cond.code yX1_isLost cX1_isLost 2 (some .boolean), Cond.methodLink RX1 148 yX1_isLongWay, Cond.instanceMethod yX1_isLongWay, Cond.selects RX1 yX1_isLongWay yX1_isLongWay, Cond.code yX1_isLongWay cX1_isLongWay 2 (some .boolean), Cond.methodLink RX1 118 yX1_lendableTo, Cond.instanceMethod yX1_lendableTo, Cond.selects RX1 yX1_lendableTo yX1_lendableTo, Cond.code yX1_lendableTo cX1_lendableTo 7 (some .int), Cond.methodLink RX1 95 yX1_firstFreeOf, Cond.instanceMethod yX1_firstFreeOf, Cond.selects RX1 yX1_firstFreeOf yX1_firstFreeOf]
def wsL_does_r3 : List Cond := [Cond.code yX1_firstFreeOf cX1_firstFreeOf 3 (some .int), Cond.methodLink RX1 92 yX1_isFree, Cond.instanceMethod yX1_isFree, Cond.selects RX1 yX1_isFree yX1_isFree, Cond.code yX1_isFree cX1_isFree 4 (some .boolean), Cond.fieldLink RX1 38 "LentSectors$Heads" "client" "[I", Cond.fieldLink RX1 22 "LentSectors$Heads" "givenUp" "[Z", Cond.methodLink RX1 86 yX1_isGood, Cond.instanceMethod yX1_isGood, Cond.selects RX1 yX1_isGood yX1_isGood, Cond.code yX1_isGood cX1_isGood 2 (some .boolean), Cond.fieldLink RX1 26 "LentSectors$Heads" "wear" "[I", Cond.fieldLink RX1 9 "LentSectors$Heads" "limit" "I", Cond.methodLink RX1 98 yX1_freeOf, Cond.instanceMethod yX1_freeOf, Cond.selects RX1 yX1_freeOf yX1_freeOf, Cond.code yX1_freeOf cX1_freeOf 4 (some .int), Cond.methodLink RX1 145 yX1_stepsTo, Cond.instanceMethod yX1_stepsTo, Cond.selects RX1 yX1_stepsTo yX1_stepsTo, Cond.code yX1_stepsTo cX1_stepsTo 3 (some .int), Cond.fieldLink RX1 41 "LentSectors$Heads" "arm" "I", Cond.static yX3_stepsBetween, Cond.code yX3_stepsBetween cX3_stepsBetween 3 (some .int)]
def wsL_does_r4 : List Cond := [Cond.methodLink RX3 151 Lib.Math.abs.name, Cond.static Lib.Math.abs.name, Cond.initialized "java/lang/Math", Cond.code Lib.Math.abs.name Lib.Math.abs.code 1 (some .int), Cond.methodLink RX3 148 yX3_placeOf, Cond.methodLink RX3 156 yX3_headOf, Cond.methodLink RL 13 yX3_count, Cond.instanceMethod yX3_count, Cond.selects RX3 yX3_count yX3_count, Cond.code yX3_count cX3_count 2 (some .int), Cond.fieldLink RX3 25 "LentSectors" "history" "LLentSectors$History;", Cond.fieldLink RX3 32 "LentSectors" "text" "LLentSectors$CommandText;", Cond.methodLink RX3 108 yX2_states, Cond.instanceMethod yX2_states, Cond.selects RX2 yX2_states yX2_states, Cond.initialized RX2, Cond.code yX2_states cX2_states 1 (some .int), Cond.fieldLink RX2 21 "LentSectors$History" "many" "I", Cond.methodLink RX3 139 yX0_length, Cond.instanceMethod yX0_length, Cond.selects RX0 yX0_length yX0_length, Cond.initialized RX0, Cond.code yX0_length cX0_length 1 (some .int), Cond.fieldLink RX0 15 "LentSectors$CommandText" "length" "I"]
def wsL_does_r5 : List Cond := [Cond.methodLink RX3 142 yX1_tellWhole, Cond.instanceMethod yX1_tellWhole, Cond.selects RX1 yX1_tellWhole yX1_tellWhole, Cond.code yX1_tellWhole cX1_tellWhole 2 (some .int), Cond.fieldLink RX1 44 "LentSectors$Heads" "steps" "I", Cond.fieldLink RX1 47 "LentSectors$Heads" "rescues" "I", Cond.fieldLink RX1 50 "LentSectors$Heads" "losses" "I", Cond.fieldLink RX1 53 "LentSectors$Heads" "reads" "I", Cond.fieldLink RX1 56 "LentSectors$Heads" "writes" "I", Cond.methodLink RX1 164 yX1_overHeads, Cond.instanceMethod yX1_overHeads, Cond.selects RX1 yX1_overHeads yX1_overHeads, Cond.code yX1_overHeads cX1_overHeads 4 (some .int), Cond.methodLink RX1 177 yX1_tellHead, Cond.instanceMethod yX1_tellHead, Cond.selects RX1 yX1_tellHead yX1_tellHead, Cond.code yX1_tellHead cX1_tellHead 3 (some .int), Cond.fieldLink RX1 15 "LentSectors$Heads" "ageing" "[I", Cond.methodLink RX1 157 yX1_leadingElsewhere, Cond.instanceMethod yX1_leadingElsewhere, Cond.selects RX1 yX1_leadingElsewhere yX1_leadingElsewhere, Cond.code yX1_leadingElsewhere cX1_leadingElsewhere 6 (some .int), Cond.methodLink RX1 133 yX1_lostOf, Cond.instanceMethod yX1_lostOf]
def wsL_does_r6 : List Cond := [Cond.selects RX1 yX1_lostOf yX1_lostOf, Cond.code yX1_lostOf cX1_lostOf 4 (some .int), Cond.methodLink RX1 105 yX1_wearOf, Cond.instanceMethod yX1_wearOf, Cond.selects RX1 yX1_wearOf yX1_wearOf, Cond.code yX1_wearOf cX1_wearOf 4 (some .int), Cond.methodLink RX1 161 yX1_gradedOf, Cond.instanceMethod yX1_gradedOf, Cond.selects RX1 yX1_gradedOf yX1_gradedOf, Cond.code yX1_gradedOf cX1_gradedOf 5 (some .int), Cond.methodLink RX1 154 yX1_gradeOf, Cond.instanceMethod yX1_gradeOf, Cond.selects RX1 yX1_gradeOf yX1_gradeOf, Cond.code yX1_gradeOf cX1_gradeOf 2 (some .int), Cond.methodLink RX1 89 yX1_isBad, Cond.instanceMethod yX1_isBad, Cond.selects RX1 yX1_isBad yX1_isBad, Cond.code yX1_isBad cX1_isBad 2 (some .boolean), Cond.methodLink RX1 167 yX1_longWayCount, Cond.instanceMethod yX1_longWayCount, Cond.selects RX1 yX1_longWayCount yX1_longWayCount, Cond.code yX1_longWayCount cX1_longWayCount 3 (some .int), Cond.methodLink RX1 69 yX1_isAddress, Cond.methodLink RL 54 yX3_readsLeft]
def wsL_does_r7 : List Cond := [Cond.instanceMethod yX3_readsLeft, Cond.selects RX3 yX3_readsLeft yX3_readsLeft, Cond.code yX3_readsLeft cX3_readsLeft 2 (some .int), Cond.methodLink RX3 133 yX1_readsUntilChange, Cond.instanceMethod yX1_readsUntilChange, Cond.selects RX1 yX1_readsUntilChange yX1_readsUntilChange, Cond.code yX1_readsUntilChange cX1_readsUntilChange 6 (some .int), Cond.methodLink RL 57 yX3_read, Cond.instanceMethod yX3_read, Cond.selects RX3 yX3_read yX3_read, Cond.code yX3_read cX3_read 2 (some .int), Cond.fieldLink RX3 16 "LentSectors" "trial" "LLentSectors$Heads;", Cond.methodLink RX3 40 yX3_startTrial, Cond.instanceMethod yX3_startTrial, Cond.selects RX3 yX3_startTrial yX3_startTrial, Cond.code yX3_startTrial cX3_startTrial 1 none, Cond.methodLink RX3 115 yX1_takeOver, Cond.instanceMethod yX1_takeOver, Cond.selects RX1 yX1_takeOver yX1_takeOver, Cond.code yX1_takeOver cX1_takeOver 2 none, Cond.methodLink RX1 63 arraycopyName, Cond.native arraycopyName, Cond.static arraycopyName, Cond.initialized "java/lang/System"]
def wsL_does_r8 : List Cond := [Cond.methodLink RX3 61 yX1_readAt, Cond.instanceMethod yX1_readAt, Cond.selects RX1 yX1_readAt yX1_readAt, Cond.code yX1_readAt cX1_readAt 2 (some .int), Cond.methodLink RX1 108 yX1_goTo, Cond.instanceMethod yX1_goTo, Cond.selects RX1 yX1_goTo yX1_goTo, Cond.code yX1_goTo cX1_goTo 2 none, Cond.methodLink RX1 112 yX1_wearByReading, Cond.instanceMethod yX1_wearByReading, Cond.selects RX1 yX1_wearByReading yX1_wearByReading, Cond.code yX1_wearByReading cX1_wearByReading 2 none, Cond.methodLink RX1 115 yX1_lookAt, Cond.instanceMethod yX1_lookAt, Cond.selects RX1 yX1_lookAt yX1_lookAt, Cond.code yX1_lookAt cX1_lookAt 4 none, Cond.methodLink RX1 121 yX1_lend, Cond.instanceMethod yX1_lend, Cond.selects RX1 yX1_lend yX1_lend, Cond.code yX1_lend cX1_lend 3 none, Cond.methodLink RX1 142 yX1_release, Cond.instanceMethod yX1_release, Cond.selects RX1 yX1_release yX1_release, Cond.code yX1_release cX1_release 2 none]
def wsL_does_r9 : List Cond := [Cond.methodLink RX1 136 yX1_moveTo, Cond.instanceMethod yX1_moveTo, Cond.selects RX1 yX1_moveTo yX1_moveTo, Cond.code yX1_moveTo cX1_moveTo 2 none, Cond.methodLink RX1 124 yX1_wearByWriting, Cond.instanceMethod yX1_wearByWriting, Cond.selects RX1 yX1_wearByWriting yX1_wearByWriting, Cond.code yX1_wearByWriting cX1_wearByWriting 2 none, Cond.methodLink RX1 139 yX1_lose, Cond.instanceMethod yX1_lose, Cond.selects RX1 yX1_lose yX1_lose, Cond.code yX1_lose cX1_lose 2 none, Cond.methodLink RX3 47 yX3_settle, Cond.instanceMethod yX3_settle, Cond.selects RX3 yX3_settle yX3_settle, Cond.code yX3_settle cX3_settle 2 (some .int), Cond.methodLink RX3 145 yX2_record, Cond.instanceMethod yX2_record, Cond.selects RX2 yX2_record yX2_record, Cond.code yX2_record cX2_record 2 none, Cond.fieldLink RX2 17 "LentSectors$History" "oldest" "I", Cond.fieldLink RX2 11 "LentSectors$History" "rooms" "[LLentSectors$Heads;", Cond.methodLink RX2 25 yX1_takeOver, Cond.methodLink RL 21 yX3_sector]
def wsL_does_r10 : List Cond := [Cond.instanceMethod yX3_sector, Cond.selects RX3 yX3_sector yX3_sector, Cond.code yX3_sector cX3_sector 3 (some .int), Cond.methodLink RX3 124 yX3_isSector, Cond.methodLink RX3 127 yX1_tellSector, Cond.instanceMethod yX1_tellSector, Cond.selects RX1 yX1_tellSector yX1_tellSector, Cond.code yX1_tellSector cX1_tellSector 3 (some .int), Cond.methodLink RL 76 yL_writes, Cond.static yL_writes, Cond.code yL_writes cL_writes 8 (some .boolean), Cond.methodLink RL 60 yX3_write, Cond.instanceMethod yX3_write, Cond.selects RX3 yX3_write yX3_write, Cond.code yX3_write cX3_write 3 (some .int), Cond.methodLink RX3 64 yX1_writeAt, Cond.instanceMethod yX1_writeAt, Cond.selects RX1 yX1_writeAt yX1_writeAt, Cond.code yX1_writeAt cX1_writeAt 4 (some .int), Cond.methodLink RL 30 yX3_head, Cond.instanceMethod yX3_head, Cond.selects RX3 yX3_head yX3_head, Cond.code yX3_head cX3_head 3 (some .int), Cond.methodLink RX3 50 yX3_isHead]
def wsL_does_r11 : List Cond := [Cond.static yX3_isHead, Cond.code yX3_isHead cX3_isHead 1 (some .boolean), Cond.methodLink RX3 130 yX1_tellHead, Cond.methodLink RL 79 yX3_test, Cond.instanceMethod yX3_test, Cond.selects RX3 yX3_test yX3_test, Cond.code yX3_test cX3_test 2 (some .int), Cond.methodLink RX3 74 yX1_testHead, Cond.instanceMethod yX1_testHead, Cond.selects RX1 yX1_testHead yX1_testHead, Cond.code yX1_testHead cX1_testHead 4 (some .int), Cond.methodLink RX1 127 yX1_readAt, Cond.methodLink RL 82 yL_gives, Cond.static yL_gives, Cond.code yL_gives cL_gives 4 (some .boolean), Cond.methodLink RL 63 yX3_giveBack, Cond.instanceMethod yX3_giveBack, Cond.selects RX3 yX3_giveBack yX3_giveBack, Cond.code yX3_giveBack cX3_giveBack 2 (some .int), Cond.methodLink RX3 90 yX1_giveBackAt, Cond.instanceMethod yX1_giveBackAt, Cond.selects RX1 yX1_giveBackAt yX1_giveBackAt, Cond.code yX1_giveBackAt cX1_giveBackAt 3 (some .int), Cond.methodLink RL 86 yL_drops]
def wsL_does_r12 : List Cond := [Cond.static yL_drops, Cond.code yL_drops cL_drops 8 (some .boolean), Cond.methodLink RL 66 yX3_wouldLose, Cond.instanceMethod yX3_wouldLose, Cond.selects RX3 yX3_wouldLose yX3_wouldLose, Cond.code yX3_wouldLose cX3_wouldLose 2 (some .int), Cond.methodLink RX3 96 yX1_isGivenUp, Cond.instanceMethod yX1_isGivenUp, Cond.selects RX1 yX1_isGivenUp yX1_isGivenUp, Cond.code yX1_isGivenUp cX1_isGivenUp 2 (some .boolean), Cond.methodLink RX3 99 yX1_vacate, Cond.instanceMethod yX1_vacate, Cond.selects RX1 yX1_vacate yX1_vacate, Cond.code yX1_vacate cX1_vacate 4 (some .int), Cond.methodLink RX1 151 yX1_moveAway, Cond.instanceMethod yX1_moveAway, Cond.selects RX1 yX1_moveAway yX1_moveAway, Cond.code yX1_moveAway cX1_moveAway 3 none, Cond.methodLink RL 69 yX3_giveUp, Cond.instanceMethod yX3_giveUp, Cond.selects RX3 yX3_giveUp yX3_giveUp, Cond.code yX3_giveUp cX3_giveUp 2 (some .int), Cond.methodLink RX3 93 yX1_othersAreGivenUp, Cond.instanceMethod yX1_othersAreGivenUp]
def wsL_does_r13 : List Cond := [Cond.selects RX1 yX1_othersAreGivenUp yX1_othersAreGivenUp, Cond.code yX1_othersAreGivenUp cX1_othersAreGivenUp 3 (some .boolean), Cond.methodLink RL 89 yX3_setLimit, Cond.instanceMethod yX3_setLimit, Cond.selects RX3 yX3_setLimit yX3_setLimit, Cond.code yX3_setLimit cX3_setLimit 2 (some .int), Cond.methodLink RX3 43 yX1_changeLimit, Cond.instanceMethod yX1_changeLimit, Cond.selects RX1 yX1_changeLimit yX1_changeLimit, Cond.code yX1_changeLimit cX1_changeLimit 3 (some .int), Cond.methodLink RL 92 yX3_copy, Cond.instanceMethod yX3_copy, Cond.selects RX3 yX3_copy yX3_copy, Cond.code yX3_copy cX3_copy 5 (some .int), Cond.methodLink RX3 70 yX1_copyRow, Cond.instanceMethod yX1_copyRow, Cond.selects RX1 yX1_copyRow yX1_copyRow, Cond.code yX1_copyRow cX1_copyRow 6 (some .int), Cond.methodLink RX1 130 yX1_writeAt]
def wsL_does : List Cond := .code yL_does cL_does 11 (some .boolean) :: ((wsL_does_r1 ++ (wsL_does_r2 ++ (wsL_does_r3 ++ (wsL_does_r4 ++ (wsL_does_r5 ++ (wsL_does_r6 ++ (wsL_does_r7 ++ (wsL_does_r8 ++ (wsL_does_r9 ++ (wsL_does_r10 ++ (wsL_does_r11 ++ (wsL_does_r12 ++ wsL_does_r13)))))))))))) ++ wsX30 ++ wsX10 ++ wsX20 ++ wsX00)
def wsL_law_r1 : List Cond := [Cond.classLink RL 14 RX3, Cond.instantiable RX3 6, Cond.initialized RX3, Cond.constant RL 110 (196608), Cond.methodLink RL 95 yX3_init, Cond.instanceMethod yX3_init, Cond.code yX3_init cX3_init 1 none, Cond.methodLink RX3 3 objectInit, Cond.instanceMethod objectInit, Cond.code objectInit ⟨#[0xb1]⟩ 1 none, Cond.classLink RX3 9 RX1, Cond.instantiable RX1 15, Cond.initialized RX1, Cond.fieldLink RX3 12 "LentSectors" "now" "LLentSectors$Heads;", Cond.fieldLink RX3 16 "LentSectors" "trial" "LLentSectors$Heads;", Cond.fieldLink RX3 19 "LentSectors" "kept" "LLentSectors$Heads;", Cond.classLink RX3 22 RX2, Cond.instantiable RX2 3, Cond.initialized RX2, Cond.fieldLink RX3 25 "LentSectors" "history" "LLentSectors$History;", Cond.classLink RX3 29 RX0, Cond.instantiable RX0 6, Cond.initialized RX0, Cond.fieldLink RX3 32 "LentSectors" "text" "LLentSectors$CommandText;"]
def wsL_law_r2 : List Cond := [Cond.fieldLink RX3 36 "LentSectors" "hasKept" "Z", Cond.methodLink RX3 11 yX1_init, Cond.instanceMethod yX1_init, Cond.code yX1_init cX1_init 2 none, Cond.methodLink RX1 3 objectInit, Cond.fieldLink RX1 9 "LentSectors$Heads" "limit" "I", Cond.arrayClass .int, Cond.fieldLink RX1 15 "LentSectors$Heads" "ageing" "[I", Cond.fieldLink RX1 19 "LentSectors$Heads" "spares" "[I", Cond.arrayClass .boolean, Cond.fieldLink RX1 22 "LentSectors$Heads" "givenUp" "[Z", Cond.fieldLink RX1 26 "LentSectors$Heads" "wear" "[I", Cond.fieldLink RX1 29 "LentSectors$Heads" "value" "[I", Cond.fieldLink RX1 32 "LentSectors$Heads" "rescuesOf" "[I", Cond.fieldLink RX1 35 "LentSectors$Heads" "server" "[I", Cond.fieldLink RX1 38 "LentSectors$Heads" "client" "[I", Cond.fieldLink RX1 41 "LentSectors$Heads" "arm" "I", Cond.fieldLink RX1 44 "LentSectors$Heads" "steps" "I", Cond.fieldLink RX1 47 "LentSectors$Heads" "rescues" "I", Cond.fieldLink RX1 50 "LentSectors$Heads" "losses" "I", Cond.fieldLink RX1 53 "LentSectors$Heads" "reads" "I", Cond.fieldLink RX1 56 "LentSectors$Heads" "writes" "I", Cond.methodLink RX1 59 yX1_divide, Cond.instanceMethod yX1_divide]
def wsL_law_r3 : List Cond := [Cond.selects RX1 yX1_divide yX1_divide, Cond.code yX1_divide cX1_divide 6 none, Cond.methodLink RX1 69 yX1_isAddress, Cond.instanceMethod yX1_isAddress, Cond.selects RX1 yX1_isAddress yX1_isAddress, Cond.code yX1_isAddress cX1_isAddress 2 (some .boolean), Cond.static yX3_isSector, Cond.code yX3_isSector cX3_isSector 1 (some .boolean), Cond.static yX3_placeOf, Cond.code yX3_placeOf cX3_placeOf 1 (some .int), Cond.static yX3_headOf, Cond.code yX3_headOf cX3_headOf 1 (some .int), Cond.methodLink RX3 24 yX2_init, Cond.instanceMethod yX2_init, Cond.code yX2_init cX2_init 2 none, Cond.methodLink RX2 3 objectInit, Cond.classLink RX2 9 RX1, Cond.fieldLink RX2 11 "LentSectors$History" "rooms" "[LLentSectors$Heads;", Cond.fieldLink RX2 17 "LentSectors$History" "oldest" "I", Cond.fieldLink RX2 21 "LentSectors$History" "many" "I", Cond.methodLink RX2 24 yX1_init, Cond.instanceMethod yX0_init, Cond.code yX0_init cX0_init 1 none, Cond.methodLink RX0 3 objectInit]
def wsL_law_r4 : List Cond := [Cond.fieldLink RX0 9 "LentSectors$CommandText" "codes" "[I", Cond.fieldLink RX0 15 "LentSectors$CommandText" "length" "I", Cond.fieldLink RX0 19 "LentSectors$CommandText" "sectors" "[I", Cond.fieldLink RX0 22 "LentSectors$CommandText" "values" "[I", Cond.fieldLink RX0 25 "LentSectors$CommandText" "commands" "I", Cond.fieldLink RX0 28 "LentSectors$CommandText" "at" "I", Cond.methodLink RL 96 yX3_undo, Cond.instanceMethod yX3_undo, Cond.selects RX3 yX3_undo yX3_undo, Cond.code yX3_undo cX3_undo 1 (some .int), Cond.methodLink RX3 108 yX2_states, Cond.instanceMethod yX2_states, Cond.selects RX2 yX2_states yX2_states, Cond.code yX2_states cX2_states 1 (some .int), Cond.methodLink RX3 111 yX2_takeBack, Cond.instanceMethod yX2_takeBack, Cond.selects RX2 yX2_takeBack yX2_takeBack, Cond.code yX2_takeBack cX2_takeBack 2 none, Cond.methodLink RX2 25 yX1_takeOver, Cond.instanceMethod yX1_takeOver, Cond.selects RX1 yX1_takeOver yX1_takeOver, Cond.code yX1_takeOver cX1_takeOver 2 none, Cond.methodLink RX1 63 arraycopyName, Cond.native arraycopyName]
def wsL_law_r5 : List Cond := [Cond.static arraycopyName, Cond.initialized "java/lang/System", Cond.methodLink RL 100 yX3_restore, Cond.instanceMethod yX3_restore, Cond.selects RX3 yX3_restore yX3_restore, Cond.code yX3_restore cX3_restore 1 (some .int), Cond.methodLink RX3 115 yX1_takeOver, Cond.methodLink RX3 118 yX1_stepsSoFar, Cond.instanceMethod yX1_stepsSoFar, Cond.selects RX1 yX1_stepsSoFar yX1_stepsSoFar, Cond.code yX1_stepsSoFar cX1_stepsSoFar 1 (some .int), Cond.methodLink RX3 47 yX3_settle, Cond.instanceMethod yX3_settle, Cond.selects RX3 yX3_settle yX3_settle, Cond.code yX3_settle cX3_settle 2 (some .int), Cond.methodLink RX3 145 yX2_record, Cond.instanceMethod yX2_record, Cond.selects RX2 yX2_record yX2_record, Cond.code yX2_record cX2_record 2 none, Cond.methodLink RL 103 yX3_perform, Cond.instanceMethod yX3_perform, Cond.selects RX3 yX3_perform yX3_perform, Cond.code yX3_perform cX3_perform 6 (some .int), Cond.methodLink RX3 77 yX0_parse]
def wsL_law_r6 : List Cond := [Cond.instanceMethod yX0_parse, Cond.selects RX0 yX0_parse yX0_parse, Cond.code yX0_parse cX0_parse 2 (some .int), Cond.methodLink RX0 31 yX0_takeCommand, Cond.instanceMethod yX0_takeCommand, Cond.selects RX0 yX0_takeCommand yX0_takeCommand, Cond.code yX0_takeCommand cX0_takeCommand 4 (some .boolean), Cond.methodLink RX0 39 yX0_take, Cond.instanceMethod yX0_take, Cond.selects RX0 yX0_take yX0_take, Cond.code yX0_take cX0_take 2 (some .boolean), Cond.methodLink RX0 35 yX0_peek, Cond.instanceMethod yX0_peek, Cond.selects RX0 yX0_peek yX0_peek, Cond.code yX0_peek cX0_peek 1 (some .int), Cond.methodLink RX0 43 yX0_takeNumber, Cond.instanceMethod yX0_takeNumber, Cond.selects RX0 yX0_takeNumber yX0_takeNumber, Cond.code yX0_takeNumber cX0_takeNumber 4 (some .int), Cond.methodLink RX0 51 yX0_digitAt, Cond.instanceMethod yX0_digitAt, Cond.selects RX0 yX0_digitAt yX0_digitAt, Cond.code yX0_digitAt cX0_digitAt 2 (some .int), Cond.methodLink RX0 47 yX0_addCommand]
def wsL_law_r7 : List Cond := [Cond.instanceMethod yX0_addCommand, Cond.selects RX0 yX0_addCommand yX0_addCommand, Cond.code yX0_addCommand cX0_addCommand 3 none, Cond.methodLink RX3 40 yX3_startTrial, Cond.instanceMethod yX3_startTrial, Cond.selects RX3 yX3_startTrial yX3_startTrial, Cond.code yX3_startTrial cX3_startTrial 1 none, Cond.methodLink RX3 81 yX0_commandCount, Cond.instanceMethod yX0_commandCount, Cond.selects RX0 yX0_commandCount yX0_commandCount, Cond.code yX0_commandCount cX0_commandCount 1 (some .int), Cond.methodLink RX3 84 yX0_commandSector, Cond.instanceMethod yX0_commandSector, Cond.selects RX0 yX0_commandSector yX0_commandSector, Cond.code yX0_commandSector cX0_commandSector 2 (some .int), Cond.methodLink RX3 87 yX0_commandValue, Cond.instanceMethod yX0_commandValue, Cond.selects RX0 yX0_commandValue yX0_commandValue, Cond.code yX0_commandValue cX0_commandValue 2 (some .int), Cond.methodLink RX3 61 yX1_readAt, Cond.instanceMethod yX1_readAt, Cond.selects RX1 yX1_readAt yX1_readAt, Cond.code yX1_readAt cX1_readAt 2 (some .int), Cond.methodLink RX1 83 yX1_isLost]
def wsL_law_r8 : List Cond := [Cond.instanceMethod yX1_isLost, Cond.selects RX1 yX1_isLost yX1_isLost, Cond.code yX1_isLost cX1_isLost 2 (some .boolean), Cond.methodLink RX1 108 yX1_goTo, Cond.instanceMethod yX1_goTo, Cond.selects RX1 yX1_goTo yX1_goTo, Cond.code yX1_goTo cX1_goTo 2 none, Cond.methodLink RX1 145 yX1_stepsTo, Cond.instanceMethod yX1_stepsTo, Cond.selects RX1 yX1_stepsTo yX1_stepsTo, Cond.code yX1_stepsTo cX1_stepsTo 3 (some .int), Cond.static yX3_stepsBetween, Cond.code yX3_stepsBetween cX3_stepsBetween 3 (some .int), Cond.methodLink RX3 151 Lib.Math.abs.name, Cond.static Lib.Math.abs.name, Cond.initialized "java/lang/Math", Cond.code Lib.Math.abs.name Lib.Math.abs.code 1 (some .int), Cond.methodLink RX3 148 yX3_placeOf, Cond.methodLink RX3 156 yX3_headOf, Cond.methodLink RX1 112 yX1_wearByReading, Cond.instanceMethod yX1_wearByReading, Cond.selects RX1 yX1_wearByReading yX1_wearByReading, Cond.code yX1_wearByReading cX1_wearByReading 2 none, Cond.methodLink RX1 115 yX1_lookAt]
def wsL_law_r9 : List Cond := [Cond.instanceMethod yX1_lookAt, Cond.selects RX1 yX1_lookAt yX1_lookAt, Cond.code yX1_lookAt cX1_lookAt 4 none, Cond.methodLink RX1 86 yX1_isGood, Cond.instanceMethod yX1_isGood, Cond.selects RX1 yX1_isGood yX1_isGood, Cond.code yX1_isGood cX1_isGood 2 (some .boolean), Cond.methodLink RX1 118 yX1_lendableTo, Cond.instanceMethod yX1_lendableTo, Cond.selects RX1 yX1_lendableTo yX1_lendableTo, Cond.code yX1_lendableTo cX1_lendableTo 7 (some .int), Cond.methodLink RX1 95 yX1_firstFreeOf, Cond.instanceMethod yX1_firstFreeOf, Cond.selects RX1 yX1_firstFreeOf yX1_firstFreeOf, Cond.code yX1_firstFreeOf cX1_firstFreeOf 3 (some .int), Cond.methodLink RX1 92 yX1_isFree, Cond.instanceMethod yX1_isFree, Cond.selects RX1 yX1_isFree yX1_isFree, Cond.code yX1_isFree cX1_isFree 4 (some .boolean), Cond.methodLink RX1 98 yX1_freeOf, Cond.instanceMethod yX1_freeOf, Cond.selects RX1 yX1_freeOf yX1_freeOf, Cond.code yX1_freeOf cX1_freeOf 4 (some .int), Cond.methodLink RX1 121 yX1_lend]
def wsL_law_r10 : List Cond := [Cond.instanceMethod yX1_lend, Cond.selects RX1 yX1_lend yX1_lend, Cond.code yX1_lend cX1_lend 3 none, Cond.methodLink RX1 142 yX1_release, Cond.instanceMethod yX1_release, Cond.selects RX1 yX1_release yX1_release, Cond.code yX1_release cX1_release 2 none, Cond.methodLink RX1 136 yX1_moveTo, Cond.instanceMethod yX1_moveTo, Cond.selects RX1 yX1_moveTo yX1_moveTo, Cond.code yX1_moveTo cX1_moveTo 2 none, Cond.methodLink RX1 124 yX1_wearByWriting, Cond.instanceMethod yX1_wearByWriting, Cond.selects RX1 yX1_wearByWriting yX1_wearByWriting, Cond.code yX1_wearByWriting cX1_wearByWriting 2 none, Cond.methodLink RX1 89 yX1_isBad, Cond.instanceMethod yX1_isBad, Cond.selects RX1 yX1_isBad yX1_isBad, Cond.code yX1_isBad cX1_isBad 2 (some .boolean), Cond.methodLink RX1 139 yX1_lose, Cond.instanceMethod yX1_lose, Cond.selects RX1 yX1_lose yX1_lose, Cond.code yX1_lose cX1_lose 2 none, Cond.methodLink RX3 64 yX1_writeAt]
def wsL_law_r11 : List Cond := [Cond.instanceMethod yX1_writeAt, Cond.selects RX1 yX1_writeAt yX1_writeAt, Cond.code yX1_writeAt cX1_writeAt 4 (some .int), Cond.methodLink RL 13 yX3_count, Cond.instanceMethod yX3_count, Cond.selects RX3 yX3_count yX3_count, Cond.code yX3_count cX3_count 2 (some .int), Cond.methodLink RX3 139 yX0_length, Cond.instanceMethod yX0_length, Cond.selects RX0 yX0_length yX0_length, Cond.code yX0_length cX0_length 1 (some .int), Cond.methodLink RX3 142 yX1_tellWhole, Cond.instanceMethod yX1_tellWhole, Cond.selects RX1 yX1_tellWhole yX1_tellWhole, Cond.code yX1_tellWhole cX1_tellWhole 2 (some .int), Cond.methodLink RX1 164 yX1_overHeads, Cond.instanceMethod yX1_overHeads, Cond.selects RX1 yX1_overHeads yX1_overHeads, Cond.code yX1_overHeads cX1_overHeads 4 (some .int), Cond.methodLink RX1 177 yX1_tellHead, Cond.instanceMethod yX1_tellHead, Cond.selects RX1 yX1_tellHead yX1_tellHead, Cond.code yX1_tellHead cX1_tellHead 3 (some .int), Cond.methodLink RX1 157 yX1_leadingElsewhere]
def wsL_law_r12 : List Cond := [Cond.instanceMethod yX1_leadingElsewhere, Cond.selects RX1 yX1_leadingElsewhere yX1_leadingElsewhere, Cond.code yX1_leadingElsewhere cX1_leadingElsewhere 6 (some .int), Cond.methodLink RX1 133 yX1_lostOf, Cond.instanceMethod yX1_lostOf, Cond.selects RX1 yX1_lostOf yX1_lostOf, Cond.code yX1_lostOf cX1_lostOf 4 (some .int), Cond.methodLink RX1 105 yX1_wearOf, Cond.instanceMethod yX1_wearOf, Cond.selects RX1 yX1_wearOf yX1_wearOf, Cond.code yX1_wearOf cX1_wearOf 4 (some .int), Cond.methodLink RX1 161 yX1_gradedOf, Cond.instanceMethod yX1_gradedOf, Cond.selects RX1 yX1_gradedOf yX1_gradedOf, Cond.code yX1_gradedOf cX1_gradedOf 5 (some .int), Cond.methodLink RX1 154 yX1_gradeOf, Cond.instanceMethod yX1_gradeOf, Cond.selects RX1 yX1_gradeOf yX1_gradeOf, Cond.code yX1_gradeOf cX1_gradeOf 2 (some .int), Cond.methodLink RX1 167 yX1_longWayCount, Cond.instanceMethod yX1_longWayCount, Cond.selects RX1 yX1_longWayCount yX1_longWayCount, Cond.code yX1_longWayCount cX1_longWayCount 3 (some .int), Cond.methodLink RX1 148 yX1_isLongWay]
def wsL_law_r13 : List Cond := [Cond.instanceMethod yX1_isLongWay, Cond.selects RX1 yX1_isLongWay yX1_isLongWay, Cond.code yX1_isLongWay cX1_isLongWay 2 (some .boolean), Cond.methodLink RL 27 yX3_address, Cond.instanceMethod yX3_address, Cond.selects RX3 yX3_address yX3_address, Cond.code yX3_address cX3_address 3 (some .int), Cond.methodLink RX3 67 yX1_isAddress, Cond.methodLink RX3 121 yX1_tellAddress, Cond.instanceMethod yX1_tellAddress, Cond.selects RX1 yX1_tellAddress yX1_tellAddress, Cond.code yX1_tellAddress cX1_tellAddress 3 (some .int), Cond.methodLink RL 48 yX3_worst, Cond.instanceMethod yX3_worst, Cond.selects RX3 yX3_worst yX3_worst, Cond.code yX3_worst cX3_worst 2 (some .int), Cond.methodLink RX3 136 yX1_addressOfRank, Cond.instanceMethod yX1_addressOfRank, Cond.selects RX1 yX1_addressOfRank yX1_addressOfRank, Cond.code yX1_addressOfRank cX1_addressOfRank 3 (some .int), Cond.methodLink RX1 171 yX1_hasRank, Cond.instanceMethod yX1_hasRank, Cond.selects RX1 yX1_hasRank yX1_hasRank, Cond.code yX1_hasRank cX1_hasRank 2 (some .boolean)]
def wsL_law_r14 : List Cond := [Cond.methodLink RX1 174 yX1_rankOf, Cond.instanceMethod yX1_rankOf, Cond.selects RX1 yX1_rankOf yX1_rankOf, Cond.code yX1_rankOf cX1_rankOf 6 (some .int), Cond.methodLink RL 30 yX3_head, Cond.instanceMethod yX3_head, Cond.selects RX3 yX3_head yX3_head, Cond.code yX3_head cX3_head 3 (some .int), Cond.methodLink RX3 50 yX3_isHead, Cond.static yX3_isHead, Cond.code yX3_isHead cX3_isHead 1 (some .boolean), Cond.methodLink RX3 130 yX1_tellHead, Cond.methodLink RL 106 yL_cell, Cond.static yL_cell, Cond.initialized RL, Cond.code yL_cell cL_cell 2 (some .int), Cond.constant RL 7 (2920009), Cond.methodLink RL 51 yL_low, Cond.static yL_low, Cond.code yL_low cL_low 2 (some .int), Cond.constant RL 8 (2147483647), Cond.methodLink RL 89 yX3_setLimit, Cond.instanceMethod yX3_setLimit, Cond.selects RX3 yX3_setLimit yX3_setLimit]
def wsL_law_r15 : List Cond := [Cond.code yX3_setLimit cX3_setLimit 2 (some .int), Cond.methodLink RX3 43 yX1_changeLimit, Cond.instanceMethod yX1_changeLimit, Cond.selects RX1 yX1_changeLimit yX1_changeLimit, Cond.code yX1_changeLimit cX1_changeLimit 3 (some .int), Cond.methodLink RL 111 yL_digest, Cond.static yL_digest, Cond.code yL_digest cL_digest 4 (some .long), Cond.constantLong RL 9 (89), Cond.constantLong RL 11 (31), Cond.constantLong RL 19 (7), Cond.constantLong RL 25 (49), Cond.methodLink RL 21 yX3_sector, Cond.instanceMethod yX3_sector, Cond.selects RX3 yX3_sector yX3_sector, Cond.code yX3_sector cX3_sector 3 (some .int), Cond.methodLink RX3 124 yX3_isSector, Cond.methodLink RX3 127 yX1_tellSector, Cond.instanceMethod yX1_tellSector, Cond.selects RX1 yX1_tellSector yX1_tellSector, Cond.code yX1_tellSector cX1_tellSector 3 (some .int), Cond.methodLink RL 115 yL_does, Cond.static yL_does, Cond.code yL_does cL_does 11 (some .boolean)]
def wsL_law_r16 : List Cond := [Cond.methodLink RL 72 yL_reads, Cond.static yL_reads, Cond.code yL_reads cL_reads 14 (some .boolean), Cond.methodLink RL 54 yX3_readsLeft, Cond.instanceMethod yX3_readsLeft, Cond.selects RX3 yX3_readsLeft yX3_readsLeft, Cond.code yX3_readsLeft cX3_readsLeft 2 (some .int), Cond.methodLink RX3 133 yX1_readsUntilChange, Cond.instanceMethod yX1_readsUntilChange, Cond.selects RX1 yX1_readsUntilChange yX1_readsUntilChange, Cond.code yX1_readsUntilChange cX1_readsUntilChange 6 (some .int), Cond.methodLink RL 57 yX3_read, Cond.instanceMethod yX3_read, Cond.selects RX3 yX3_read yX3_read, Cond.code yX3_read cX3_read 2 (some .int), Cond.methodLink RL 76 yL_writes, Cond.static yL_writes, Cond.code yL_writes cL_writes 8 (some .boolean), Cond.methodLink RL 60 yX3_write, Cond.instanceMethod yX3_write, Cond.selects RX3 yX3_write yX3_write, Cond.code yX3_write cX3_write 3 (some .int), Cond.methodLink RL 79 yX3_test, Cond.instanceMethod yX3_test]
def wsL_law_r17 : List Cond := [Cond.selects RX3 yX3_test yX3_test, Cond.code yX3_test cX3_test 2 (some .int), Cond.methodLink RX3 74 yX1_testHead, Cond.instanceMethod yX1_testHead, Cond.selects RX1 yX1_testHead yX1_testHead, Cond.code yX1_testHead cX1_testHead 4 (some .int), Cond.methodLink RX1 127 yX1_readAt, Cond.methodLink RL 82 yL_gives, Cond.static yL_gives, Cond.code yL_gives cL_gives 4 (some .boolean), Cond.methodLink RL 63 yX3_giveBack, Cond.instanceMethod yX3_giveBack, Cond.selects RX3 yX3_giveBack yX3_giveBack, Cond.code yX3_giveBack cX3_giveBack 2 (some .int), Cond.methodLink RX3 90 yX1_giveBackAt, Cond.instanceMethod yX1_giveBackAt, Cond.selects RX1 yX1_giveBackAt yX1_giveBackAt, Cond.code yX1_giveBackAt cX1_giveBackAt 3 (some .int), Cond.methodLink RL 86 yL_drops, Cond.static yL_drops, Cond.code yL_drops cL_drops 8 (some .boolean), Cond.methodLink RL 66 yX3_wouldLose, Cond.instanceMethod yX3_wouldLose, Cond.selects RX3 yX3_wouldLose yX3_wouldLose]
def wsL_law_r18 : List Cond := [Cond.code yX3_wouldLose cX3_wouldLose 2 (some .int), Cond.methodLink RX3 96 yX1_isGivenUp, Cond.instanceMethod yX1_isGivenUp, Cond.selects RX1 yX1_isGivenUp yX1_isGivenUp, Cond.code yX1_isGivenUp cX1_isGivenUp 2 (some .boolean), Cond.methodLink RX3 99 yX1_vacate, Cond.instanceMethod yX1_vacate, Cond.selects RX1 yX1_vacate yX1_vacate, Cond.code yX1_vacate cX1_vacate 4 (some .int), Cond.methodLink RX1 151 yX1_moveAway, Cond.instanceMethod yX1_moveAway, Cond.selects RX1 yX1_moveAway yX1_moveAway, Cond.code yX1_moveAway cX1_moveAway 3 none, Cond.methodLink RL 69 yX3_giveUp, Cond.instanceMethod yX3_giveUp, Cond.selects RX3 yX3_giveUp yX3_giveUp, Cond.code yX3_giveUp cX3_giveUp 2 (some .int), Cond.methodLink RX3 93 yX1_othersAreGivenUp, Cond.instanceMethod yX1_othersAreGivenUp, Cond.selects RX1 yX1_othersAreGivenUp yX1_othersAreGivenUp, Cond.code yX1_othersAreGivenUp cX1_othersAreGivenUp 3 (some .boolean), Cond.methodLink RL 92 yX3_copy, Cond.instanceMethod yX3_copy, Cond.selects RX3 yX3_copy yX3_copy]
def wsL_law_r19 : List Cond := [Cond.code yX3_copy cX3_copy 5 (some .int), Cond.methodLink RX3 70 yX1_copyRow, Cond.instanceMethod yX1_copyRow, Cond.selects RX1 yX1_copyRow yX1_copyRow, Cond.code yX1_copyRow cX1_copyRow 6 (some .int), Cond.methodLink RX1 130 yX1_writeAt, Cond.methodLink RL 119 yL_sectors, Cond.static yL_sectors, Cond.code yL_sectors cL_sectors 10 (some .boolean), Cond.methodLink RL 123 yL_addresses, Cond.static yL_addresses, Cond.code yL_addresses cL_addresses 14 (some .boolean), Cond.methodLink RL 33 yL_lends, Cond.static yL_lends, Cond.code yL_lends cL_lends 4 (some .int), Cond.methodLink RL 39 yL_steps, Cond.static yL_steps, Cond.code yL_steps cL_steps 5 (some .int), Cond.methodLink RL 43 yL_apart, Cond.static yL_apart, Cond.code yL_apart cL_apart 4 (some .int), Cond.methodLink RL 126 yL_worst, Cond.static yL_worst, Cond.code yL_worst cL_worst 7 (some .boolean)]
def wsL_law_r20 : List Cond := [Cond.constant RL 47 (1000000)]
def wsL_law : List Cond := (wsL_law_r1 ++ (wsL_law_r2 ++ (wsL_law_r3 ++ (wsL_law_r4 ++ (wsL_law_r5 ++ (wsL_law_r6 ++ (wsL_law_r7 ++ (wsL_law_r8 ++ (wsL_law_r9 ++ (wsL_law_r10 ++ (wsL_law_r11 ++ (wsL_law_r12 ++ (wsL_law_r13 ++ (wsL_law_r14 ++ (wsL_law_r15 ++ (wsL_law_r16 ++ (wsL_law_r17 ++ (wsL_law_r18 ++ (wsL_law_r19 ++ wsL_law_r20))))))))))))))))))) ++ wsX30 ++ wsX10 ++ wsX20 ++ wsX00 ++ ([] : List Cond)
set_option maxRecDepth 20000 in
theorem inlr_1 : ∀ w ∈ wsL_law_r1, w ∈ lw_tbl := fun w h => (goodIn_p wsL_law_r1 [47, 50] rfl (by decide +kernel) w h).1
set_option maxRecDepth 20000 in
theorem inlr_2 : ∀ w ∈ wsL_law_r2, w ∈ lw_tbl := fun w h => (goodIn_p wsL_law_r2 [55] rfl (by decide +kernel) w h).1
set_option maxRecDepth 20000 in
theorem inlr_3 : ∀ w ∈ wsL_law_r3, w ∈ lw_tbl := fun w h => (goodIn_p wsL_law_r3 [60, 64, 67, 70, 73, 126, 145] rfl (by decide +kernel) w h).1
set_option maxRecDepth 20000 in
theorem inlr_4 : ∀ w ∈ wsL_law_r4, w ∈ lw_tbl := fun w h => (goodIn_p wsL_law_r4 [340, 344, 348, 196] rfl (by decide +kernel) w h).1
set_option maxRecDepth 20000 in
theorem inlr_5 : ∀ w ∈ wsL_law_r5, w ∈ lw_tbl := fun w h => (goodIn_p wsL_law_r5 [352, 356, 207, 211, 216] rfl (by decide +kernel) w h).1
set_option maxRecDepth 20000 in
theorem inlr_6 : ∀ w ∈ wsL_law_r6, w ∈ lw_tbl := fun w h => (goodIn_p wsL_law_r6 [220, 224, 228, 232, 236, 240] rfl (by decide +kernel) w h).1
set_option maxRecDepth 20000 in
theorem inlr_7 : ∀ w ∈ wsL_law_r7, w ∈ lw_tbl := fun w h => (goodIn_p wsL_law_r7 [244, 192, 248, 252, 256, 260] rfl (by decide +kernel) w h).1
set_option maxRecDepth 20000 in
theorem inlr_8 : ∀ w ∈ wsL_law_r8, w ∈ lw_tbl := fun w h => (goodIn_p wsL_law_r8 [264, 268, 272, 275, 279, 284] rfl (by decide +kernel) w h).1
set_option maxRecDepth 20000 in
theorem inlr_9 : ∀ w ∈ wsL_law_r9, w ∈ lw_tbl := fun w h => (goodIn_p wsL_law_r9 [288, 292, 296, 300, 304, 308] rfl (by decide +kernel) w h).1
set_option maxRecDepth 20000 in
theorem inlr_10 : ∀ w ∈ wsL_law_r10, w ∈ lw_tbl := fun w h => (goodIn_p wsL_law_r10 [312, 316, 320, 324, 328, 332] rfl (by decide +kernel) w h).1
set_option maxRecDepth 20000 in
theorem inlr_11 : ∀ w ∈ wsL_law_r11, w ∈ lw_tbl := fun w h => (goodIn_p wsL_law_r11 [336, 420, 424, 428, 432, 380] rfl (by decide +kernel) w h).1
set_option maxRecDepth 20000 in
theorem inlr_12 : ∀ w ∈ wsL_law_r12, w ∈ lw_tbl := fun w h => (goodIn_p wsL_law_r12 [384, 388, 392, 396, 400, 437] rfl (by decide +kernel) w h).1
set_option maxRecDepth 20000 in
theorem inlr_13 : ∀ w ∈ wsL_law_r13, w ∈ lw_tbl := fun w h => (goodIn_p wsL_law_r13 [369, 360, 365, 404, 408, 412] rfl (by decide +kernel) w h).1
set_option maxRecDepth 20000 in
theorem inlr_14 : ∀ w ∈ wsL_law_r14, w ∈ lw_tbl := fun w h => (goodIn_p wsL_law_r14 [416, 373, 376, 440, 444] rfl (by decide +kernel) w h).1
set_option maxRecDepth 20000 in
theorem inlr_15 : ∀ w ∈ wsL_law_r15, w ∈ lw_tbl := fun w h => (goodIn_p wsL_law_r15 [188, 203, 448, 455, 460, 483] rfl (by decide +kernel) w h).1
set_option maxRecDepth 20000 in
theorem inlr_16 : ∀ w ∈ wsL_law_r16, w ∈ lw_tbl := fun w h => (goodIn_p wsL_law_r16 [486, 490, 494, 498, 501, 505] rfl (by decide +kernel) w h).1
set_option maxRecDepth 20000 in
theorem inlr_17 : ∀ w ∈ wsL_law_r17, w ∈ lw_tbl := fun w h => (goodIn_p wsL_law_r17 [509, 513, 517, 521, 525, 528] rfl (by decide +kernel) w h).1
set_option maxRecDepth 20000 in
theorem inlr_18 : ∀ w ∈ wsL_law_r18, w ∈ lw_tbl := fun w h => (goodIn_p wsL_law_r18 [532, 536, 540, 544, 548, 552] rfl (by decide +kernel) w h).1
set_option maxRecDepth 20000 in
theorem inlr_19 : ∀ w ∈ wsL_law_r19, w ∈ lw_tbl := fun w h => (goodIn_p wsL_law_r19 [556, 560, 464, 467, 470, 473, 476, 479] rfl (by decide +kernel) w h).1
set_option maxRecDepth 20000 in
theorem inlr_20 : ∀ w ∈ wsL_law_r20, w ∈ lw_tbl := fun w h => (goodIn_p wsL_law_r20 [] rfl (by decide +kernel) w h).1
set_option maxRecDepth 20000 in
theorem inlt_wsX30 : ∀ w ∈ wsX30, w ∈ lw_tbl := fun w h => (goodIn_p wsX30 [] rfl (by decide +kernel) w h).1
set_option maxRecDepth 20000 in
theorem inlt_wsX10 : ∀ w ∈ wsX10, w ∈ lw_tbl := fun w h => (goodIn_p wsX10 [] rfl (by decide +kernel) w h).1
set_option maxRecDepth 20000 in
theorem inlt_wsX20 : ∀ w ∈ wsX20, w ∈ lw_tbl := fun w h => (goodIn_p wsX20 [] rfl (by decide +kernel) w h).1
set_option maxRecDepth 20000 in
theorem inlt_wsX00 : ∀ w ∈ wsX00, w ∈ lw_tbl := fun w h => (goodIn_p wsX00 [] rfl (by decide +kernel) w h).1
theorem wsL_law_in : ∀ w ∈ wsL_law, w ∈ lw_tbl := List.forall_mem_append.mpr ⟨(List.forall_mem_append.mpr ⟨(List.forall_mem_append.mpr ⟨(List.forall_mem_append.mpr ⟨(List.forall_mem_append.mpr ⟨(List.forall_mem_append.mpr ⟨inlr_1, (List.forall_mem_append.mpr ⟨inlr_2, (List.forall_mem_append.mpr ⟨inlr_3, (List.forall_mem_append.mpr ⟨inlr_4, (List.forall_mem_append.mpr ⟨inlr_5, (List.forall_mem_append.mpr ⟨inlr_6, (List.forall_mem_append.mpr ⟨inlr_7, (List.forall_mem_append.mpr ⟨inlr_8, (List.forall_mem_append.mpr ⟨inlr_9, (List.forall_mem_append.mpr ⟨inlr_10, (List.forall_mem_append.mpr ⟨inlr_11, (List.forall_mem_append.mpr ⟨inlr_12, (List.forall_mem_append.mpr ⟨inlr_13, (List.forall_mem_append.mpr ⟨inlr_14, (List.forall_mem_append.mpr ⟨inlr_15, (List.forall_mem_append.mpr ⟨inlr_16, (List.forall_mem_append.mpr ⟨inlr_17, (List.forall_mem_append.mpr ⟨inlr_18, (List.forall_mem_append.mpr ⟨inlr_19, inlr_20⟩)⟩)⟩)⟩)⟩)⟩)⟩)⟩)⟩)⟩)⟩)⟩)⟩)⟩)⟩)⟩)⟩)⟩)⟩), inlt_wsX30⟩), inlt_wsX10⟩), inlt_wsX20⟩), inlt_wsX00⟩), fun _ h => absurd h List.not_mem_nil⟩
theorem inlX0 : ∀ w ∈ wsX00, w ∈ wsL_law := fun _ h => List.mem_append_left _ (List.mem_append_right _ h)
theorem inX0 : ∀ w ∈ wsX00, w ∈ lw_tbl := fun w h => wsL_law_in w (inlX0 w h)
theorem inlX1 : ∀ w ∈ wsX10, w ∈ wsL_law := fun _ h => List.mem_append_left _ (List.mem_append_left _ (List.mem_append_left _ (List.mem_append_right _ h)))
theorem inX1 : ∀ w ∈ wsX10, w ∈ lw_tbl := fun w h => wsL_law_in w (inlX1 w h)
theorem inlX2 : ∀ w ∈ wsX20, w ∈ wsL_law := fun _ h => List.mem_append_left _ (List.mem_append_left _ (List.mem_append_right _ h))
theorem inX2 : ∀ w ∈ wsX20, w ∈ lw_tbl := fun w h => wsL_law_in w (inlX2 w h)
theorem inlX3 : ∀ w ∈ wsX30, w ∈ wsL_law := fun _ h => List.mem_append_left _ (List.mem_append_left _ (List.mem_append_left _ (List.mem_append_left _ (List.mem_append_right _ h))))
theorem inX3 : ∀ w ∈ wsX30, w ∈ lw_tbl := fun w h => wsL_law_in w (inlX3 w h)
theorem inX4 : ∀ w ∈ wsX40, w ∈ lw_tbl := by decide +kernel
theorem inJ9 : ∀ w ∈ wsJ90, w ∈ lw_tbl := by decide +kernel
theorem inJ10 : ∀ w ∈ wsJ100, w ∈ lw_tbl := by decide +kernel
abbrev vwCl : List vw_C := [(RX0, TX0, 6), (RX1, TX1, 15), (RX2, TX2, 3), (RX3, TX3, 6)]
end
section
set_option maxRecDepth 20000 in
theorem ggX0_parse_X0_takeCommand : GoodIn wsX0_parse wsX0_takeCommand := goodIn_r _ [7, 8, 9, 10, 6, 11, 1, 12, 13, 14, 15, 16, 17, 18, 19, 20, 21, 22, 23, 24, 25, 26, 27, 28, 29, 2, 30, 31, 32, 33, 34, 35, 36, 37] (by decide +kernel) (by decide +kernel)
set_option maxRecDepth 20000 in
theorem gX0_parse_X0_takeCommand : GoodIn wsX0_parse (wsV RX0 31 RX0 yX0_takeCommand wsX0_takeCommand) := goodIn_app (goodIn_of _ (by decide +kernel)) ggX0_parse_X0_takeCommand
set_option maxRecDepth 20000 in
theorem ggX0_parse_X0_peek : GoodIn wsX0_parse wsX0_peek := goodIn_r _ [15, 1, 16, 17, 32, 33, 34, 35, 36, 37] (by decide +kernel) (by decide +kernel)
set_option maxRecDepth 20000 in
theorem gX0_parse_X0_peek : GoodIn wsX0_parse (wsV RX0 35 RX0 yX0_peek wsX0_peek) := goodIn_app (goodIn_of _ (by decide +kernel)) ggX0_parse_X0_peek
set_option maxRecDepth 20000 in
theorem ggX0_parse_X0_take : GoodIn wsX0_parse wsX0_take := goodIn_r _ [11, 1, 12, 13, 14, 6, 15, 16, 17, 32, 33, 34, 35, 36, 37] (by decide +kernel) (by decide +kernel)
set_option maxRecDepth 20000 in
theorem gX0_parse_X0_take : GoodIn wsX0_parse (wsV RX0 39 RX0 yX0_take wsX0_take) := goodIn_app (goodIn_of _ (by decide +kernel)) ggX0_parse_X0_take
set_option maxRecDepth 20000 in
theorem ggX0_takeCommand_X0_take : GoodIn wsX0_takeCommand wsX0_take := goodIn_r _ [5, 6, 7, 8, 9, 4, 10, 11, 12, 28, 29, 30, 31, 32, 33] (by decide +kernel) (by decide +kernel)
set_option maxRecDepth 20000 in
theorem gX0_takeCommand_X0_take : GoodIn wsX0_takeCommand (wsV RX0 39 RX0 yX0_take wsX0_take) := goodIn_app (goodIn_of _ (by decide +kernel)) ggX0_takeCommand_X0_take
set_option maxRecDepth 20000 in
theorem ggX0_takeCommand_X0_takeNumber : GoodIn wsX0_takeCommand wsX0_takeNumber := goodIn_r _ [16, 6, 11, 17, 18, 19, 4, 20, 12, 28, 29, 30, 31, 32, 33] (by decide +kernel) (by decide +kernel)
set_option maxRecDepth 20000 in
theorem gX0_takeCommand_X0_takeNumber : GoodIn wsX0_takeCommand (wsV RX0 43 RX0 yX0_takeNumber wsX0_takeNumber) := goodIn_app (goodIn_of _ (by decide +kernel)) ggX0_takeCommand_X0_takeNumber
set_option maxRecDepth 20000 in
theorem ggX0_takeCommand_X0_addCommand : GoodIn wsX0_takeCommand wsX0_addCommand := goodIn_r _ [24, 25, 26, 27, 28, 29, 30, 31, 32, 33] (by decide +kernel) (by decide +kernel)
set_option maxRecDepth 20000 in
theorem gX0_takeCommand_X0_addCommand : GoodIn wsX0_takeCommand (wsV RX0 47 RX0 yX0_addCommand wsX0_addCommand) := goodIn_app (goodIn_of _ (by decide +kernel)) ggX0_takeCommand_X0_addCommand
set_option maxRecDepth 20000 in
theorem ggX0_takeNumber_X0_digitAt : GoodIn wsX0_takeNumber wsX0_digitAt := goodIn_r _ [7, 2, 8, 9, 10, 11, 12, 13, 14] (by decide +kernel) (by decide +kernel)
set_option maxRecDepth 20000 in
theorem gX0_takeNumber_X0_digitAt : GoodIn wsX0_takeNumber (wsV RX0 51 RX0 yX0_digitAt wsX0_digitAt) := goodIn_app (goodIn_of _ (by decide +kernel)) ggX0_takeNumber_X0_digitAt
set_option maxRecDepth 20000 in
theorem ggX0_take_X0_peek : GoodIn wsX0_take wsX0_peek := goodIn_r _ [6, 1, 7, 8, 9, 10, 11, 12, 13, 14] (by decide +kernel) (by decide +kernel)
set_option maxRecDepth 20000 in
theorem gX0_take_X0_peek : GoodIn wsX0_take (wsV RX0 35 RX0 yX0_peek wsX0_peek) := goodIn_app (goodIn_of _ (by decide +kernel)) ggX0_take_X0_peek
set_option maxRecDepth 20000 in
theorem ggX1_init_X1_divide : GoodIn wsX1_init wsX1_divide := goodIn_r _ [25, 7, 13, 14, 26, 27, 28, 24, 29, 30, 31, 32, 33, 34, 35, 36, 37, 38, 39, 40, 41, 42, 43, 44, 45, 46, 47, 48, 49, 50, 51] (by decide +kernel) (by decide +kernel)
set_option maxRecDepth 20000 in
theorem gX1_init_X1_divide : GoodIn wsX1_init (wsV RX1 59 RX1 yX1_divide wsX1_divide) := goodIn_app (goodIn_of _ (by decide +kernel)) ggX1_init_X1_divide
set_option maxRecDepth 20000 in
theorem ggX1_divide_X1_isAddress : GoodIn wsX1_divide wsX1_isAddress := goodIn_r _ [8, 1, 9, 10, 11, 12, 13, 14, 15, 16, 17, 18, 19, 20, 21, 22, 23, 24, 25, 26, 27, 28, 29, 30] (by decide +kernel) (by decide +kernel)
set_option maxRecDepth 20000 in
theorem gX1_divide_X1_isAddress : GoodIn wsX1_divide (wsV RX1 69 RX1 yX1_isAddress wsX1_isAddress) := goodIn_app (goodIn_of _ (by decide +kernel)) ggX1_divide_X1_isAddress
set_option maxRecDepth 20000 in
theorem ggX1_isAddress_X3_isSector : GoodIn wsX1_isAddress wsX3_isSector := goodIn_r _ [4] (by decide +kernel) (by decide +kernel)
set_option maxRecDepth 20000 in
theorem gX1_isAddress_X3_isSector_n73 : GoodIn wsX1_isAddress (wsX3_isSector) := ggX1_isAddress_X3_isSector
set_option maxRecDepth 20000 in
theorem ggX1_isAddress_X3_placeOf : GoodIn wsX1_isAddress wsX3_placeOf := goodIn_r _ [6] (by decide +kernel) (by decide +kernel)
set_option maxRecDepth 20000 in
theorem gX1_isAddress_X3_placeOf_n76 : GoodIn wsX1_isAddress (wsX3_placeOf) := ggX1_isAddress_X3_placeOf
set_option maxRecDepth 20000 in
theorem ggX1_isAddress_X3_headOf : GoodIn wsX1_isAddress wsX3_headOf := goodIn_r _ [8] (by decide +kernel) (by decide +kernel)
set_option maxRecDepth 20000 in
theorem gX1_isAddress_X3_headOf_n80 : GoodIn wsX1_isAddress (wsX3_headOf) := ggX1_isAddress_X3_headOf
set_option maxRecDepth 20000 in
theorem ggX1_isLongWay_X1_isLost : GoodIn wsX1_isLongWay wsX1_isLost := goodIn_r _ [6, 1, 7, 8, 9, 10, 11, 12, 13, 14, 15, 16, 17, 18, 19, 20, 21] (by decide +kernel) (by decide +kernel)
set_option maxRecDepth 20000 in
theorem gX1_isLongWay_X1_isLost : GoodIn wsX1_isLongWay (wsV RX1 83 RX1 yX1_isLost wsX1_isLost) := goodIn_app (goodIn_of _ (by decide +kernel)) ggX1_isLongWay_X1_isLost
set_option maxRecDepth 20000 in
theorem ggX1_gradeOf_X1_isGood : GoodIn wsX1_gradeOf wsX1_isGood := goodIn_r _ [5, 6, 7, 12, 13, 14, 15, 16, 17, 18, 19, 20, 21, 22, 23, 24, 25, 26] (by decide +kernel) (by decide +kernel)
set_option maxRecDepth 20000 in
theorem gX1_gradeOf_X1_isGood : GoodIn wsX1_gradeOf (wsV RX1 86 RX1 yX1_isGood wsX1_isGood) := goodIn_app (goodIn_of _ (by decide +kernel)) ggX1_gradeOf_X1_isGood
set_option maxRecDepth 20000 in
theorem ggX1_gradeOf_X1_isBad : GoodIn wsX1_gradeOf wsX1_isBad := goodIn_r _ [11, 6, 7, 12, 13, 14, 15, 16, 17, 18, 19, 20, 21, 22, 23, 24, 25, 26] (by decide +kernel) (by decide +kernel)
set_option maxRecDepth 20000 in
theorem gX1_gradeOf_X1_isBad : GoodIn wsX1_gradeOf (wsV RX1 89 RX1 yX1_isBad wsX1_isBad) := goodIn_app (goodIn_of _ (by decide +kernel)) ggX1_gradeOf_X1_isBad
set_option maxRecDepth 20000 in
theorem ggX1_isFree_X3_headOf : GoodIn wsX1_isFree wsX3_headOf := goodIn_r _ [6] (by decide +kernel) (by decide +kernel)
set_option maxRecDepth 20000 in
theorem gX1_isFree_X3_headOf_n80 : GoodIn wsX1_isFree (wsX3_headOf) := ggX1_isFree_X3_headOf
set_option maxRecDepth 20000 in
theorem ggX1_isFree_X3_placeOf : GoodIn wsX1_isFree wsX3_placeOf := goodIn_r _ [8] (by decide +kernel) (by decide +kernel)
set_option maxRecDepth 20000 in
theorem gX1_isFree_X3_placeOf_n76 : GoodIn wsX1_isFree (wsX3_placeOf) := ggX1_isFree_X3_placeOf
set_option maxRecDepth 20000 in
theorem ggX1_isFree_X1_isGood : GoodIn wsX1_isFree wsX1_isGood := goodIn_r _ [13, 14, 15, 16, 17, 18, 19, 20, 21, 22, 23, 24, 25, 26, 27, 28, 29, 30] (by decide +kernel) (by decide +kernel)
set_option maxRecDepth 20000 in
theorem gX1_isFree_X1_isGood : GoodIn wsX1_isFree (wsV RX1 86 RX1 yX1_isGood wsX1_isGood) := goodIn_app (goodIn_of _ (by decide +kernel)) ggX1_isFree_X1_isGood
set_option maxRecDepth 20000 in
theorem ggX1_freeOf_X1_isFree : GoodIn wsX1_freeOf wsX1_isFree := goodIn_r _ [5, 6, 7, 8, 9, 10, 11, 12, 13, 14, 15, 16, 4, 17, 18, 19, 20, 21, 22, 23, 24, 25, 26, 27, 28, 29, 30, 31, 32, 33, 34] (by decide +kernel) (by decide +kernel)
set_option maxRecDepth 20000 in
theorem gX1_freeOf_X1_isFree : GoodIn wsX1_freeOf (wsV RX1 92 RX1 yX1_isFree wsX1_isFree) := goodIn_app (goodIn_of _ (by decide +kernel)) ggX1_freeOf_X1_isFree
set_option maxRecDepth 20000 in
theorem ggX1_firstFreeOf_X1_isFree : GoodIn wsX1_firstFreeOf wsX1_isFree := goodIn_r _ [5, 6, 7, 8, 9, 10, 11, 12, 13, 14, 15, 16, 4, 17, 18, 19, 20, 21, 22, 23, 24, 25, 26, 27, 28, 29, 30, 31, 32, 33, 34] (by decide +kernel) (by decide +kernel)
set_option maxRecDepth 20000 in
theorem gX1_firstFreeOf_X1_isFree : GoodIn wsX1_firstFreeOf (wsV RX1 92 RX1 yX1_isFree wsX1_isFree) := goodIn_app (goodIn_of _ (by decide +kernel)) ggX1_firstFreeOf_X1_isFree
set_option maxRecDepth 20000 in
theorem ggX1_lendableTo_X3_headOf : GoodIn wsX1_lendableTo wsX3_headOf := goodIn_r _ [3] (by decide +kernel) (by decide +kernel)
set_option maxRecDepth 20000 in
theorem gX1_lendableTo_X3_headOf_n80 : GoodIn wsX1_lendableTo (wsX3_headOf) := ggX1_lendableTo_X3_headOf
set_option maxRecDepth 20000 in
theorem ggX1_lendableTo_X1_firstFreeOf : GoodIn wsX1_lendableTo wsX1_firstFreeOf := goodIn_r _ [8, 9, 10, 11, 7, 12, 13, 14, 15, 1, 2, 3, 16, 17, 18, 19, 20, 21, 22, 23, 28, 29, 30, 31, 32, 33, 34, 35, 36, 37, 38, 39, 40, 41, 42] (by decide +kernel) (by decide +kernel)
set_option maxRecDepth 20000 in
theorem gX1_lendableTo_X1_firstFreeOf : GoodIn wsX1_lendableTo (wsV RX1 95 RX1 yX1_firstFreeOf wsX1_firstFreeOf) := goodIn_app (goodIn_of _ (by decide +kernel)) ggX1_lendableTo_X1_firstFreeOf
set_option maxRecDepth 20000 in
theorem ggX1_lendableTo_X1_freeOf : GoodIn wsX1_lendableTo wsX1_freeOf := goodIn_r _ [27, 9, 10, 11, 7, 12, 13, 14, 15, 1, 2, 3, 16, 17, 18, 19, 20, 21, 22, 23, 28, 29, 30, 31, 32, 33, 34, 35, 36, 37, 38, 39, 40, 41, 42] (by decide +kernel) (by decide +kernel)
set_option maxRecDepth 20000 in
theorem gX1_lendableTo_X1_freeOf : GoodIn wsX1_lendableTo (wsV RX1 98 RX1 yX1_freeOf wsX1_freeOf) := goodIn_app (goodIn_of _ (by decide +kernel)) ggX1_lendableTo_X1_freeOf
set_option maxRecDepth 20000 in
theorem ggX1_stepsTo_X3_headOf : GoodIn wsX1_stepsTo wsX3_headOf := goodIn_r _ [6] (by decide +kernel) (by decide +kernel)
set_option maxRecDepth 20000 in
theorem gX1_stepsTo_X3_headOf_n80 : GoodIn wsX1_stepsTo (wsX3_headOf) := ggX1_stepsTo_X3_headOf
set_option maxRecDepth 20000 in
theorem ggX1_stepsTo_X3_stepsBetween : GoodIn wsX1_stepsTo wsX3_stepsBetween := goodIn_r _ [8, 9, 10, 11, 12, 13, 14, 5, 15, 16, 4, 6] (by decide +kernel) (by decide +kernel)
set_option maxRecDepth 20000 in
theorem gX1_stepsTo_X3_stepsBetween_n101 : GoodIn wsX1_stepsTo (wsX3_stepsBetween) := ggX1_stepsTo_X3_stepsBetween
set_option maxRecDepth 20000 in
theorem ggX1_readAt_X1_isAddress : GoodIn wsX1_readAt wsX1_isAddress := goodIn_r _ [8, 9, 10, 11, 12, 13, 14, 15, 16, 99, 100, 101, 102, 103, 104, 105, 106, 107, 108, 109, 110, 111, 112, 113] (by decide +kernel) (by decide +kernel)
set_option maxRecDepth 20000 in
theorem gX1_readAt_X1_isAddress : GoodIn wsX1_readAt (wsV RX1 69 RX1 yX1_isAddress wsX1_isAddress) := goodIn_app (goodIn_of _ (by decide +kernel)) ggX1_readAt_X1_isAddress
set_option maxRecDepth 20000 in
theorem ggX1_readAt_X1_isLost : GoodIn wsX1_readAt wsX1_isLost := goodIn_r _ [20, 1, 99, 100, 101, 102, 103, 104, 105, 106, 107, 108, 109, 110, 111, 112, 113] (by decide +kernel) (by decide +kernel)
set_option maxRecDepth 20000 in
theorem gX1_readAt_X1_isLost : GoodIn wsX1_readAt (wsV RX1 83 RX1 yX1_isLost wsX1_isLost) := goodIn_app (goodIn_of _ (by decide +kernel)) ggX1_readAt_X1_isLost
set_option maxRecDepth 20000 in
theorem ggX1_readAt_X1_goTo : GoodIn wsX1_readAt wsX1_goTo := goodIn_r _ [24, 25, 1, 26, 27, 28, 29, 7, 30, 31, 15, 11, 16, 32, 33, 34, 35, 36, 37, 38, 13, 14, 39, 99, 100, 101, 102, 103, 104, 105, 106, 107, 108, 109, 110, 111, 112, 113] (by decide +kernel) (by decide +kernel)
set_option maxRecDepth 20000 in
theorem gX1_readAt_X1_goTo : GoodIn wsX1_readAt (wsV RX1 108 RX1 yX1_goTo wsX1_goTo) := goodIn_app (goodIn_of _ (by decide +kernel)) ggX1_readAt_X1_goTo
set_option maxRecDepth 20000 in
theorem ggX1_readAt_X1_wearByReading : GoodIn wsX1_readAt wsX1_wearByReading := goodIn_r _ [43, 44, 45, 15, 11, 16, 99, 100, 101, 102, 103, 104, 105, 106, 107, 108, 109, 110, 111, 112, 113] (by decide +kernel) (by decide +kernel)
set_option maxRecDepth 20000 in
theorem gX1_readAt_X1_wearByReading : GoodIn wsX1_readAt (wsV RX1 112 RX1 yX1_wearByReading wsX1_wearByReading) := goodIn_app (goodIn_of _ (by decide +kernel)) ggX1_readAt_X1_wearByReading
set_option maxRecDepth 20000 in
theorem ggX1_readAt_X1_lookAt : GoodIn wsX1_readAt wsX1_lookAt := goodIn_r _ [49, 1, 50, 51, 52, 53, 54, 7, 55, 44, 56, 57, 58, 59, 60, 15, 11, 16, 61, 62, 63, 64, 65, 66, 67, 68, 9, 69, 31, 13, 14, 70, 71, 72, 73, 74, 75, 76, 77, 78, 79, 80, 81, 17, 18, 19, 20, 82, 83, 84, 85, 25, 26, 32, 33, 34, 35, 36, 37, 38, 39, 86, 87, 88, 89, 45, 90, 91, 92, 93, 94, 95, 96, 97, 98, 99, 100, 101, 102, 103, 104, 105, 106, 107, 108, 109, 110, 111, 112, 113] (by decide +kernel) (by decide +kernel)
set_option maxRecDepth 20000 in
theorem gX1_readAt_X1_lookAt : GoodIn wsX1_readAt (wsV RX1 115 RX1 yX1_lookAt wsX1_lookAt) := goodIn_app (goodIn_of _ (by decide +kernel)) ggX1_readAt_X1_lookAt
set_option maxRecDepth 20000 in
theorem ggX1_writeAt_X1_isAddress : GoodIn wsX1_writeAt wsX1_isAddress := goodIn_r _ [8, 9, 10, 11, 12, 13, 14, 15, 16, 95, 96, 97, 98, 99, 100, 101, 102, 103, 104, 105, 106, 107, 108, 109] (by decide +kernel) (by decide +kernel)
set_option maxRecDepth 20000 in
theorem gX1_writeAt_X1_isAddress : GoodIn wsX1_writeAt (wsV RX1 69 RX1 yX1_isAddress wsX1_isAddress) := goodIn_app (goodIn_of _ (by decide +kernel)) ggX1_writeAt_X1_isAddress
set_option maxRecDepth 20000 in
theorem ggX1_writeAt_X1_isLost : GoodIn wsX1_writeAt wsX1_isLost := goodIn_r _ [20, 1, 95, 96, 97, 98, 99, 100, 101, 102, 103, 104, 105, 106, 107, 108, 109] (by decide +kernel) (by decide +kernel)
set_option maxRecDepth 20000 in
theorem gX1_writeAt_X1_isLost : GoodIn wsX1_writeAt (wsV RX1 83 RX1 yX1_isLost wsX1_isLost) := goodIn_app (goodIn_of _ (by decide +kernel)) ggX1_writeAt_X1_isLost
set_option maxRecDepth 20000 in
theorem ggX1_writeAt_X1_lendableTo : GoodIn wsX1_writeAt wsX1_lendableTo := goodIn_r _ [24, 15, 11, 16, 25, 26, 27, 7, 28, 29, 30, 31, 32, 9, 33, 34, 13, 14, 35, 36, 37, 38, 39, 40, 41, 42, 43, 44, 95, 96, 97, 98, 99, 100, 101, 102, 103, 104, 105, 106, 107, 108, 109] (by decide +kernel) (by decide +kernel)
set_option maxRecDepth 20000 in
theorem gX1_writeAt_X1_lendableTo : GoodIn wsX1_writeAt (wsV RX1 118 RX1 yX1_lendableTo wsX1_lendableTo) := goodIn_app (goodIn_of _ (by decide +kernel)) ggX1_writeAt_X1_lendableTo
set_option maxRecDepth 20000 in
theorem ggX1_writeAt_X1_lend : GoodIn wsX1_writeAt wsX1_lend := goodIn_r _ [48, 1, 33, 49, 50, 51, 7, 52, 17, 18, 19, 20, 95, 96, 97, 98, 99, 100, 101, 102, 103, 104, 105, 106, 107, 108, 109] (by decide +kernel) (by decide +kernel)
set_option maxRecDepth 20000 in
theorem gX1_writeAt_X1_lend : GoodIn wsX1_writeAt (wsV RX1 121 RX1 yX1_lend wsX1_lend) := goodIn_app (goodIn_of _ (by decide +kernel)) ggX1_writeAt_X1_lend
set_option maxRecDepth 20000 in
theorem ggX1_writeAt_X1_goTo : GoodIn wsX1_writeAt wsX1_goTo := goodIn_r _ [56, 57, 1, 58, 59, 60, 61, 7, 62, 34, 15, 11, 16, 63, 64, 65, 66, 67, 68, 69, 13, 14, 70, 95, 96, 97, 98, 99, 100, 101, 102, 103, 104, 105, 106, 107, 108, 109] (by decide +kernel) (by decide +kernel)
set_option maxRecDepth 20000 in
theorem gX1_writeAt_X1_goTo : GoodIn wsX1_writeAt (wsV RX1 108 RX1 yX1_goTo wsX1_goTo) := goodIn_app (goodIn_of _ (by decide +kernel)) ggX1_writeAt_X1_goTo
set_option maxRecDepth 20000 in
theorem ggX1_writeAt_X1_wearByWriting : GoodIn wsX1_writeAt wsX1_wearByWriting := goodIn_r _ [74, 39, 75, 15, 11, 16, 95, 96, 97, 98, 99, 100, 101, 102, 103, 104, 105, 106, 107, 108, 109] (by decide +kernel) (by decide +kernel)
set_option maxRecDepth 20000 in
theorem gX1_writeAt_X1_wearByWriting : GoodIn wsX1_writeAt (wsV RX1 124 RX1 yX1_wearByWriting wsX1_wearByWriting) := goodIn_app (goodIn_of _ (by decide +kernel)) ggX1_writeAt_X1_wearByWriting
set_option maxRecDepth 20000 in
theorem ggX1_writeAt_X1_lookAt : GoodIn wsX1_writeAt wsX1_lookAt := goodIn_r _ [79, 1, 80, 81, 35, 36, 37, 7, 38, 39, 40, 21, 22, 23, 24, 15, 11, 16, 25, 26, 27, 28, 29, 30, 31, 32, 9, 33, 34, 13, 14, 41, 42, 43, 44, 45, 46, 47, 48, 49, 50, 51, 52, 17, 18, 19, 20, 82, 83, 84, 85, 57, 58, 63, 64, 65, 66, 67, 68, 69, 70, 71, 72, 73, 74, 75, 86, 87, 88, 89, 90, 91, 92, 93, 94, 95, 96, 97, 98, 99, 100, 101, 102, 103, 104, 105, 106, 107, 108, 109] (by decide +kernel) (by decide +kernel)
set_option maxRecDepth 20000 in
theorem gX1_writeAt_X1_lookAt : GoodIn wsX1_writeAt (wsV RX1 115 RX1 yX1_lookAt wsX1_lookAt) := goodIn_app (goodIn_of _ (by decide +kernel)) ggX1_writeAt_X1_lookAt
set_option maxRecDepth 20000 in
theorem ggX1_copyRow_X1_readAt : GoodIn wsX1_copyRow wsX1_readAt := goodIn_r _ [5, 6, 7, 8, 9, 10, 11, 4, 12, 13, 14, 15, 16, 17, 18, 19, 20, 21, 22, 23, 24, 25, 26, 27, 28, 29, 30, 31, 32, 33, 34, 35, 36, 37, 38, 39, 40, 41, 42, 43, 44, 45, 46, 47, 48, 49, 50, 51, 52, 53, 54, 55, 56, 57, 58, 59, 60, 61, 62, 63, 64, 65, 66, 67, 68, 69, 70, 71, 72, 73, 74, 75, 76, 77, 78, 79, 80, 81, 82, 83, 84, 85, 86, 87, 88, 89, 90, 91, 92, 93, 94, 95, 96, 97, 98, 99, 100, 101, 102, 108, 109, 110, 111, 112, 113, 114, 115, 116, 117, 118, 119, 120, 121, 122] (by decide +kernel) (by decide +kernel)
set_option maxRecDepth 20000 in
theorem gX1_copyRow_X1_readAt : GoodIn wsX1_copyRow (wsV RX1 127 RX1 yX1_readAt wsX1_readAt) := goodIn_app (goodIn_of _ (by decide +kernel)) ggX1_copyRow_X1_readAt
set_option maxRecDepth 20000 in
theorem ggX1_copyRow_X1_writeAt : GoodIn wsX1_copyRow wsX1_writeAt := goodIn_r _ [106, 6, 8, 107, 9, 10, 11, 4, 12, 13, 14, 15, 16, 17, 18, 19, 20, 21, 22, 23, 24, 61, 62, 63, 64, 65, 66, 67, 68, 69, 70, 71, 72, 73, 35, 56, 57, 58, 59, 48, 60, 74, 75, 76, 77, 78, 79, 80, 81, 82, 83, 84, 85, 25, 26, 27, 28, 29, 30, 31, 32, 33, 34, 36, 37, 38, 39, 40, 41, 42, 43, 90, 91, 92, 93, 49, 50, 51, 52, 53, 54, 55, 86, 87, 88, 89, 94, 95, 96, 97, 98, 99, 100, 101, 102, 108, 109, 110, 111, 112, 113, 114, 115, 116, 117, 118, 119, 120, 121, 122] (by decide +kernel) (by decide +kernel)
set_option maxRecDepth 20000 in
theorem gX1_copyRow_X1_writeAt : GoodIn wsX1_copyRow (wsV RX1 130 RX1 yX1_writeAt wsX1_writeAt) := goodIn_app (goodIn_of _ (by decide +kernel)) ggX1_copyRow_X1_writeAt
set_option maxRecDepth 20000 in
theorem ggX1_testHead_X1_lostOf : GoodIn wsX1_testHead wsX1_lostOf := goodIn_r _ [7, 1, 8, 9, 10, 6, 11, 12, 107, 108, 109, 110, 111, 112, 113, 114, 115, 116, 117, 118, 119, 120, 121] (by decide +kernel) (by decide +kernel)
set_option maxRecDepth 20000 in
theorem gX1_testHead_X1_lostOf : GoodIn wsX1_testHead (wsV RX1 133 RX1 yX1_lostOf wsX1_lostOf) := goodIn_app (goodIn_of _ (by decide +kernel)) ggX1_testHead_X1_lostOf
set_option maxRecDepth 20000 in
theorem ggX1_testHead_X1_readAt : GoodIn wsX1_testHead wsX1_readAt := goodIn_r _ [16, 12, 17, 18, 19, 20, 21, 6, 22, 1, 23, 24, 25, 26, 27, 28, 29, 8, 9, 10, 11, 30, 31, 32, 33, 34, 35, 36, 37, 38, 39, 40, 41, 42, 43, 44, 45, 46, 47, 48, 49, 50, 51, 52, 53, 54, 55, 56, 57, 58, 2, 59, 60, 61, 62, 63, 64, 65, 66, 67, 68, 69, 70, 71, 72, 73, 74, 75, 76, 77, 78, 79, 80, 81, 82, 83, 84, 85, 86, 87, 88, 89, 90, 91, 92, 93, 94, 95, 96, 97, 98, 99, 100, 101, 102, 103, 104, 105, 106, 107, 108, 109, 110, 111, 112, 113, 114, 115, 116, 117, 118, 119, 120, 121] (by decide +kernel) (by decide +kernel)
set_option maxRecDepth 20000 in
theorem gX1_testHead_X1_readAt : GoodIn wsX1_testHead (wsV RX1 127 RX1 yX1_readAt wsX1_readAt) := goodIn_app (goodIn_of _ (by decide +kernel)) ggX1_testHead_X1_readAt
set_option maxRecDepth 20000 in
theorem ggX1_lookAt_X1_isGood : GoodIn wsX1_lookAt wsX1_isGood := goodIn_r _ [8, 9, 10, 75, 76, 77, 78, 79, 80, 81, 82, 83, 84, 85, 86, 87, 88, 89] (by decide +kernel) (by decide +kernel)
set_option maxRecDepth 20000 in
theorem gX1_lookAt_X1_isGood : GoodIn wsX1_lookAt (wsV RX1 86 RX1 yX1_isGood wsX1_isGood) := goodIn_app (goodIn_of _ (by decide +kernel)) ggX1_lookAt_X1_isGood
set_option maxRecDepth 20000 in
theorem ggX1_lookAt_X1_lendableTo : GoodIn wsX1_lookAt wsX1_lendableTo := goodIn_r _ [14, 15, 16, 17, 18, 19, 20, 7, 21, 22, 23, 24, 25, 26, 27, 28, 29, 30, 4, 5, 6, 8, 9, 10, 31, 32, 33, 34, 75, 76, 77, 78, 79, 80, 81, 82, 83, 84, 85, 86, 87, 88, 89] (by decide +kernel) (by decide +kernel)
set_option maxRecDepth 20000 in
theorem gX1_lookAt_X1_lendableTo : GoodIn wsX1_lookAt (wsV RX1 118 RX1 yX1_lendableTo wsX1_lendableTo) := goodIn_app (goodIn_of _ (by decide +kernel)) ggX1_lookAt_X1_lendableTo
set_option maxRecDepth 20000 in
theorem ggX1_lookAt_X1_lend : GoodIn wsX1_lookAt wsX1_lend := goodIn_r _ [38, 1, 27, 39, 40, 41, 7, 42, 43, 44, 45, 46, 75, 76, 77, 78, 79, 80, 81, 82, 83, 84, 85, 86, 87, 88, 89] (by decide +kernel) (by decide +kernel)
set_option maxRecDepth 20000 in
theorem gX1_lookAt_X1_lend : GoodIn wsX1_lookAt (wsV RX1 121 RX1 yX1_lend wsX1_lend) := goodIn_app (goodIn_of _ (by decide +kernel)) ggX1_lookAt_X1_lend
set_option maxRecDepth 20000 in
theorem ggX1_lookAt_X1_moveTo : GoodIn wsX1_lookAt wsX1_moveTo := goodIn_r _ [50, 51, 52, 53, 16, 54, 55, 56, 57, 58, 59, 29, 30, 60, 15, 17, 75, 76, 77, 78, 79, 80, 81, 82, 83, 84, 85, 86, 87, 88, 89] (by decide +kernel) (by decide +kernel)
set_option maxRecDepth 20000 in
theorem gX1_lookAt_X1_moveTo : GoodIn wsX1_lookAt (wsV RX1 136 RX1 yX1_moveTo wsX1_moveTo) := goodIn_app (goodIn_of _ (by decide +kernel)) ggX1_lookAt_X1_moveTo
set_option maxRecDepth 20000 in
theorem ggX1_lookAt_X1_wearByWriting : GoodIn wsX1_lookAt wsX1_wearByWriting := goodIn_r _ [64, 9, 65, 15, 16, 17, 75, 76, 77, 78, 79, 80, 81, 82, 83, 84, 85, 86, 87, 88, 89] (by decide +kernel) (by decide +kernel)
set_option maxRecDepth 20000 in
theorem gX1_lookAt_X1_wearByWriting : GoodIn wsX1_lookAt (wsV RX1 124 RX1 yX1_wearByWriting wsX1_wearByWriting) := goodIn_app (goodIn_of _ (by decide +kernel)) ggX1_lookAt_X1_wearByWriting
set_option maxRecDepth 20000 in
theorem ggX1_lookAt_X1_isBad : GoodIn wsX1_lookAt wsX1_isBad := goodIn_r _ [69, 9, 10, 75, 76, 77, 78, 79, 80, 81, 82, 83, 84, 85, 86, 87, 88, 89] (by decide +kernel) (by decide +kernel)
set_option maxRecDepth 20000 in
theorem gX1_lookAt_X1_isBad : GoodIn wsX1_lookAt (wsV RX1 89 RX1 yX1_isBad wsX1_isBad) := goodIn_app (goodIn_of _ (by decide +kernel)) ggX1_lookAt_X1_isBad
set_option maxRecDepth 20000 in
theorem ggX1_lookAt_X1_lose : GoodIn wsX1_lookAt wsX1_lose := goodIn_r _ [73, 74, 39, 40, 41, 7, 42, 27, 1, 43, 44, 45, 46, 75, 76, 77, 78, 79, 80, 81, 82, 83, 84, 85, 86, 87, 88, 89] (by decide +kernel) (by decide +kernel)
set_option maxRecDepth 20000 in
theorem gX1_lookAt_X1_lose : GoodIn wsX1_lookAt (wsV RX1 139 RX1 yX1_lose wsX1_lose) := goodIn_app (goodIn_of _ (by decide +kernel)) ggX1_lookAt_X1_lose
set_option maxRecDepth 20000 in
theorem ggX1_lend_X1_release : GoodIn wsX1_lend wsX1_release := goodIn_r _ [7, 2, 1, 8, 9, 10, 6, 11, 12, 13, 14, 15, 16, 17, 18, 19, 20, 21, 22, 23, 24, 25, 26] (by decide +kernel) (by decide +kernel)
set_option maxRecDepth 20000 in
theorem gX1_lend_X1_release : GoodIn wsX1_lend (wsV RX1 142 RX1 yX1_release wsX1_release) := goodIn_app (goodIn_of _ (by decide +kernel)) ggX1_lend_X1_release
set_option maxRecDepth 20000 in
theorem ggX1_lose_X1_release : GoodIn wsX1_lose wsX1_release := goodIn_r _ [6, 7, 8, 9, 10, 11, 5, 12, 13, 14, 15, 16, 17, 18, 19, 20, 21, 22, 23, 24, 25, 26, 27] (by decide +kernel) (by decide +kernel)
set_option maxRecDepth 20000 in
theorem gX1_lose_X1_release : GoodIn wsX1_lose (wsV RX1 142 RX1 yX1_release wsX1_release) := goodIn_app (goodIn_of _ (by decide +kernel)) ggX1_lose_X1_release
set_option maxRecDepth 20000 in
theorem ggX1_release_X1_isLost : GoodIn wsX1_release wsX1_isLost := goodIn_r _ [7, 2, 8, 9, 10, 11, 12, 13, 14, 15, 16, 17, 18, 19, 20, 21, 22] (by decide +kernel) (by decide +kernel)
set_option maxRecDepth 20000 in
theorem gX1_release_X1_isLost : GoodIn wsX1_release (wsV RX1 83 RX1 yX1_isLost wsX1_isLost) := goodIn_app (goodIn_of _ (by decide +kernel)) ggX1_release_X1_isLost
set_option maxRecDepth 20000 in
theorem ggX1_wearByReading_X3_headOf : GoodIn wsX1_wearByReading wsX3_headOf := goodIn_r _ [5] (by decide +kernel) (by decide +kernel)
set_option maxRecDepth 20000 in
theorem gX1_wearByReading_X3_headOf_n80 : GoodIn wsX1_wearByReading (wsX3_headOf) := ggX1_wearByReading_X3_headOf
set_option maxRecDepth 20000 in
theorem ggX1_wearByWriting_X3_headOf : GoodIn wsX1_wearByWriting wsX3_headOf := goodIn_r _ [5] (by decide +kernel) (by decide +kernel)
set_option maxRecDepth 20000 in
theorem gX1_wearByWriting_X3_headOf_n80 : GoodIn wsX1_wearByWriting (wsX3_headOf) := ggX1_wearByWriting_X3_headOf
set_option maxRecDepth 20000 in
theorem ggX1_goTo_X1_stepsTo : GoodIn wsX1_goTo wsX1_stepsTo := goodIn_r _ [8, 2, 9, 3, 10, 11, 12, 13, 14, 15, 16, 17, 18, 19, 20, 21, 22, 23, 24, 25, 26, 27, 28, 29, 30, 31, 32, 33, 34, 35, 36, 37] (by decide +kernel) (by decide +kernel)
set_option maxRecDepth 20000 in
theorem gX1_goTo_X1_stepsTo : GoodIn wsX1_goTo (wsV RX1 145 RX1 yX1_stepsTo wsX1_stepsTo) := goodIn_app (goodIn_of _ (by decide +kernel)) ggX1_goTo_X1_stepsTo
set_option maxRecDepth 20000 in
theorem ggX1_moveTo_X3_stepsBetween : GoodIn wsX1_moveTo wsX3_stepsBetween := goodIn_r _ [5, 6, 7, 8, 9, 10, 11, 4, 12, 13, 14, 15] (by decide +kernel) (by decide +kernel)
set_option maxRecDepth 20000 in
theorem gX1_moveTo_X3_stepsBetween_n101 : GoodIn wsX1_moveTo (wsX3_stepsBetween) := ggX1_moveTo_X3_stepsBetween
set_option maxRecDepth 20000 in
theorem ggX1_giveBackAt_X1_isAddress : GoodIn wsX1_giveBackAt wsX1_isAddress := goodIn_r _ [7, 8, 9, 10, 11, 12, 13, 14, 15, 66, 67, 68, 69, 70, 71, 72, 73, 74, 75, 76, 77, 78, 79, 80] (by decide +kernel) (by decide +kernel)
set_option maxRecDepth 20000 in
theorem gX1_giveBackAt_X1_isAddress : GoodIn wsX1_giveBackAt (wsV RX1 69 RX1 yX1_isAddress wsX1_isAddress) := goodIn_app (goodIn_of _ (by decide +kernel)) ggX1_giveBackAt_X1_isAddress
set_option maxRecDepth 20000 in
theorem ggX1_giveBackAt_X1_isLongWay : GoodIn wsX1_giveBackAt wsX1_isLongWay := goodIn_r _ [19, 2, 20, 21, 22, 6, 23, 66, 67, 68, 69, 70, 71, 72, 73, 74, 75, 76, 77, 78, 79, 80] (by decide +kernel) (by decide +kernel)
set_option maxRecDepth 20000 in
theorem gX1_giveBackAt_X1_isLongWay : GoodIn wsX1_giveBackAt (wsV RX1 148 RX1 yX1_isLongWay wsX1_isLongWay) := goodIn_app (goodIn_of _ (by decide +kernel)) ggX1_giveBackAt_X1_isLongWay
set_option maxRecDepth 20000 in
theorem ggX1_giveBackAt_X1_isGood : GoodIn wsX1_giveBackAt wsX1_isGood := goodIn_r _ [27, 28, 29, 66, 67, 68, 69, 70, 71, 72, 73, 74, 75, 76, 77, 78, 79, 80] (by decide +kernel) (by decide +kernel)
set_option maxRecDepth 20000 in
theorem gX1_giveBackAt_X1_isGood : GoodIn wsX1_giveBackAt (wsV RX1 86 RX1 yX1_isGood wsX1_isGood) := goodIn_app (goodIn_of _ (by decide +kernel)) ggX1_giveBackAt_X1_isGood
set_option maxRecDepth 20000 in
theorem ggX1_giveBackAt_X3_headOf : GoodIn wsX1_giveBackAt wsX3_headOf := goodIn_r _ [15] (by decide +kernel) (by decide +kernel)
set_option maxRecDepth 20000 in
theorem gX1_giveBackAt_X3_headOf_n80 : GoodIn wsX1_giveBackAt (wsX3_headOf) := ggX1_giveBackAt_X3_headOf
set_option maxRecDepth 20000 in
theorem ggX1_giveBackAt_X1_goTo : GoodIn wsX1_giveBackAt wsX1_goTo := goodIn_r _ [33, 34, 2, 35, 36, 37, 38, 6, 39, 1, 14, 10, 15, 40, 41, 42, 43, 44, 45, 46, 12, 13, 47, 66, 67, 68, 69, 70, 71, 72, 73, 74, 75, 76, 77, 78, 79, 80] (by decide +kernel) (by decide +kernel)
set_option maxRecDepth 20000 in
theorem gX1_giveBackAt_X1_goTo : GoodIn wsX1_giveBackAt (wsV RX1 108 RX1 yX1_goTo wsX1_goTo) := goodIn_app (goodIn_of _ (by decide +kernel)) ggX1_giveBackAt_X1_goTo
set_option maxRecDepth 20000 in
theorem ggX1_giveBackAt_X1_moveTo : GoodIn wsX1_giveBackAt wsX1_moveTo := goodIn_r _ [51, 34, 35, 40, 10, 41, 42, 43, 44, 45, 46, 12, 13, 47, 14, 15, 66, 67, 68, 69, 70, 71, 72, 73, 74, 75, 76, 77, 78, 79, 80] (by decide +kernel) (by decide +kernel)
set_option maxRecDepth 20000 in
theorem gX1_giveBackAt_X1_moveTo : GoodIn wsX1_giveBackAt (wsV RX1 136 RX1 yX1_moveTo wsX1_moveTo) := goodIn_app (goodIn_of _ (by decide +kernel)) ggX1_giveBackAt_X1_moveTo
set_option maxRecDepth 20000 in
theorem ggX1_giveBackAt_X1_wearByWriting : GoodIn wsX1_giveBackAt wsX1_wearByWriting := goodIn_r _ [55, 28, 56, 14, 10, 15, 66, 67, 68, 69, 70, 71, 72, 73, 74, 75, 76, 77, 78, 79, 80] (by decide +kernel) (by decide +kernel)
set_option maxRecDepth 20000 in
theorem gX1_giveBackAt_X1_wearByWriting : GoodIn wsX1_giveBackAt (wsV RX1 124 RX1 yX1_wearByWriting wsX1_wearByWriting) := goodIn_app (goodIn_of _ (by decide +kernel)) ggX1_giveBackAt_X1_wearByWriting
set_option maxRecDepth 20000 in
theorem ggX1_giveBackAt_X1_lend : GoodIn wsX1_giveBackAt wsX1_lend := goodIn_r _ [60, 2, 61, 62, 63, 64, 6, 65, 20, 21, 22, 23, 66, 67, 68, 69, 70, 71, 72, 73, 74, 75, 76, 77, 78, 79, 80] (by decide +kernel) (by decide +kernel)
set_option maxRecDepth 20000 in
theorem gX1_giveBackAt_X1_lend : GoodIn wsX1_giveBackAt (wsV RX1 121 RX1 yX1_lend wsX1_lend) := goodIn_app (goodIn_of _ (by decide +kernel)) ggX1_giveBackAt_X1_lend
set_option maxRecDepth 20000 in
theorem ggX1_vacate_X1_isAddress : GoodIn wsX1_vacate wsX1_isAddress := goodIn_r _ [8, 9, 10, 11, 12, 13, 14, 15, 16, 65, 66, 67, 68, 69, 70, 71, 72, 73, 74, 75, 76, 77, 78, 79] (by decide +kernel) (by decide +kernel)
set_option maxRecDepth 20000 in
theorem gX1_vacate_X1_isAddress : GoodIn wsX1_vacate (wsV RX1 69 RX1 yX1_isAddress wsX1_isAddress) := goodIn_app (goodIn_of _ (by decide +kernel)) ggX1_vacate_X1_isAddress
set_option maxRecDepth 20000 in
theorem ggX1_vacate_X1_isLost : GoodIn wsX1_vacate wsX1_isLost := goodIn_r _ [20, 3, 65, 66, 67, 68, 69, 70, 71, 72, 73, 74, 75, 76, 77, 78, 79] (by decide +kernel) (by decide +kernel)
set_option maxRecDepth 20000 in
theorem gX1_vacate_X1_isLost : GoodIn wsX1_vacate (wsV RX1 83 RX1 yX1_isLost wsX1_isLost) := goodIn_app (goodIn_of _ (by decide +kernel)) ggX1_vacate_X1_isLost
set_option maxRecDepth 20000 in
theorem ggX1_vacate_X3_headOf : GoodIn wsX1_vacate wsX3_headOf := goodIn_r _ [16] (by decide +kernel) (by decide +kernel)
set_option maxRecDepth 20000 in
theorem gX1_vacate_X3_headOf_n80 : GoodIn wsX1_vacate (wsX3_headOf) := ggX1_vacate_X3_headOf
set_option maxRecDepth 20000 in
theorem ggX1_vacate_X1_moveAway : GoodIn wsX1_vacate wsX1_moveAway := goodIn_r _ [24, 25, 26, 27, 7, 28, 15, 11, 16, 29, 30, 31, 32, 33, 34, 35, 36, 9, 37, 2, 13, 14, 38, 39, 40, 41, 42, 43, 44, 45, 46, 47, 48, 49, 50, 51, 1, 52, 53, 54, 55, 3, 17, 18, 19, 20, 56, 57, 58, 59, 60, 61, 62, 63, 64, 65, 66, 67, 68, 69, 70, 71, 72, 73, 74, 75, 76, 77, 78, 79] (by decide +kernel) (by decide +kernel)
set_option maxRecDepth 20000 in
theorem gX1_vacate_X1_moveAway : GoodIn wsX1_vacate (wsV RX1 151 RX1 yX1_moveAway wsX1_moveAway) := goodIn_app (goodIn_of _ (by decide +kernel)) ggX1_vacate_X1_moveAway
set_option maxRecDepth 20000 in
theorem ggX1_moveAway_X1_lendableTo : GoodIn wsX1_moveAway wsX1_lendableTo := goodIn_r _ [5, 6, 7, 8, 9, 10, 11, 4, 12, 13, 14, 15, 16, 17, 18, 19, 20, 21, 22, 23, 24, 25, 26, 27, 28, 29, 30, 31, 55, 56, 57, 58, 59, 60, 61, 62, 63, 64, 65, 66, 67, 68, 69] (by decide +kernel) (by decide +kernel)
set_option maxRecDepth 20000 in
theorem gX1_moveAway_X1_lendableTo : GoodIn wsX1_moveAway (wsV RX1 118 RX1 yX1_lendableTo wsX1_lendableTo) := goodIn_app (goodIn_of _ (by decide +kernel)) ggX1_moveAway_X1_lendableTo
set_option maxRecDepth 20000 in
theorem ggX1_moveAway_X1_lose : GoodIn wsX1_moveAway wsX1_lose := goodIn_r _ [35, 36, 37, 38, 39, 4, 40, 18, 41, 42, 43, 44, 45, 55, 56, 57, 58, 59, 60, 61, 62, 63, 64, 65, 66, 67, 68, 69] (by decide +kernel) (by decide +kernel)
set_option maxRecDepth 20000 in
theorem gX1_moveAway_X1_lose : GoodIn wsX1_moveAway (wsV RX1 139 RX1 yX1_lose wsX1_lose) := goodIn_app (goodIn_of _ (by decide +kernel)) ggX1_moveAway_X1_lose
set_option maxRecDepth 20000 in
theorem ggX1_moveAway_X1_lend : GoodIn wsX1_moveAway wsX1_lend := goodIn_r _ [49, 41, 18, 37, 38, 39, 4, 40, 42, 43, 44, 45, 55, 56, 57, 58, 59, 60, 61, 62, 63, 64, 65, 66, 67, 68, 69] (by decide +kernel) (by decide +kernel)
set_option maxRecDepth 20000 in
theorem gX1_moveAway_X1_lend : GoodIn wsX1_moveAway (wsV RX1 121 RX1 yX1_lend wsX1_lend) := goodIn_app (goodIn_of _ (by decide +kernel)) ggX1_moveAway_X1_lend
set_option maxRecDepth 20000 in
theorem ggX1_moveAway_X1_wearByWriting : GoodIn wsX1_moveAway wsX1_wearByWriting := goodIn_r _ [53, 26, 54, 6, 7, 8, 55, 56, 57, 58, 59, 60, 61, 62, 63, 64, 65, 66, 67, 68, 69] (by decide +kernel) (by decide +kernel)
set_option maxRecDepth 20000 in
theorem gX1_moveAway_X1_wearByWriting : GoodIn wsX1_moveAway (wsV RX1 124 RX1 yX1_wearByWriting wsX1_wearByWriting) := goodIn_app (goodIn_of _ (by decide +kernel)) ggX1_moveAway_X1_wearByWriting
set_option maxRecDepth 20000 in
theorem ggX1_tellAddress_X1_isLost : GoodIn wsX1_tellAddress wsX1_isLost := goodIn_r _ [8, 2, 56, 57, 58, 59, 60, 61, 62, 63, 64, 65, 66, 67, 68, 69, 70] (by decide +kernel) (by decide +kernel)
set_option maxRecDepth 20000 in
theorem gX1_tellAddress_X1_isLost : GoodIn wsX1_tellAddress (wsV RX1 83 RX1 yX1_isLost wsX1_isLost) := goodIn_app (goodIn_of _ (by decide +kernel)) ggX1_tellAddress_X1_isLost
set_option maxRecDepth 20000 in
theorem ggX1_tellAddress_X1_isLongWay : GoodIn wsX1_tellAddress wsX1_isLongWay := goodIn_r _ [12, 2, 4, 5, 6, 7, 8, 56, 57, 58, 59, 60, 61, 62, 63, 64, 65, 66, 67, 68, 69, 70] (by decide +kernel) (by decide +kernel)
set_option maxRecDepth 20000 in
theorem gX1_tellAddress_X1_isLongWay : GoodIn wsX1_tellAddress (wsV RX1 148 RX1 yX1_isLongWay wsX1_isLongWay) := goodIn_app (goodIn_of _ (by decide +kernel)) ggX1_tellAddress_X1_isLongWay
set_option maxRecDepth 20000 in
theorem ggX1_tellAddress_X1_lendableTo : GoodIn wsX1_tellAddress wsX1_lendableTo := goodIn_r _ [16, 17, 18, 19, 20, 21, 22, 7, 23, 24, 25, 26, 27, 28, 29, 30, 31, 32, 33, 34, 35, 36, 37, 38, 39, 40, 41, 42, 56, 57, 58, 59, 60, 61, 62, 63, 64, 65, 66, 67, 68, 69, 70] (by decide +kernel) (by decide +kernel)
set_option maxRecDepth 20000 in
theorem gX1_tellAddress_X1_lendableTo : GoodIn wsX1_tellAddress (wsV RX1 118 RX1 yX1_lendableTo wsX1_lendableTo) := goodIn_app (goodIn_of _ (by decide +kernel)) ggX1_tellAddress_X1_lendableTo
set_option maxRecDepth 20000 in
theorem ggX1_tellAddress_X1_stepsTo : GoodIn wsX1_tellAddress wsX1_stepsTo := goodIn_r _ [46, 2, 30, 47, 17, 18, 19, 48, 49, 50, 51, 52, 53, 54, 31, 32, 55, 56, 57, 58, 59, 60, 61, 62, 63, 64, 65, 66, 67, 68, 69, 70] (by decide +kernel) (by decide +kernel)
set_option maxRecDepth 20000 in
theorem gX1_tellAddress_X1_stepsTo : GoodIn wsX1_tellAddress (wsV RX1 145 RX1 yX1_stepsTo wsX1_stepsTo) := goodIn_app (goodIn_of _ (by decide +kernel)) ggX1_tellAddress_X1_stepsTo
set_option maxRecDepth 20000 in
theorem ggX1_tellSector_X1_gradeOf : GoodIn wsX1_tellSector wsX1_gradeOf := goodIn_r _ [7, 8, 9, 10, 6, 11, 1, 12, 13, 14, 15, 16, 34, 35, 36, 37, 38, 39, 40, 41, 42, 43, 44, 45, 46, 47, 48] (by decide +kernel) (by decide +kernel)
set_option maxRecDepth 20000 in
theorem gX1_tellSector_X1_gradeOf : GoodIn wsX1_tellSector (wsV RX1 154 RX1 yX1_gradeOf wsX1_gradeOf) := goodIn_app (goodIn_of _ (by decide +kernel)) ggX1_tellSector_X1_gradeOf
set_option maxRecDepth 20000 in
theorem ggX1_tellSector_X1_isAddress : GoodIn wsX1_tellSector wsX1_isAddress := goodIn_r _ [20, 21, 22, 23, 24, 25, 26, 27, 28, 34, 35, 36, 37, 38, 39, 40, 41, 42, 43, 44, 45, 46, 47, 48] (by decide +kernel) (by decide +kernel)
set_option maxRecDepth 20000 in
theorem gX1_tellSector_X1_isAddress : GoodIn wsX1_tellSector (wsV RX1 69 RX1 yX1_isAddress wsX1_isAddress) := goodIn_app (goodIn_of _ (by decide +kernel)) ggX1_tellSector_X1_isAddress
set_option maxRecDepth 20000 in
theorem ggX1_tellSector_X1_isFree : GoodIn wsX1_tellSector wsX1_isFree := goodIn_r _ [32, 21, 2, 33, 27, 23, 28, 25, 26, 8, 9, 10, 6, 11, 1, 12, 34, 35, 36, 37, 38, 39, 40, 41, 42, 43, 44, 45, 46, 47, 48] (by decide +kernel) (by decide +kernel)
set_option maxRecDepth 20000 in
theorem gX1_tellSector_X1_isFree : GoodIn wsX1_tellSector (wsV RX1 92 RX1 yX1_isFree wsX1_isFree) := goodIn_app (goodIn_of _ (by decide +kernel)) ggX1_tellSector_X1_isFree
set_option maxRecDepth 20000 in
theorem ggX1_tellHead_X1_freeOf : GoodIn wsX1_tellHead wsX1_freeOf := goodIn_r _ [10, 11, 12, 13, 9, 14, 2, 4, 3, 15, 16, 17, 18, 19, 20, 21, 22, 23, 24, 25, 54, 55, 56, 57, 58, 59, 60, 61, 62, 63, 64, 65, 66, 67, 68] (by decide +kernel) (by decide +kernel)
set_option maxRecDepth 20000 in
theorem gX1_tellHead_X1_freeOf : GoodIn wsX1_tellHead (wsV RX1 98 RX1 yX1_freeOf wsX1_freeOf) := goodIn_app (goodIn_of _ (by decide +kernel)) ggX1_tellHead_X1_freeOf
end
section
set_option maxRecDepth 20000 in
theorem ggX1_tellHead_X1_leadingElsewhere : GoodIn wsX1_tellHead wsX1_leadingElsewhere := goodIn_r _ [29, 15, 16, 17] (by decide +kernel) (by decide +kernel)
set_option maxRecDepth 20000 in
theorem gX1_tellHead_X1_leadingElsewhere : GoodIn wsX1_tellHead (wsV RX1 157 RX1 yX1_leadingElsewhere wsX1_leadingElsewhere) := goodIn_app (goodIn_of _ (by decide +kernel)) ggX1_tellHead_X1_leadingElsewhere
set_option maxRecDepth 20000 in
theorem ggX1_tellHead_X1_lostOf : GoodIn wsX1_tellHead wsX1_lostOf := goodIn_r _ [33, 2, 34, 35, 36, 9, 37, 5, 54, 55, 56, 57, 58, 59, 60, 61, 62, 63, 64, 65, 66, 67, 68] (by decide +kernel) (by decide +kernel)
set_option maxRecDepth 20000 in
theorem gX1_tellHead_X1_lostOf : GoodIn wsX1_tellHead (wsV RX1 133 RX1 yX1_lostOf wsX1_lostOf) := goodIn_app (goodIn_of _ (by decide +kernel)) ggX1_tellHead_X1_lostOf
set_option maxRecDepth 20000 in
theorem ggX1_tellHead_X1_wearOf : GoodIn wsX1_tellHead wsX1_wearOf := goodIn_r _ [41, 24, 54, 55, 56, 57, 58, 59, 60, 61, 62, 63, 64, 65, 66, 67, 68] (by decide +kernel) (by decide +kernel)
set_option maxRecDepth 20000 in
theorem gX1_tellHead_X1_wearOf : GoodIn wsX1_tellHead (wsV RX1 105 RX1 yX1_wearOf wsX1_wearOf) := goodIn_app (goodIn_of _ (by decide +kernel)) ggX1_tellHead_X1_wearOf
set_option maxRecDepth 20000 in
theorem ggX1_tellHead_X1_gradedOf : GoodIn wsX1_tellHead wsX1_gradedOf := goodIn_r _ [45, 46, 47, 48, 9, 49, 20, 21, 22, 23, 24, 25, 50, 51, 52, 53, 54, 55, 56, 57, 58, 59, 60, 61, 62, 63, 64, 65, 66, 67, 68] (by decide +kernel) (by decide +kernel)
set_option maxRecDepth 20000 in
theorem gX1_tellHead_X1_gradedOf : GoodIn wsX1_tellHead (wsV RX1 161 RX1 yX1_gradedOf wsX1_gradedOf) := goodIn_app (goodIn_of _ (by decide +kernel)) ggX1_tellHead_X1_gradedOf
set_option maxRecDepth 20000 in
theorem ggX1_tellWhole_X1_overHeads : GoodIn wsX1_tellWhole wsX1_overHeads := goodIn_r _ [12, 13, 14, 15, 11, 16, 17, 18, 19, 20, 21, 22, 23, 24, 25, 26, 27, 28, 29, 30, 31, 32, 33, 34, 35, 36, 37, 38, 39, 1, 40, 41, 42, 43, 44, 45, 46, 47, 48, 49, 50, 51, 52, 53, 54, 55, 56, 57, 58, 59, 60, 61, 62, 63, 64, 65, 66, 67, 82, 83, 84, 85, 86, 87, 88, 89, 90, 91, 92, 93, 94, 95, 96] (by decide +kernel) (by decide +kernel)
set_option maxRecDepth 20000 in
theorem gX1_tellWhole_X1_overHeads : GoodIn wsX1_tellWhole (wsV RX1 164 RX1 yX1_overHeads wsX1_overHeads) := goodIn_app (goodIn_of _ (by decide +kernel)) ggX1_tellWhole_X1_overHeads
set_option maxRecDepth 20000 in
theorem ggX1_tellWhole_X1_longWayCount : GoodIn wsX1_tellWhole wsX1_longWayCount := goodIn_r _ [71, 72, 73, 74, 11, 75, 18, 76, 31, 77, 33, 34, 30, 32, 78, 79, 80, 81, 21, 48, 49, 50, 51, 82, 83, 84, 85, 86, 87, 88, 89, 90, 91, 92, 93, 94, 95, 96] (by decide +kernel) (by decide +kernel)
set_option maxRecDepth 20000 in
theorem gX1_tellWhole_X1_longWayCount : GoodIn wsX1_tellWhole (wsV RX1 167 RX1 yX1_longWayCount wsX1_longWayCount) := goodIn_app (goodIn_of _ (by decide +kernel)) ggX1_tellWhole_X1_longWayCount
set_option maxRecDepth 20000 in
theorem ggX1_tellWhole_X3_placeOf : GoodIn wsX1_tellWhole wsX3_placeOf := goodIn_r _ [34] (by decide +kernel) (by decide +kernel)
set_option maxRecDepth 20000 in
theorem gX1_tellWhole_X3_placeOf_n76 : GoodIn wsX1_tellWhole (wsX3_placeOf) := ggX1_tellWhole_X3_placeOf
set_option maxRecDepth 20000 in
theorem ggX1_tellWhole_X3_headOf : GoodIn wsX1_tellWhole wsX3_headOf := goodIn_r _ [32] (by decide +kernel) (by decide +kernel)
set_option maxRecDepth 20000 in
theorem gX1_tellWhole_X3_headOf_n80 : GoodIn wsX1_tellWhole (wsX3_headOf) := ggX1_tellWhole_X3_headOf
set_option maxRecDepth 20000 in
theorem ggX1_readsUntilChange_X1_isAddress : GoodIn wsX1_readsUntilChange wsX1_isAddress := goodIn_r _ [9, 10, 11, 12, 13, 14, 15, 16, 17, 44, 45, 46, 47, 48, 49, 50, 51, 52, 53, 54, 55, 56, 57, 58] (by decide +kernel) (by decide +kernel)
set_option maxRecDepth 20000 in
theorem gX1_readsUntilChange_X1_isAddress : GoodIn wsX1_readsUntilChange (wsV RX1 69 RX1 yX1_isAddress wsX1_isAddress) := goodIn_app (goodIn_of _ (by decide +kernel)) ggX1_readsUntilChange_X1_isAddress
set_option maxRecDepth 20000 in
theorem ggX1_readsUntilChange_X1_isLost : GoodIn wsX1_readsUntilChange wsX1_isLost := goodIn_r _ [21, 1, 44, 45, 46, 47, 48, 49, 50, 51, 52, 53, 54, 55, 56, 57, 58] (by decide +kernel) (by decide +kernel)
set_option maxRecDepth 20000 in
theorem gX1_readsUntilChange_X1_isLost : GoodIn wsX1_readsUntilChange (wsV RX1 83 RX1 yX1_isLost wsX1_isLost) := goodIn_app (goodIn_of _ (by decide +kernel)) ggX1_readsUntilChange_X1_isLost
set_option maxRecDepth 20000 in
theorem ggX1_readsUntilChange_X1_lendableTo : GoodIn wsX1_readsUntilChange wsX1_lendableTo := goodIn_r _ [25, 16, 12, 17, 26, 27, 28, 8, 29, 30, 31, 32, 33, 10, 34, 35, 14, 15, 36, 37, 38, 39, 3, 2, 40, 41, 42, 43, 44, 45, 46, 47, 48, 49, 50, 51, 52, 53, 54, 55, 56, 57, 58] (by decide +kernel) (by decide +kernel)
set_option maxRecDepth 20000 in
theorem gX1_readsUntilChange_X1_lendableTo : GoodIn wsX1_readsUntilChange (wsV RX1 118 RX1 yX1_lendableTo wsX1_lendableTo) := goodIn_app (goodIn_of _ (by decide +kernel)) ggX1_readsUntilChange_X1_lendableTo
set_option maxRecDepth 20000 in
theorem ggX1_readsUntilChange_X3_headOf : GoodIn wsX1_readsUntilChange wsX3_headOf := goodIn_r _ [17] (by decide +kernel) (by decide +kernel)
set_option maxRecDepth 20000 in
theorem gX1_readsUntilChange_X3_headOf_n80 : GoodIn wsX1_readsUntilChange (wsX3_headOf) := ggX1_readsUntilChange_X3_headOf
set_option maxRecDepth 20000 in
theorem ggX1_addressOfRank_X1_hasRank : GoodIn wsX1_addressOfRank wsX1_hasRank := goodIn_r _ [5, 6, 7, 8, 4, 9, 10, 11, 12, 13, 14, 15, 16, 17, 18, 19, 20, 21, 22, 28, 29, 30, 31, 32, 33, 34, 35, 36, 37, 38, 39, 40, 41, 42] (by decide +kernel) (by decide +kernel)
set_option maxRecDepth 20000 in
theorem gX1_addressOfRank_X1_hasRank : GoodIn wsX1_addressOfRank (wsV RX1 171 RX1 yX1_hasRank wsX1_hasRank) := goodIn_app (goodIn_of _ (by decide +kernel)) ggX1_addressOfRank_X1_hasRank
set_option maxRecDepth 20000 in
theorem ggX1_addressOfRank_X1_rankOf : GoodIn wsX1_addressOfRank wsX1_rankOf := goodIn_r _ [26, 27, 22, 1, 2, 3, 4, 5, 6, 7, 8, 9, 10, 11, 12, 13, 14, 15, 16, 17, 18, 19, 20, 21, 28, 29, 30, 31, 32, 33, 34, 35, 36, 37, 38, 39, 40, 41, 42] (by decide +kernel) (by decide +kernel)
set_option maxRecDepth 20000 in
theorem gX1_addressOfRank_X1_rankOf : GoodIn wsX1_addressOfRank (wsV RX1 174 RX1 yX1_rankOf wsX1_rankOf) := goodIn_app (goodIn_of _ (by decide +kernel)) ggX1_addressOfRank_X1_rankOf
set_option maxRecDepth 20000 in
theorem ggX1_hasRank_X1_isAddress : GoodIn wsX1_hasRank wsX1_isAddress := goodIn_r _ [5, 6, 7, 8, 9, 10, 11, 12, 13, 19, 20, 21, 22, 23, 24, 25, 26, 27, 28, 29, 30, 31, 32, 33] (by decide +kernel) (by decide +kernel)
set_option maxRecDepth 20000 in
theorem gX1_hasRank_X1_isAddress : GoodIn wsX1_hasRank (wsV RX1 69 RX1 yX1_isAddress wsX1_isAddress) := goodIn_app (goodIn_of _ (by decide +kernel)) ggX1_hasRank_X1_isAddress
set_option maxRecDepth 20000 in
theorem ggX1_hasRank_X1_isLost : GoodIn wsX1_hasRank wsX1_isLost := goodIn_r _ [17, 18, 19, 20, 21, 22, 23, 24, 25, 26, 27, 28, 29, 30, 31, 32, 33] (by decide +kernel) (by decide +kernel)
set_option maxRecDepth 20000 in
theorem gX1_hasRank_X1_isLost : GoodIn wsX1_hasRank (wsV RX1 83 RX1 yX1_isLost wsX1_isLost) := goodIn_app (goodIn_of _ (by decide +kernel)) ggX1_hasRank_X1_isLost
set_option maxRecDepth 20000 in
theorem ggX1_rankOf_X1_hasRank : GoodIn wsX1_rankOf wsX1_hasRank := goodIn_r _ [7, 8, 9, 10, 6, 11, 12, 13, 14, 15, 16, 17, 18, 19, 20, 21, 22, 23, 2, 24, 25, 26, 27, 28, 29, 30, 31, 32, 33, 34, 35, 36, 37, 38] (by decide +kernel) (by decide +kernel)
set_option maxRecDepth 20000 in
theorem gX1_rankOf_X1_hasRank : GoodIn wsX1_rankOf (wsV RX1 171 RX1 yX1_hasRank wsX1_hasRank) := goodIn_app (goodIn_of _ (by decide +kernel)) ggX1_rankOf_X1_hasRank
set_option maxRecDepth 20000 in
theorem ggX1_leadingElsewhere_X3_headOf : GoodIn wsX1_leadingElsewhere wsX3_headOf := goodIn_r _ [3] (by decide +kernel) (by decide +kernel)
set_option maxRecDepth 20000 in
theorem gX1_leadingElsewhere_X3_headOf_n80 : GoodIn wsX1_leadingElsewhere (wsX3_headOf) := ggX1_leadingElsewhere_X3_headOf
set_option maxRecDepth 20000 in
theorem ggX1_lostOf_X1_isLost : GoodIn wsX1_lostOf wsX1_isLost := goodIn_r _ [6, 7, 8, 9, 10, 11, 12, 13, 14, 15, 16, 17, 18, 19, 20, 21, 22] (by decide +kernel) (by decide +kernel)
set_option maxRecDepth 20000 in
theorem gX1_lostOf_X1_isLost : GoodIn wsX1_lostOf (wsV RX1 83 RX1 yX1_isLost wsX1_isLost) := goodIn_app (goodIn_of _ (by decide +kernel)) ggX1_lostOf_X1_isLost
set_option maxRecDepth 20000 in
theorem ggX1_gradedOf_X1_gradeOf : GoodIn wsX1_gradedOf wsX1_gradeOf := goodIn_r _ [5, 6, 7, 8, 4, 9, 10, 11, 12, 13, 14, 15, 16, 17, 18, 19, 20, 21, 22, 23, 24, 25, 26, 27, 28, 29, 30] (by decide +kernel) (by decide +kernel)
set_option maxRecDepth 20000 in
theorem gX1_gradedOf_X1_gradeOf : GoodIn wsX1_gradedOf (wsV RX1 154 RX1 yX1_gradeOf wsX1_gradeOf) := goodIn_app (goodIn_of _ (by decide +kernel)) ggX1_gradedOf_X1_gradeOf
set_option maxRecDepth 20000 in
theorem ggX1_overHeads_X1_tellHead : GoodIn wsX1_overHeads wsX1_tellHead := goodIn_r _ [5, 6, 7, 8, 9, 10, 11, 12, 13, 4, 14, 15, 16, 17, 18, 19, 20, 21, 22, 23, 24, 25, 26, 27, 28, 29, 30, 31, 32, 33, 34, 35, 36, 37, 38, 39, 40, 41, 42, 43, 44, 45, 46, 47, 48, 49, 50, 51, 52, 53, 54, 55, 56, 57, 58, 59, 60, 61, 62, 63, 64, 65, 66, 67, 68, 69, 70, 71, 72] (by decide +kernel) (by decide +kernel)
set_option maxRecDepth 20000 in
theorem gX1_overHeads_X1_tellHead : GoodIn wsX1_overHeads (wsV RX1 177 RX1 yX1_tellHead wsX1_tellHead) := goodIn_app (goodIn_of _ (by decide +kernel)) ggX1_overHeads_X1_tellHead
set_option maxRecDepth 20000 in
theorem ggX1_longWayCount_X1_isAddress : GoodIn wsX1_longWayCount wsX1_isAddress := goodIn_r _ [5, 6, 7, 8, 9, 10, 11, 12, 13, 23, 24, 25, 26, 27, 28, 29, 30, 31, 32, 33, 34, 35, 36, 37] (by decide +kernel) (by decide +kernel)
set_option maxRecDepth 20000 in
theorem gX1_longWayCount_X1_isAddress : GoodIn wsX1_longWayCount (wsV RX1 69 RX1 yX1_isAddress wsX1_isAddress) := goodIn_app (goodIn_of _ (by decide +kernel)) ggX1_longWayCount_X1_isAddress
set_option maxRecDepth 20000 in
theorem ggX1_longWayCount_X1_isLongWay : GoodIn wsX1_longWayCount wsX1_isLongWay := goodIn_r _ [17, 18, 19, 20, 21, 4, 22, 23, 24, 25, 26, 27, 28, 29, 30, 31, 32, 33, 34, 35, 36, 37] (by decide +kernel) (by decide +kernel)
set_option maxRecDepth 20000 in
theorem gX1_longWayCount_X1_isLongWay : GoodIn wsX1_longWayCount (wsV RX1 148 RX1 yX1_isLongWay wsX1_isLongWay) := goodIn_app (goodIn_of _ (by decide +kernel)) ggX1_longWayCount_X1_isLongWay
set_option maxRecDepth 20000 in
theorem ggX2_init_X1_init : GoodIn wsX2_init wsX1_init := goodIn_r _ [12, 13, 2, 3, 14, 15, 16, 17, 18, 19, 20, 21, 22, 23, 24, 25, 26, 27, 28, 29, 30, 31, 32, 33, 9, 34, 35, 36, 37, 38, 39, 40, 41, 42, 43, 44, 45, 49, 50, 51, 52, 53, 54, 55, 56, 57, 58, 59, 60, 61, 62, 63] (by decide +kernel) (by decide +kernel)
set_option maxRecDepth 20000 in
theorem gX2_init_X1_init : GoodIn wsX2_init (wsX1_init) := ggX2_init_X1_init
set_option maxRecDepth 20000 in
theorem ggX2_record_X1_takeOver : GoodIn wsX2_record wsX1_takeOver := goodIn_r _ [8, 9, 10, 11, 12, 13, 14, 15, 16, 17, 18, 19, 20, 21, 22, 23, 24, 25, 26, 27, 31, 32, 33, 34, 35, 36, 37, 38, 39, 40, 41, 42, 43, 44, 45] (by decide +kernel) (by decide +kernel)
set_option maxRecDepth 20000 in
theorem gX2_record_X1_takeOver : GoodIn wsX2_record (wsV RX2 25 RX1 yX1_takeOver wsX1_takeOver) := goodIn_app (goodIn_of _ (by decide +kernel)) ggX2_record_X1_takeOver
set_option maxRecDepth 20000 in
theorem ggX2_takeBack_X1_takeOver : GoodIn wsX2_takeBack wsX1_takeOver := goodIn_r _ [8, 9, 10, 11, 12, 13, 14, 15, 16, 17, 18, 19, 20, 21, 22, 23, 24, 25, 26, 27, 31, 32, 33, 34, 35, 36, 37, 38, 39, 40, 41, 42, 43, 44, 45] (by decide +kernel) (by decide +kernel)
set_option maxRecDepth 20000 in
theorem gX2_takeBack_X1_takeOver : GoodIn wsX2_takeBack (wsV RX2 25 RX1 yX1_takeOver wsX1_takeOver) := goodIn_app (goodIn_of _ (by decide +kernel)) ggX2_takeBack_X1_takeOver
set_option maxRecDepth 20000 in
theorem ggX3_init_X1_init : GoodIn wsX3_init wsX1_init := goodIn_r _ [21, 22, 2, 3, 23, 24, 25, 26, 27, 28, 29, 30, 31, 32, 33, 34, 35, 36, 37, 38, 39, 40, 41, 42, 6, 43, 44, 45, 46, 47, 48, 49, 50, 51, 52, 53, 54, 73, 74, 75, 76, 77, 78, 79, 80, 81, 82, 83, 84, 85, 86, 87] (by decide +kernel) (by decide +kernel)
set_option maxRecDepth 20000 in
theorem gX3_init_X1_init : GoodIn wsX3_init (wsX1_init) := ggX3_init_X1_init
set_option maxRecDepth 20000 in
theorem ggX3_init_X2_init : GoodIn wsX3_init wsX2_init := goodIn_r _ [57, 58, 2, 3, 59, 60, 61, 62, 5, 6, 63, 20, 21, 22, 23, 24, 25, 26, 27, 28, 29, 30, 31, 32, 33, 34, 35, 36, 37, 38, 39, 40, 41, 42, 43, 44, 45, 46, 47, 48, 49, 50, 51, 52, 53, 54, 94, 95, 96, 73, 74, 75, 76, 77, 78, 79, 80, 81, 82, 83, 84, 85, 86, 87] (by decide +kernel) (by decide +kernel)
set_option maxRecDepth 20000 in
theorem gX3_init_X2_init : GoodIn wsX3_init (wsX2_init) := ggX3_init_X2_init
set_option maxRecDepth 20000 in
theorem ggX3_init_X0_init : GoodIn wsX3_init wsX0_init := goodIn_r _ [65, 66, 2, 3, 24, 67, 68, 69, 70, 71, 72, 97, 98, 99, 100, 101, 102] (by decide +kernel) (by decide +kernel)
set_option maxRecDepth 20000 in
theorem gX3_init_X0_init_n31 : GoodIn wsX3_init (wsX0_init) := ggX3_init_X0_init
set_option maxRecDepth 20000 in
theorem ggX3_setLimit_X3_startTrial : GoodIn wsX3_setLimit wsX3_startTrial := goodIn_r _ [6, 1, 7, 8, 9, 10, 11, 12, 13, 14, 15, 16, 17, 18, 19, 20, 21, 22, 23, 24, 25, 26, 27, 28, 29, 30, 31, 50, 51, 52, 53, 54, 55, 56, 57, 58, 59, 60, 61, 62, 63, 64, 65, 66, 67, 68, 69, 70] (by decide +kernel) (by decide +kernel)
set_option maxRecDepth 20000 in
theorem gX3_setLimit_X3_startTrial : GoodIn wsX3_setLimit (wsV RX3 40 RX3 yX3_startTrial wsX3_startTrial) := goodIn_app (goodIn_of _ (by decide +kernel)) ggX3_setLimit_X3_startTrial
set_option maxRecDepth 20000 in
theorem ggX3_setLimit_X1_changeLimit : GoodIn wsX3_setLimit wsX1_changeLimit := goodIn_r _ [35, 13, 56, 57, 58, 59, 60, 61, 62, 63, 64, 65, 66, 67, 68, 69, 70] (by decide +kernel) (by decide +kernel)
set_option maxRecDepth 20000 in
theorem gX3_setLimit_X1_changeLimit : GoodIn wsX3_setLimit (wsV RX3 43 RX1 yX1_changeLimit wsX1_changeLimit) := goodIn_app (goodIn_of _ (by decide +kernel)) ggX3_setLimit_X1_changeLimit
set_option maxRecDepth 20000 in
theorem ggX3_setLimit_X3_settle : GoodIn wsX3_setLimit wsX3_settle := goodIn_r _ [39, 40, 7, 1, 41, 42, 43, 44, 45, 46, 47, 48, 49, 9, 10, 11, 12, 13, 14, 15, 16, 17, 18, 19, 20, 21, 22, 23, 24, 25, 26, 27, 28, 29, 30, 31, 8, 50, 51, 52, 53, 54, 55, 71, 72, 73, 56, 57, 58, 59, 60, 61, 62, 63, 64, 65, 66, 67, 68, 69, 70] (by decide +kernel) (by decide +kernel)
set_option maxRecDepth 20000 in
theorem gX3_setLimit_X3_settle : GoodIn wsX3_setLimit (wsV RX3 47 RX3 yX3_settle wsX3_settle) := goodIn_app (goodIn_of _ (by decide +kernel)) ggX3_setLimit_X3_settle
set_option maxRecDepth 20000 in
theorem ggX3_read_X3_startTrial : GoodIn wsX3_read wsX3_startTrial := goodIn_r _ [6, 1, 7, 8, 9, 10, 11, 12, 13, 14, 15, 16, 17, 18, 19, 20, 21, 22, 23, 24, 25, 26, 27, 28, 29, 30, 31, 132, 133, 134, 135, 136, 137, 138, 139, 140, 141, 142, 143, 144, 145, 146, 147, 148, 149, 150, 151, 152] (by decide +kernel) (by decide +kernel)
set_option maxRecDepth 20000 in
theorem gX3_read_X3_startTrial : GoodIn wsX3_read (wsV RX3 40 RX3 yX3_startTrial wsX3_startTrial) := goodIn_app (goodIn_of _ (by decide +kernel)) ggX3_read_X3_startTrial
set_option maxRecDepth 20000 in
theorem ggX3_read_X1_readAt : GoodIn wsX3_read wsX1_readAt := goodIn_r _ [35, 24, 30, 22, 36, 37, 38, 11, 39, 19, 40, 5, 41, 42, 43, 44, 45, 46, 47, 48, 49, 50, 51, 52, 53, 27, 26, 54, 55, 56, 57, 20, 58, 59, 60, 61, 62, 63, 64, 65, 66, 67, 68, 69, 21, 14, 70, 71, 72, 73, 28, 23, 74, 75, 76, 77, 13, 78, 79, 80, 81, 82, 83, 84, 85, 86, 87, 88, 89, 25, 90, 91, 92, 93, 94, 95, 96, 97, 98, 99, 100, 101, 102, 103, 104, 105, 106, 107, 108, 109, 110, 111, 112, 113, 114, 115, 116, 117, 29, 138, 139, 140, 141, 142, 143, 144, 145, 146, 147, 148, 149, 150, 151, 152] (by decide +kernel) (by decide +kernel)
set_option maxRecDepth 20000 in
theorem gX3_read_X1_readAt : GoodIn wsX3_read (wsV RX3 61 RX1 yX1_readAt wsX1_readAt) := goodIn_app (goodIn_of _ (by decide +kernel)) ggX3_read_X1_readAt
set_option maxRecDepth 20000 in
theorem ggX3_read_X3_settle : GoodIn wsX3_read wsX3_settle := goodIn_r _ [121, 122, 7, 1, 123, 124, 125, 126, 127, 128, 129, 130, 131, 9, 10, 11, 12, 13, 14, 15, 16, 17, 18, 19, 20, 21, 22, 23, 24, 25, 26, 27, 28, 29, 30, 31, 8, 132, 133, 134, 135, 136, 137, 153, 154, 155, 138, 139, 140, 141, 142, 143, 144, 145, 146, 147, 148, 149, 150, 151, 152] (by decide +kernel) (by decide +kernel)
set_option maxRecDepth 20000 in
theorem gX3_read_X3_settle : GoodIn wsX3_read (wsV RX3 47 RX3 yX3_settle wsX3_settle) := goodIn_app (goodIn_of _ (by decide +kernel)) ggX3_read_X3_settle
set_option maxRecDepth 20000 in
theorem ggX3_write_X3_startTrial : GoodIn wsX3_write wsX3_startTrial := goodIn_r _ [6, 1, 7, 8, 9, 10, 11, 12, 13, 14, 15, 16, 17, 18, 19, 20, 21, 22, 23, 24, 25, 26, 27, 28, 29, 30, 31, 128, 129, 130, 131, 132, 133, 134, 135, 136, 137, 138, 139, 140, 141, 142, 143, 144, 145, 146, 147, 148] (by decide +kernel) (by decide +kernel)
set_option maxRecDepth 20000 in
theorem gX3_write_X3_startTrial : GoodIn wsX3_write (wsV RX3 40 RX3 yX3_startTrial wsX3_startTrial) := goodIn_app (goodIn_of _ (by decide +kernel)) ggX3_write_X3_startTrial
set_option maxRecDepth 20000 in
theorem ggX3_write_X1_writeAt : GoodIn wsX3_write wsX1_writeAt := goodIn_r _ [35, 24, 22, 31, 36, 37, 38, 11, 39, 19, 40, 5, 41, 42, 43, 44, 45, 46, 47, 48, 49, 50, 51, 52, 53, 54, 55, 56, 57, 58, 59, 60, 61, 25, 20, 62, 63, 64, 65, 21, 13, 66, 67, 68, 69, 70, 71, 72, 73, 74, 75, 76, 77, 78, 79, 80, 81, 27, 26, 82, 83, 84, 85, 86, 87, 88, 89, 90, 91, 92, 93, 94, 95, 96, 97, 14, 98, 99, 100, 101, 28, 23, 102, 103, 104, 105, 106, 107, 108, 109, 110, 111, 112, 113, 29, 134, 135, 136, 137, 138, 139, 140, 141, 142, 143, 144, 145, 146, 147, 148] (by decide +kernel) (by decide +kernel)
set_option maxRecDepth 20000 in
theorem gX3_write_X1_writeAt : GoodIn wsX3_write (wsV RX3 64 RX1 yX1_writeAt wsX1_writeAt) := goodIn_app (goodIn_of _ (by decide +kernel)) ggX3_write_X1_writeAt
set_option maxRecDepth 20000 in
theorem ggX3_write_X3_settle : GoodIn wsX3_write wsX3_settle := goodIn_r _ [117, 118, 7, 1, 119, 120, 121, 122, 123, 124, 125, 126, 127, 9, 10, 11, 12, 13, 14, 15, 16, 17, 18, 19, 20, 21, 22, 23, 24, 25, 26, 27, 28, 29, 30, 31, 8, 128, 129, 130, 131, 132, 133, 149, 150, 151, 134, 135, 136, 137, 138, 139, 140, 141, 142, 143, 144, 145, 146, 147, 148] (by decide +kernel) (by decide +kernel)
set_option maxRecDepth 20000 in
theorem gX3_write_X3_settle : GoodIn wsX3_write (wsV RX3 47 RX3 yX3_settle wsX3_settle) := goodIn_app (goodIn_of _ (by decide +kernel)) ggX3_write_X3_settle
set_option maxRecDepth 20000 in
theorem ggX3_copy_X1_isAddress : GoodIn wsX3_copy wsX1_isAddress := goodIn_r _ [7, 8, 9, 10, 11, 12, 13, 14, 15, 147, 148, 149, 150, 151, 152, 153, 154, 155, 156, 157, 158, 159, 160, 161] (by decide +kernel) (by decide +kernel)
set_option maxRecDepth 20000 in
theorem gX3_copy_X1_isAddress : GoodIn wsX3_copy (wsV RX3 67 RX1 yX1_isAddress wsX1_isAddress) := goodIn_app (goodIn_of _ (by decide +kernel)) ggX3_copy_X1_isAddress
set_option maxRecDepth 20000 in
theorem ggX3_copy_X3_startTrial : GoodIn wsX3_copy wsX3_startTrial := goodIn_r _ [19, 2, 1, 20, 21, 22, 6, 23, 24, 25, 26, 27, 28, 29, 8, 30, 31, 32, 33, 34, 35, 36, 37, 38, 39, 40, 41, 141, 142, 143, 144, 145, 146, 147, 148, 149, 150, 151, 152, 153, 154, 155, 156, 157, 158, 159, 160, 161] (by decide +kernel) (by decide +kernel)
set_option maxRecDepth 20000 in
theorem gX3_copy_X3_startTrial : GoodIn wsX3_copy (wsV RX3 40 RX3 yX3_startTrial wsX3_startTrial) := goodIn_app (goodIn_of _ (by decide +kernel)) ggX3_copy_X3_startTrial
set_option maxRecDepth 20000 in
theorem ggX3_copy_X1_copyRow : GoodIn wsX3_copy wsX1_copyRow := goodIn_r _ [45, 46, 47, 48, 6, 49, 34, 40, 32, 50, 4, 5, 7, 8, 9, 10, 11, 12, 13, 14, 15, 51, 52, 53, 54, 55, 56, 57, 58, 37, 36, 59, 60, 61, 62, 30, 63, 64, 65, 66, 67, 68, 69, 70, 71, 72, 73, 74, 31, 25, 75, 76, 77, 78, 38, 33, 79, 80, 81, 82, 24, 83, 84, 85, 86, 87, 88, 89, 90, 91, 92, 93, 94, 35, 95, 96, 97, 98, 99, 100, 101, 102, 103, 104, 105, 106, 107, 108, 109, 110, 111, 112, 113, 114, 115, 116, 117, 118, 119, 120, 121, 122, 39, 123, 124, 125, 126, 41, 147, 148, 149, 150, 151, 152, 153, 154, 155, 156, 157, 158, 159, 160, 161] (by decide +kernel) (by decide +kernel)
set_option maxRecDepth 20000 in
theorem gX3_copy_X1_copyRow : GoodIn wsX3_copy (wsV RX3 70 RX1 yX1_copyRow wsX1_copyRow) := goodIn_app (goodIn_of _ (by decide +kernel)) ggX3_copy_X1_copyRow
set_option maxRecDepth 20000 in
theorem ggX3_copy_X3_settle : GoodIn wsX3_copy wsX3_settle := goodIn_r _ [130, 131, 1, 2, 132, 133, 134, 135, 136, 137, 138, 139, 140, 21, 22, 6, 23, 24, 25, 26, 27, 28, 29, 8, 30, 31, 32, 33, 34, 35, 36, 37, 38, 39, 40, 41, 20, 141, 142, 143, 144, 145, 146, 162, 163, 164, 147, 148, 149, 150, 151, 152, 153, 154, 155, 156, 157, 158, 159, 160, 161] (by decide +kernel) (by decide +kernel)
set_option maxRecDepth 20000 in
theorem gX3_copy_X3_settle : GoodIn wsX3_copy (wsV RX3 47 RX3 yX3_settle wsX3_settle) := goodIn_app (goodIn_of _ (by decide +kernel)) ggX3_copy_X3_settle
set_option maxRecDepth 20000 in
theorem ggX3_test_X3_isHead : GoodIn wsX3_test wsX3_isHead := goodIn_r _ [5] (by decide +kernel) (by decide +kernel)
set_option maxRecDepth 20000 in
theorem gX3_test_X3_isHead : GoodIn wsX3_test (va_wsS RX3 50 yX3_isHead wsX3_isHead) := goodIn_app (goodIn_of _ (by decide +kernel)) ggX3_test_X3_isHead
set_option maxRecDepth 20000 in
theorem ggX3_test_X3_startTrial : GoodIn wsX3_test wsX3_startTrial := goodIn_r _ [9, 1, 10, 11, 12, 13, 14, 15, 16, 17, 18, 19, 20, 21, 22, 23, 24, 25, 26, 27, 28, 29, 30, 31, 32, 33, 34, 143, 144, 145, 146, 147, 148, 149, 150, 151, 152, 153, 154, 155, 156, 157, 158, 159, 160, 161, 162, 163] (by decide +kernel) (by decide +kernel)
set_option maxRecDepth 20000 in
theorem gX3_test_X3_startTrial : GoodIn wsX3_test (wsV RX3 40 RX3 yX3_startTrial wsX3_startTrial) := goodIn_app (goodIn_of _ (by decide +kernel)) ggX3_test_X3_startTrial
set_option maxRecDepth 20000 in
theorem ggX3_test_X1_testHead : GoodIn wsX3_test wsX1_testHead := goodIn_r _ [38, 22, 31, 39, 40, 41, 14, 42, 43, 44, 45, 46, 27, 47, 48, 49, 50, 33, 25, 51, 52, 53, 54, 55, 4, 56, 57, 58, 59, 60, 61, 62, 63, 64, 30, 29, 65, 66, 67, 68, 23, 69, 70, 71, 72, 73, 74, 75, 76, 77, 78, 79, 80, 24, 17, 81, 82, 83, 84, 26, 85, 86, 87, 88, 16, 89, 90, 91, 92, 93, 94, 95, 96, 97, 98, 99, 100, 28, 101, 102, 103, 104, 105, 106, 107, 108, 109, 110, 111, 112, 113, 114, 115, 116, 117, 118, 119, 120, 121, 122, 123, 124, 125, 126, 127, 128, 32, 149, 150, 151, 152, 153, 154, 155, 156, 157, 158, 159, 160, 161, 162, 163] (by decide +kernel) (by decide +kernel)
set_option maxRecDepth 20000 in
theorem gX3_test_X1_testHead : GoodIn wsX3_test (wsV RX3 74 RX1 yX1_testHead wsX1_testHead) := goodIn_app (goodIn_of _ (by decide +kernel)) ggX3_test_X1_testHead
set_option maxRecDepth 20000 in
theorem ggX3_test_X3_settle : GoodIn wsX3_test wsX3_settle := goodIn_r _ [132, 133, 10, 1, 134, 135, 136, 137, 138, 139, 140, 141, 142, 12, 13, 14, 15, 16, 17, 18, 19, 20, 21, 22, 23, 24, 25, 26, 27, 28, 29, 30, 31, 32, 33, 34, 11, 143, 144, 145, 146, 147, 148, 164, 165, 166, 149, 150, 151, 152, 153, 154, 155, 156, 157, 158, 159, 160, 161, 162, 163] (by decide +kernel) (by decide +kernel)
set_option maxRecDepth 20000 in
theorem gX3_test_X3_settle : GoodIn wsX3_test (wsV RX3 47 RX3 yX3_settle wsX3_settle) := goodIn_app (goodIn_of _ (by decide +kernel)) ggX3_test_X3_settle
set_option maxRecDepth 20000 in
theorem ggX3_perform_X0_parse : GoodIn wsX3_perform wsX0_parse := goodIn_r _ [7, 8, 9, 10, 11, 12, 6, 13, 14, 15, 16, 17, 18, 19, 20, 21, 22, 23, 24, 25, 26, 27, 28, 29, 30, 31, 32, 33, 34, 35, 36, 37, 190, 191, 192, 193, 194, 195] (by decide +kernel) (by decide +kernel)
set_option maxRecDepth 20000 in
theorem gX3_perform_X0_parse : GoodIn wsX3_perform (wsV RX3 77 RX0 yX0_parse wsX0_parse) := goodIn_app (goodIn_of _ (by decide +kernel)) ggX3_perform_X0_parse
set_option maxRecDepth 20000 in
theorem ggX3_perform_X3_startTrial : GoodIn wsX3_perform wsX3_startTrial := goodIn_r _ [42, 2, 43, 44, 45, 46, 47, 48, 49, 50, 51, 52, 53, 54, 55, 56, 57, 58, 59, 60, 61, 62, 63, 64, 65, 66, 67, 184, 185, 186, 187, 188, 189, 196, 197, 198, 199, 200, 201, 202, 203, 204, 205, 206, 207, 208, 209, 210] (by decide +kernel) (by decide +kernel)
set_option maxRecDepth 20000 in
theorem gX3_perform_X3_startTrial : GoodIn wsX3_perform (wsV RX3 40 RX3 yX3_startTrial wsX3_startTrial) := goodIn_app (goodIn_of _ (by decide +kernel)) ggX3_perform_X3_startTrial
set_option maxRecDepth 20000 in
theorem ggX3_perform_X0_commandCount : GoodIn wsX3_perform wsX0_commandCount := goodIn_r _ [71, 9, 190, 191, 192, 193, 194, 195] (by decide +kernel) (by decide +kernel)
set_option maxRecDepth 20000 in
theorem gX3_perform_X0_commandCount : GoodIn wsX3_perform (wsV RX3 81 RX0 yX0_commandCount wsX0_commandCount) := goodIn_app (goodIn_of _ (by decide +kernel)) ggX3_perform_X0_commandCount
set_option maxRecDepth 20000 in
theorem ggX3_perform_X0_commandSector : GoodIn wsX3_perform wsX0_commandSector := goodIn_r _ [75, 36, 190, 191, 192, 193, 194, 195] (by decide +kernel) (by decide +kernel)
set_option maxRecDepth 20000 in
theorem gX3_perform_X0_commandSector : GoodIn wsX3_perform (wsV RX3 84 RX0 yX0_commandSector wsX0_commandSector) := goodIn_app (goodIn_of _ (by decide +kernel)) ggX3_perform_X0_commandSector
set_option maxRecDepth 20000 in
theorem ggX3_perform_X0_commandValue : GoodIn wsX3_perform wsX0_commandValue := goodIn_r _ [79, 37, 190, 191, 192, 193, 194, 195] (by decide +kernel) (by decide +kernel)
set_option maxRecDepth 20000 in
theorem gX3_perform_X0_commandValue : GoodIn wsX3_perform (wsV RX3 87 RX0 yX0_commandValue wsX0_commandValue) := goodIn_app (goodIn_of _ (by decide +kernel)) ggX3_perform_X0_commandValue
set_option maxRecDepth 20000 in
theorem ggX3_perform_X1_readAt : GoodIn wsX3_perform wsX1_readAt := goodIn_r _ [83, 60, 66, 58, 84, 85, 86, 47, 87, 55, 88, 41, 89, 90, 91, 92, 93, 94, 95, 96, 97, 98, 99, 100, 101, 63, 62, 102, 103, 104, 105, 56, 106, 107, 108, 109, 110, 111, 112, 113, 114, 115, 116, 117, 57, 50, 118, 119, 120, 121, 64, 59, 122, 123, 124, 125, 49, 126, 127, 128, 129, 130, 131, 132, 133, 134, 135, 136, 137, 61, 138, 139, 140, 141, 142, 143, 144, 145, 146, 147, 148, 149, 150, 151, 152, 153, 154, 155, 156, 157, 158, 159, 160, 161, 162, 163, 164, 165, 65, 196, 197, 198, 199, 200, 201, 202, 203, 204, 205, 206, 207, 208, 209, 210] (by decide +kernel) (by decide +kernel)
set_option maxRecDepth 20000 in
theorem gX3_perform_X1_readAt : GoodIn wsX3_perform (wsV RX3 61 RX1 yX1_readAt wsX1_readAt) := goodIn_app (goodIn_of _ (by decide +kernel)) ggX3_perform_X1_readAt
set_option maxRecDepth 20000 in
theorem ggX3_perform_X1_writeAt : GoodIn wsX3_perform wsX1_writeAt := goodIn_r _ [169, 60, 58, 67, 84, 85, 86, 47, 87, 55, 88, 41, 89, 90, 91, 92, 93, 94, 95, 96, 97, 126, 127, 128, 129, 130, 131, 132, 133, 134, 135, 136, 137, 61, 56, 122, 123, 124, 125, 57, 49, 138, 139, 140, 141, 142, 143, 144, 145, 146, 147, 148, 149, 98, 99, 100, 101, 63, 62, 102, 103, 104, 105, 106, 107, 108, 109, 110, 111, 112, 113, 154, 155, 156, 157, 50, 118, 119, 120, 121, 64, 59, 150, 151, 152, 153, 158, 159, 160, 161, 162, 163, 164, 165, 65, 196, 197, 198, 199, 200, 201, 202, 203, 204, 205, 206, 207, 208, 209, 210] (by decide +kernel) (by decide +kernel)
set_option maxRecDepth 20000 in
theorem gX3_perform_X1_writeAt : GoodIn wsX3_perform (wsV RX3 64 RX1 yX1_writeAt wsX1_writeAt) := goodIn_app (goodIn_of _ (by decide +kernel)) ggX3_perform_X1_writeAt
set_option maxRecDepth 20000 in
theorem ggX3_perform_X3_settle : GoodIn wsX3_perform wsX3_settle := goodIn_r _ [173, 174, 43, 2, 175, 176, 177, 178, 179, 180, 181, 182, 183, 45, 46, 47, 48, 49, 50, 51, 52, 53, 54, 55, 56, 57, 58, 59, 60, 61, 62, 63, 64, 65, 66, 67, 44, 184, 185, 186, 187, 188, 189, 211, 212, 213, 196, 197, 198, 199, 200, 201, 202, 203, 204, 205, 206, 207, 208, 209, 210] (by decide +kernel) (by decide +kernel)
set_option maxRecDepth 20000 in
theorem gX3_perform_X3_settle : GoodIn wsX3_perform (wsV RX3 47 RX3 yX3_settle wsX3_settle) := goodIn_app (goodIn_of _ (by decide +kernel)) ggX3_perform_X3_settle
set_option maxRecDepth 20000 in
theorem ggX3_giveBack_X3_startTrial : GoodIn wsX3_giveBack wsX3_startTrial := goodIn_r _ [6, 1, 7, 8, 9, 10, 11, 12, 13, 14, 15, 16, 17, 18, 19, 20, 21, 22, 23, 24, 25, 26, 27, 28, 29, 30, 31, 104, 105, 106, 107, 108, 109, 110, 111, 112, 113, 114, 115, 116, 117, 118, 119, 120, 121, 122, 123, 124] (by decide +kernel) (by decide +kernel)
set_option maxRecDepth 20000 in
theorem gX3_giveBack_X3_startTrial : GoodIn wsX3_giveBack (wsV RX3 40 RX3 yX3_startTrial wsX3_startTrial) := goodIn_app (goodIn_of _ (by decide +kernel)) ggX3_giveBack_X3_startTrial
set_option maxRecDepth 20000 in
theorem ggX3_giveBack_X1_giveBackAt : GoodIn wsX3_giveBack wsX1_giveBackAt := goodIn_r _ [35, 20, 24, 36, 37, 38, 11, 39, 19, 40, 5, 41, 42, 43, 44, 45, 46, 47, 48, 49, 50, 51, 52, 53, 54, 55, 56, 57, 21, 13, 58, 59, 60, 61, 27, 26, 62, 63, 64, 65, 66, 67, 68, 69, 70, 71, 72, 73, 74, 75, 76, 77, 78, 79, 80, 81, 14, 82, 83, 84, 85, 25, 86, 87, 88, 89, 110, 111, 112, 113, 114, 115, 116, 117, 118, 119, 120, 121, 122, 123, 124] (by decide +kernel) (by decide +kernel)
set_option maxRecDepth 20000 in
theorem gX3_giveBack_X1_giveBackAt : GoodIn wsX3_giveBack (wsV RX3 90 RX1 yX1_giveBackAt wsX1_giveBackAt) := goodIn_app (goodIn_of _ (by decide +kernel)) ggX3_giveBack_X1_giveBackAt
set_option maxRecDepth 20000 in
theorem ggX3_giveBack_X3_settle : GoodIn wsX3_giveBack wsX3_settle := goodIn_r _ [93, 94, 7, 1, 95, 96, 97, 98, 99, 100, 101, 102, 103, 9, 10, 11, 12, 13, 14, 15, 16, 17, 18, 19, 20, 21, 22, 23, 24, 25, 26, 27, 28, 29, 30, 31, 8, 104, 105, 106, 107, 108, 109, 125, 126, 127, 110, 111, 112, 113, 114, 115, 116, 117, 118, 119, 120, 121, 122, 123, 124] (by decide +kernel) (by decide +kernel)
set_option maxRecDepth 20000 in
theorem gX3_giveBack_X3_settle : GoodIn wsX3_giveBack (wsV RX3 47 RX3 yX3_settle wsX3_settle) := goodIn_app (goodIn_of _ (by decide +kernel)) ggX3_giveBack_X3_settle
set_option maxRecDepth 20000 in
theorem ggX3_giveUp_X3_isHead : GoodIn wsX3_giveUp wsX3_isHead := goodIn_r _ [6] (by decide +kernel) (by decide +kernel)
set_option maxRecDepth 20000 in
theorem gX3_giveUp_X3_isHead : GoodIn wsX3_giveUp (va_wsS RX3 50 yX3_isHead wsX3_isHead) := goodIn_app (goodIn_of _ (by decide +kernel)) ggX3_giveUp_X3_isHead
set_option maxRecDepth 20000 in
theorem ggX3_giveUp_X1_othersAreGivenUp : GoodIn wsX3_giveUp wsX1_othersAreGivenUp := goodIn_r _ [11, 12, 121, 122, 123, 124, 125, 126, 127, 128, 129, 130, 131, 132, 133, 134, 135] (by decide +kernel) (by decide +kernel)
set_option maxRecDepth 20000 in
theorem gX3_giveUp_X1_othersAreGivenUp : GoodIn wsX3_giveUp (wsV RX3 93 RX1 yX1_othersAreGivenUp wsX1_othersAreGivenUp) := goodIn_app (goodIn_of _ (by decide +kernel)) ggX3_giveUp_X1_othersAreGivenUp
set_option maxRecDepth 20000 in
theorem ggX3_giveUp_X1_isGivenUp : GoodIn wsX3_giveUp wsX1_isGivenUp := goodIn_r _ [16, 12, 121, 122, 123, 124, 125, 126, 127, 128, 129, 130, 131, 132, 133, 134, 135] (by decide +kernel) (by decide +kernel)
set_option maxRecDepth 20000 in
theorem gX3_giveUp_X1_isGivenUp : GoodIn wsX3_giveUp (wsV RX3 96 RX1 yX1_isGivenUp wsX1_isGivenUp) := goodIn_app (goodIn_of _ (by decide +kernel)) ggX3_giveUp_X1_isGivenUp
set_option maxRecDepth 20000 in
theorem ggX3_giveUp_X3_startTrial : GoodIn wsX3_giveUp wsX3_startTrial := goodIn_r _ [20, 2, 1, 21, 22, 23, 10, 24, 25, 26, 27, 28, 29, 30, 31, 12, 32, 33, 34, 35, 36, 37, 38, 39, 40, 41, 42, 115, 116, 117, 118, 119, 120, 121, 122, 123, 124, 125, 126, 127, 128, 129, 130, 131, 132, 133, 134, 135] (by decide +kernel) (by decide +kernel)
set_option maxRecDepth 20000 in
theorem gX3_giveUp_X3_startTrial : GoodIn wsX3_giveUp (wsV RX3 40 RX3 yX3_startTrial wsX3_startTrial) := goodIn_app (goodIn_of _ (by decide +kernel)) ggX3_giveUp_X3_startTrial
set_option maxRecDepth 20000 in
theorem ggX3_giveUp_X1_vacate : GoodIn wsX3_giveUp wsX1_vacate := goodIn_r _ [46, 40, 12, 35, 47, 48, 49, 10, 50, 31, 51, 5, 52, 53, 54, 55, 56, 57, 58, 59, 60, 61, 62, 63, 64, 65, 66, 67, 68, 69, 70, 71, 72, 73, 74, 75, 76, 36, 77, 78, 79, 80, 32, 25, 81, 82, 83, 84, 85, 86, 87, 88, 89, 90, 91, 92, 93, 94, 95, 96, 97, 98, 99, 100, 26, 121, 122, 123, 124, 125, 126, 127, 128, 129, 130, 131, 132, 133, 134, 135] (by decide +kernel) (by decide +kernel)
set_option maxRecDepth 20000 in
theorem gX3_giveUp_X1_vacate : GoodIn wsX3_giveUp (wsV RX3 99 RX1 yX1_vacate wsX1_vacate) := goodIn_app (goodIn_of _ (by decide +kernel)) ggX3_giveUp_X1_vacate
set_option maxRecDepth 20000 in
theorem ggX3_giveUp_X3_settle : GoodIn wsX3_giveUp wsX3_settle := goodIn_r _ [104, 105, 1, 2, 106, 107, 108, 109, 110, 111, 112, 113, 114, 22, 23, 10, 24, 25, 26, 27, 28, 29, 30, 31, 12, 32, 33, 34, 35, 36, 37, 38, 39, 40, 41, 42, 21, 115, 116, 117, 118, 119, 120, 136, 137, 138, 121, 122, 123, 124, 125, 126, 127, 128, 129, 130, 131, 132, 133, 134, 135] (by decide +kernel) (by decide +kernel)
set_option maxRecDepth 20000 in
theorem gX3_giveUp_X3_settle : GoodIn wsX3_giveUp (wsV RX3 47 RX3 yX3_settle wsX3_settle) := goodIn_app (goodIn_of _ (by decide +kernel)) ggX3_giveUp_X3_settle
set_option maxRecDepth 20000 in
theorem ggX3_undo_X2_states : GoodIn wsX3_undo wsX2_states := goodIn_r _ [7, 8, 45, 46, 47] (by decide +kernel) (by decide +kernel)
set_option maxRecDepth 20000 in
theorem gX3_undo_X2_states : GoodIn wsX3_undo (wsV RX3 108 RX2 yX2_states wsX2_states) := goodIn_app (goodIn_of _ (by decide +kernel)) ggX3_undo_X2_states
set_option maxRecDepth 20000 in
theorem ggX3_undo_X2_takeBack : GoodIn wsX3_undo wsX2_takeBack := goodIn_r _ [12, 8, 13, 14, 15, 16, 17, 18, 19, 20, 21, 22, 23, 24, 25, 26, 27, 28, 29, 30, 31, 32, 33, 34, 35, 36, 37, 38, 45, 46, 47, 48, 49, 50, 51, 52, 53, 54, 55, 56, 57, 58, 59, 60, 61, 62] (by decide +kernel) (by decide +kernel)
set_option maxRecDepth 20000 in
theorem gX3_undo_X2_takeBack : GoodIn wsX3_undo (wsV RX3 111 RX2 yX2_takeBack wsX2_takeBack) := goodIn_app (goodIn_of _ (by decide +kernel)) ggX3_undo_X2_takeBack
set_option maxRecDepth 20000 in
theorem ggX3_restore_X1_takeOver : GoodIn wsX3_restore wsX1_takeOver := goodIn_r _ [8, 9, 10, 11, 12, 13, 14, 15, 16, 17, 18, 19, 20, 21, 22, 23, 24, 25, 26, 27, 54, 55, 56, 57, 58, 59, 60, 61, 62, 63, 64, 65, 66, 67, 68] (by decide +kernel) (by decide +kernel)
set_option maxRecDepth 20000 in
theorem gX3_restore_X1_takeOver : GoodIn wsX3_restore (wsV RX3 115 RX1 yX1_takeOver wsX1_takeOver) := goodIn_app (goodIn_of _ (by decide +kernel)) ggX3_restore_X1_takeOver
set_option maxRecDepth 20000 in
theorem ggX3_restore_X1_stepsSoFar : GoodIn wsX3_restore wsX1_stepsSoFar := goodIn_r _ [31, 23, 54, 55, 56, 57, 58, 59, 60, 61, 62, 63, 64, 65, 66, 67, 68] (by decide +kernel) (by decide +kernel)
set_option maxRecDepth 20000 in
theorem gX3_restore_X1_stepsSoFar : GoodIn wsX3_restore (wsV RX3 118 RX1 yX1_stepsSoFar wsX1_stepsSoFar) := goodIn_app (goodIn_of _ (by decide +kernel)) ggX3_restore_X1_stepsSoFar
set_option maxRecDepth 20000 in
theorem ggX3_restore_X3_settle : GoodIn wsX3_restore wsX3_settle := goodIn_r _ [36, 37, 38, 2, 39, 40, 41, 42, 43, 44, 45, 46, 47, 5, 6, 7, 8, 9, 10, 11, 12, 13, 14, 15, 16, 17, 18, 19, 20, 21, 22, 23, 24, 25, 26, 27, 4, 48, 49, 50, 51, 52, 53, 69, 70, 71, 54, 55, 56, 57, 58, 59, 60, 61, 62, 63, 64, 65, 66, 67, 68] (by decide +kernel) (by decide +kernel)
set_option maxRecDepth 20000 in
theorem gX3_restore_X3_settle : GoodIn wsX3_restore (wsV RX3 47 RX3 yX3_settle wsX3_settle) := goodIn_app (goodIn_of _ (by decide +kernel)) ggX3_restore_X3_settle
set_option maxRecDepth 20000 in
theorem ggX3_address_X1_isAddress : GoodIn wsX3_address wsX1_isAddress := goodIn_r _ [6, 7, 8, 9, 10, 11, 12, 13, 14, 73, 74, 75, 76, 77, 78, 79, 80, 81, 82, 83, 84, 85, 86, 87] (by decide +kernel) (by decide +kernel)
set_option maxRecDepth 20000 in
theorem gX3_address_X1_isAddress : GoodIn wsX3_address (wsV RX3 67 RX1 yX1_isAddress wsX1_isAddress) := goodIn_app (goodIn_of _ (by decide +kernel)) ggX3_address_X1_isAddress
set_option maxRecDepth 20000 in
theorem ggX3_address_X1_tellAddress : GoodIn wsX3_address wsX1_tellAddress := goodIn_r _ [18, 19, 20, 21, 22, 23, 24, 5, 25, 26, 27, 28, 29, 30, 31, 32, 33, 13, 9, 14, 34, 35, 36, 37, 38, 39, 40, 41, 7, 42, 43, 11, 12, 44, 45, 46, 47, 48, 49, 50, 51, 52, 53, 54, 55, 56, 57, 58, 59, 60, 61, 62, 63, 64, 65, 66, 73, 74, 75, 76, 77, 78, 79, 80, 81, 82, 83, 84, 85, 86, 87] (by decide +kernel) (by decide +kernel)
set_option maxRecDepth 20000 in
theorem gX3_address_X1_tellAddress : GoodIn wsX3_address (wsV RX3 121 RX1 yX1_tellAddress wsX1_tellAddress) := goodIn_app (goodIn_of _ (by decide +kernel)) ggX3_address_X1_tellAddress
set_option maxRecDepth 20000 in
theorem ggX3_sector_X3_isSector : GoodIn wsX3_sector wsX3_isSector := goodIn_r _ [5] (by decide +kernel) (by decide +kernel)
set_option maxRecDepth 20000 in
theorem gX3_sector_X3_isSector : GoodIn wsX3_sector (va_wsS RX3 124 yX3_isSector wsX3_isSector) := goodIn_app (goodIn_of _ (by decide +kernel)) ggX3_sector_X3_isSector
set_option maxRecDepth 20000 in
theorem ggX3_sector_X1_tellSector : GoodIn wsX3_sector wsX1_tellSector := goodIn_r _ [10, 11, 12, 13, 14, 15, 9, 16, 17, 18, 19, 20, 21, 22, 23, 24, 25, 26, 27, 28, 29, 30, 3, 4, 5, 31, 32, 33, 34, 35, 36, 37, 38, 39, 46, 47, 48, 49, 50, 51, 52, 53, 54, 55, 56, 57, 58, 59, 60] (by decide +kernel) (by decide +kernel)
set_option maxRecDepth 20000 in
theorem gX3_sector_X1_tellSector : GoodIn wsX3_sector (wsV RX3 127 RX1 yX1_tellSector wsX1_tellSector) := goodIn_app (goodIn_of _ (by decide +kernel)) ggX3_sector_X1_tellSector
set_option maxRecDepth 20000 in
theorem ggX3_head_X3_isHead : GoodIn wsX3_head wsX3_isHead := goodIn_r _ [5] (by decide +kernel) (by decide +kernel)
set_option maxRecDepth 20000 in
theorem gX3_head_X3_isHead : GoodIn wsX3_head (va_wsS RX3 50 yX3_isHead wsX3_isHead) := goodIn_app (goodIn_of _ (by decide +kernel)) ggX3_head_X3_isHead
set_option maxRecDepth 20000 in
theorem ggX3_head_X1_tellHead : GoodIn wsX3_head wsX1_tellHead := goodIn_r _ [10, 11, 12, 13, 14, 15, 16, 17, 18, 9, 19, 20, 21, 22, 23, 24, 4, 25, 26, 27, 28, 29, 30, 31, 32, 33, 34, 35, 36, 37, 38, 39, 40, 41, 42, 43, 44, 45, 46, 47, 48, 49, 50, 51, 52, 53, 54, 55, 56, 57, 58, 59, 60, 61, 68, 69, 70, 71, 72, 73, 74, 75, 76, 77, 78, 79, 80, 81, 82] (by decide +kernel) (by decide +kernel)
set_option maxRecDepth 20000 in
theorem gX3_head_X1_tellHead : GoodIn wsX3_head (wsV RX3 130 RX1 yX1_tellHead wsX1_tellHead) := goodIn_app (goodIn_of _ (by decide +kernel)) ggX3_head_X1_tellHead
set_option maxRecDepth 20000 in
theorem ggX3_readsLeft_X1_readsUntilChange : GoodIn wsX3_readsLeft wsX1_readsUntilChange := goodIn_r _ [6, 7, 8, 9, 10, 11, 12, 13, 5, 14, 15, 16, 17, 18, 19, 20, 21, 22, 23, 24, 25, 26, 27, 28, 29, 30, 31, 32, 33, 34, 35, 36, 37, 38, 39, 40, 41, 42, 43, 44, 45, 46, 47, 48, 55, 56, 57, 58, 59, 60, 61, 62, 63, 64, 65, 66, 67, 68, 69] (by decide +kernel) (by decide +kernel)
set_option maxRecDepth 20000 in
theorem gX3_readsLeft_X1_readsUntilChange : GoodIn wsX3_readsLeft (wsV RX3 133 RX1 yX1_readsUntilChange wsX1_readsUntilChange) := goodIn_app (goodIn_of _ (by decide +kernel)) ggX3_readsLeft_X1_readsUntilChange
set_option maxRecDepth 20000 in
theorem ggX3_wouldLose_X3_isHead : GoodIn wsX3_wouldLose wsX3_isHead := goodIn_r _ [6] (by decide +kernel) (by decide +kernel)
set_option maxRecDepth 20000 in
theorem gX3_wouldLose_X3_isHead : GoodIn wsX3_wouldLose (va_wsS RX3 50 yX3_isHead wsX3_isHead) := goodIn_app (goodIn_of _ (by decide +kernel)) ggX3_wouldLose_X3_isHead
set_option maxRecDepth 20000 in
theorem ggX3_wouldLose_X1_isGivenUp : GoodIn wsX3_wouldLose wsX1_isGivenUp := goodIn_r _ [11, 12, 103, 104, 105, 106, 107, 108, 109, 110, 111, 112, 113, 114, 115, 116, 117] (by decide +kernel) (by decide +kernel)
set_option maxRecDepth 20000 in
theorem gX3_wouldLose_X1_isGivenUp : GoodIn wsX3_wouldLose (wsV RX3 96 RX1 yX1_isGivenUp wsX1_isGivenUp) := goodIn_app (goodIn_of _ (by decide +kernel)) ggX3_wouldLose_X1_isGivenUp
set_option maxRecDepth 20000 in
theorem ggX3_wouldLose_X3_startTrial : GoodIn wsX3_wouldLose wsX3_startTrial := goodIn_r _ [16, 2, 1, 17, 18, 19, 10, 20, 21, 22, 23, 24, 25, 26, 27, 12, 28, 29, 30, 31, 32, 33, 34, 35, 36, 37, 38, 97, 98, 99, 100, 101, 102, 103, 104, 105, 106, 107, 108, 109, 110, 111, 112, 113, 114, 115, 116, 117] (by decide +kernel) (by decide +kernel)
set_option maxRecDepth 20000 in
theorem gX3_wouldLose_X3_startTrial : GoodIn wsX3_wouldLose (wsV RX3 40 RX3 yX3_startTrial wsX3_startTrial) := goodIn_app (goodIn_of _ (by decide +kernel)) ggX3_wouldLose_X3_startTrial
set_option maxRecDepth 20000 in
theorem ggX3_wouldLose_X1_vacate : GoodIn wsX3_wouldLose wsX1_vacate := goodIn_r _ [42, 36, 12, 31, 43, 44, 45, 10, 46, 27, 47, 5, 48, 49, 50, 51, 52, 53, 54, 55, 56, 57, 58, 59, 60, 61, 62, 63, 64, 65, 66, 67, 68, 69, 70, 71, 72, 32, 73, 74, 75, 76, 28, 21, 77, 78, 79, 80, 81, 82, 83, 84, 85, 86, 87, 88, 89, 90, 91, 92, 93, 94, 95, 96, 22, 103, 104, 105, 106, 107, 108, 109, 110, 111, 112, 113, 114, 115, 116, 117] (by decide +kernel) (by decide +kernel)
set_option maxRecDepth 20000 in
theorem gX3_wouldLose_X1_vacate : GoodIn wsX3_wouldLose (wsV RX3 99 RX1 yX1_vacate wsX1_vacate) := goodIn_app (goodIn_of _ (by decide +kernel)) ggX3_wouldLose_X1_vacate
set_option maxRecDepth 20000 in
theorem ggX3_worst_X1_addressOfRank : GoodIn wsX3_worst wsX1_addressOfRank := goodIn_r _ [6, 7, 8, 9, 5, 10, 11, 12, 13, 14, 15, 16, 17, 18, 19, 20, 21, 22, 23, 24, 25, 26, 27, 28, 29, 30, 31, 32, 39, 40, 41, 42, 43, 44, 45, 46, 47, 48, 49, 50, 51, 52, 53] (by decide +kernel) (by decide +kernel)
set_option maxRecDepth 20000 in
theorem gX3_worst_X1_addressOfRank : GoodIn wsX3_worst (wsV RX3 136 RX1 yX1_addressOfRank wsX1_addressOfRank) := goodIn_app (goodIn_of _ (by decide +kernel)) ggX3_worst_X1_addressOfRank
end
section
set_option maxRecDepth 20000 in
theorem ggX3_count_X2_states : GoodIn wsX3_count wsX2_states := goodIn_r _ [8, 9, 107, 108, 109] (by decide +kernel) (by decide +kernel)
set_option maxRecDepth 20000 in
theorem gX3_count_X2_states : GoodIn wsX3_count (wsV RX3 108 RX2 yX2_states wsX2_states) := goodIn_app (goodIn_of _ (by decide +kernel)) ggX3_count_X2_states
set_option maxRecDepth 20000 in
theorem ggX3_count_X0_length : GoodIn wsX3_count wsX0_length := goodIn_r _ [14, 15, 110, 111, 112, 113, 114, 115] (by decide +kernel) (by decide +kernel)
set_option maxRecDepth 20000 in
theorem gX3_count_X0_length : GoodIn wsX3_count (wsV RX3 139 RX0 yX0_length wsX0_length) := goodIn_app (goodIn_of _ (by decide +kernel)) ggX3_count_X0_length
set_option maxRecDepth 20000 in
theorem ggX3_count_X1_tellWhole : GoodIn wsX3_count wsX1_tellWhole := goodIn_r _ [20, 21, 22, 23, 24, 25, 26, 27, 28, 29, 30, 19, 31, 32, 33, 34, 35, 36, 37, 38, 39, 40, 41, 42, 43, 44, 45, 46, 47, 48, 49, 50, 51, 52, 53, 54, 55, 56, 57, 58, 59, 60, 61, 62, 63, 64, 65, 66, 67, 68, 69, 70, 71, 72, 73, 74, 75, 76, 77, 78, 79, 80, 81, 82, 83, 84, 85, 86, 87, 88, 89, 90, 91, 92, 93, 94, 95, 96, 97, 98, 99, 100, 116, 117, 118, 119, 120, 121, 122, 123, 124, 125, 126, 127, 128, 129, 130] (by decide +kernel) (by decide +kernel)
set_option maxRecDepth 20000 in
theorem gX3_count_X1_tellWhole : GoodIn wsX3_count (wsV RX3 142 RX1 yX1_tellWhole wsX1_tellWhole) := goodIn_app (goodIn_of _ (by decide +kernel)) ggX3_count_X1_tellWhole
set_option maxRecDepth 20000 in
theorem ggX3_startTrial_X1_takeOver : GoodIn wsX3_startTrial wsX1_takeOver := goodIn_r _ [7, 8, 9, 10, 11, 12, 13, 14, 15, 16, 17, 18, 19, 20, 21, 22, 23, 24, 25, 26, 33, 34, 35, 36, 37, 38, 39, 40, 41, 42, 43, 44, 45, 46, 47] (by decide +kernel) (by decide +kernel)
set_option maxRecDepth 20000 in
theorem gX3_startTrial_X1_takeOver : GoodIn wsX3_startTrial (wsV RX3 115 RX1 yX1_takeOver wsX1_takeOver) := goodIn_app (goodIn_of _ (by decide +kernel)) ggX3_startTrial_X1_takeOver
set_option maxRecDepth 20000 in
theorem ggX3_settle_X2_record : GoodIn wsX3_settle wsX2_record := goodIn_r _ [8, 9, 10, 11, 12, 13, 14, 15, 16, 17, 18, 19, 20, 21, 22, 23, 24, 25, 26, 27, 28, 29, 30, 31, 32, 33, 34, 35, 43, 44, 45, 46, 47, 48, 49, 50, 51, 52, 53, 54, 55, 56, 57, 58, 59, 60] (by decide +kernel) (by decide +kernel)
set_option maxRecDepth 20000 in
theorem gX3_settle_X2_record : GoodIn wsX3_settle (wsV RX3 145 RX2 yX2_record wsX2_record) := goodIn_app (goodIn_of _ (by decide +kernel)) ggX3_settle_X2_record
set_option maxRecDepth 20000 in
theorem ggX3_settle_X1_takeOver : GoodIn wsX3_settle wsX1_takeOver := goodIn_r _ [16, 17, 18, 19, 20, 21, 22, 23, 24, 25, 26, 27, 28, 29, 30, 31, 32, 33, 34, 35, 46, 47, 48, 49, 50, 51, 52, 53, 54, 55, 56, 57, 58, 59, 60] (by decide +kernel) (by decide +kernel)
set_option maxRecDepth 20000 in
theorem gX3_settle_X1_takeOver : GoodIn wsX3_settle (wsV RX3 115 RX1 yX1_takeOver wsX1_takeOver) := goodIn_app (goodIn_of _ (by decide +kernel)) ggX3_settle_X1_takeOver
set_option maxRecDepth 20000 in
theorem ggX3_stepsBetween_X3_placeOf : GoodIn wsX3_stepsBetween wsX3_placeOf := goodIn_r _ [8] (by decide +kernel) (by decide +kernel)
set_option maxRecDepth 20000 in
theorem gX3_stepsBetween_X3_placeOf : GoodIn wsX3_stepsBetween (va_wsS RX3 148 yX3_placeOf wsX3_placeOf) := goodIn_app (goodIn_of _ (by decide +kernel)) ggX3_stepsBetween_X3_placeOf
set_option maxRecDepth 20000 in
theorem ggX3_stepsBetween_X3_headOf : GoodIn wsX3_stepsBetween wsX3_headOf := goodIn_r _ [11] (by decide +kernel) (by decide +kernel)
set_option maxRecDepth 20000 in
theorem gX3_stepsBetween_X3_headOf : GoodIn wsX3_stepsBetween (va_wsS RX3 156 yX3_headOf wsX3_headOf) := goodIn_app (goodIn_of _ (by decide +kernel)) ggX3_stepsBetween_X3_headOf
set_option maxRecDepth 20000 in
theorem ggL_digest_X3_count : GoodIn wsL_digest wsX3_count := goodIn_r _ [9, 10, 11, 12, 13, 14, 15, 16, 17, 18, 19, 20, 21, 22, 23, 24, 25, 26, 27, 28, 29, 30, 31, 32, 33, 34, 35, 36, 37, 38, 39, 40, 41, 42, 43, 44, 45, 46, 47, 48, 49, 50, 51, 52, 53, 54, 55, 56, 57, 58, 8, 59, 60, 61, 62, 63, 64, 65, 66, 67, 68, 69, 70, 71, 72, 73, 74, 75, 76, 77, 78, 79, 80, 81, 82, 83, 84, 85, 86, 87, 88, 89, 90, 91, 92, 93, 94, 95, 96, 97, 98, 99, 100, 101, 102, 103, 104, 105, 106, 107, 108, 157, 158, 159, 160, 161, 162, 163, 164, 165, 166, 167, 168, 169, 170, 171, 172, 173, 174, 175, 176, 177, 178, 179, 180, 181, 182, 183, 184, 185, 186] (by decide +kernel) (by decide +kernel)
set_option maxRecDepth 20000 in
theorem gL_digest_X3_count : GoodIn wsL_digest (wsV RL 13 RX3 yX3_count wsX3_count) := goodIn_app (goodIn_of _ (by decide +kernel)) ggL_digest_X3_count
set_option maxRecDepth 20000 in
theorem ggL_digest_X3_sector : GoodIn wsL_digest wsX3_sector := goodIn_r _ [112, 12, 113, 103, 8, 104, 114, 115, 116, 28, 117, 66, 48, 87, 88, 89, 90, 62, 63, 64, 65, 30, 91, 92, 93, 94, 99, 100, 101, 102, 46, 60, 61, 58, 59, 54, 55, 56, 57, 47, 157, 158, 159, 160, 161, 162, 172, 173, 174, 175, 176, 177, 178, 179, 180, 181, 182, 183, 184, 185, 186] (by decide +kernel) (by decide +kernel)
set_option maxRecDepth 20000 in
theorem gL_digest_X3_sector : GoodIn wsL_digest (wsV RL 21 RX3 yX3_sector wsX3_sector) := goodIn_app (goodIn_of _ (by decide +kernel)) ggL_digest_X3_sector
set_option maxRecDepth 20000 in
theorem ggL_digest_X3_address : GoodIn wsL_digest wsX3_address := goodIn_r _ [121, 12, 122, 100, 101, 28, 102, 46, 103, 8, 104, 60, 61, 58, 59, 123, 124, 125, 126, 127, 49, 128, 75, 76, 77, 78, 105, 106, 107, 108, 129, 130, 131, 132, 133, 134, 135, 136, 54, 55, 56, 57, 48, 47, 62, 63, 64, 65, 66, 30, 50, 51, 52, 53, 137, 138, 139, 140, 31, 141, 142, 143, 144, 145, 146, 147, 148, 157, 158, 159, 160, 161, 162, 172, 173, 174, 175, 176, 177, 178, 179, 180, 181, 182, 183, 184, 185, 186] (by decide +kernel) (by decide +kernel)
set_option maxRecDepth 20000 in
theorem gL_digest_X3_address : GoodIn wsL_digest (wsV RL 27 RX3 yX3_address wsX3_address) := goodIn_app (goodIn_of _ (by decide +kernel)) ggL_digest_X3_address
set_option maxRecDepth 20000 in
theorem ggL_digest_X3_head : GoodIn wsL_digest wsX3_head := goodIn_r _ [152, 12, 153, 154, 8, 155, 156, 42, 43, 28, 44, 45, 46, 47, 48, 49, 50, 51, 52, 53, 54, 55, 56, 57, 58, 59, 60, 61, 62, 63, 64, 65, 66, 30, 67, 68, 69, 70, 71, 72, 73, 74, 75, 76, 77, 78, 79, 80, 81, 82, 83, 84, 85, 86, 87, 88, 89, 90, 91, 92, 93, 94, 157, 158, 159, 160, 161, 162, 172, 173, 174, 175, 176, 177, 178, 179, 180, 181, 182, 183, 184, 185, 186] (by decide +kernel) (by decide +kernel)
set_option maxRecDepth 20000 in
theorem gL_digest_X3_head : GoodIn wsL_digest (wsV RL 30 RX3 yX3_head wsX3_head) := goodIn_app (goodIn_of _ (by decide +kernel)) ggL_digest_X3_head
set_option maxRecDepth 20000 in
theorem ggL_sectors_X3_count : GoodIn wsL_sectors wsX3_count := goodIn_r _ [5, 6, 7, 8, 9, 10, 11, 12, 13, 14, 15, 16, 17, 18, 19, 20, 21, 22, 23, 24, 25, 26, 27, 28, 29, 30, 31, 32, 33, 34, 35, 36, 37, 38, 39, 40, 41, 42, 43, 44, 45, 46, 47, 48, 49, 50, 51, 52, 53, 54, 4, 55, 56, 57, 58, 59, 60, 61, 62, 63, 64, 65, 66, 67, 68, 69, 70, 71, 72, 73, 74, 75, 76, 77, 78, 79, 80, 81, 82, 83, 84, 85, 86, 87, 88, 89, 90, 91, 92, 93, 94, 95, 96, 97, 98, 99, 100, 101, 102, 103, 104, 153, 154, 155, 156, 157, 158, 159, 160, 161, 162, 163, 164, 165, 166, 167, 168, 169, 170, 171, 172, 173, 174, 175, 176, 177, 178, 179, 180, 181, 182] (by decide +kernel) (by decide +kernel)
set_option maxRecDepth 20000 in
theorem gL_sectors_X3_count : GoodIn wsL_sectors (wsV RL 13 RX3 yX3_count wsX3_count) := goodIn_app (goodIn_of _ (by decide +kernel)) ggL_sectors_X3_count
set_option maxRecDepth 20000 in
theorem ggL_sectors_X3_sector : GoodIn wsL_sectors wsX3_sector := goodIn_r _ [108, 8, 109, 99, 4, 100, 110, 111, 112, 24, 113, 62, 44, 83, 84, 85, 86, 58, 59, 60, 61, 26, 87, 88, 89, 90, 95, 96, 97, 98, 42, 56, 57, 54, 55, 50, 51, 52, 53, 43, 153, 154, 155, 156, 157, 158, 168, 169, 170, 171, 172, 173, 174, 175, 176, 177, 178, 179, 180, 181, 182] (by decide +kernel) (by decide +kernel)
set_option maxRecDepth 20000 in
theorem gL_sectors_X3_sector : GoodIn wsL_sectors (wsV RL 21 RX3 yX3_sector wsX3_sector) := goodIn_app (goodIn_of _ (by decide +kernel)) ggL_sectors_X3_sector
set_option maxRecDepth 20000 in
theorem ggL_sectors_X3_head : GoodIn wsL_sectors wsX3_head := goodIn_r _ [117, 8, 118, 119, 4, 120, 121, 38, 39, 24, 40, 41, 42, 43, 44, 45, 46, 47, 48, 49, 50, 51, 52, 53, 54, 55, 56, 57, 58, 59, 60, 61, 62, 26, 63, 64, 65, 66, 67, 68, 69, 70, 71, 72, 73, 74, 75, 76, 77, 78, 79, 80, 81, 82, 83, 84, 85, 86, 87, 88, 89, 90, 153, 154, 155, 156, 157, 158, 168, 169, 170, 171, 172, 173, 174, 175, 176, 177, 178, 179, 180, 181, 182] (by decide +kernel) (by decide +kernel)
set_option maxRecDepth 20000 in
theorem gL_sectors_X3_head : GoodIn wsL_sectors (wsV RL 30 RX3 yX3_head wsX3_head) := goodIn_app (goodIn_of _ (by decide +kernel)) ggL_sectors_X3_head
set_option maxRecDepth 20000 in
theorem ggL_sectors_X3_address : GoodIn wsL_sectors wsX3_address := goodIn_r _ [125, 8, 126, 96, 97, 24, 98, 42, 99, 4, 100, 56, 57, 54, 55, 127, 128, 129, 130, 131, 45, 132, 71, 72, 73, 74, 101, 102, 103, 104, 133, 134, 135, 136, 137, 138, 139, 140, 50, 51, 52, 53, 44, 43, 58, 59, 60, 61, 62, 26, 46, 47, 48, 49, 141, 142, 143, 144, 27, 145, 146, 147, 148, 149, 150, 151, 152, 153, 154, 155, 156, 157, 158, 168, 169, 170, 171, 172, 173, 174, 175, 176, 177, 178, 179, 180, 181, 182] (by decide +kernel) (by decide +kernel)
set_option maxRecDepth 20000 in
theorem gL_sectors_X3_address : GoodIn wsL_sectors (wsV RL 27 RX3 yX3_address wsX3_address) := goodIn_app (goodIn_of _ (by decide +kernel)) ggL_sectors_X3_address
set_option maxRecDepth 20000 in
theorem ggL_lends_X3_head : GoodIn wsL_lends wsX3_head := goodIn_r _ [5, 6, 7, 8, 4, 9, 10, 11, 12, 13, 14, 15, 16, 17, 18, 19, 20, 21, 22, 23, 24, 25, 26, 27, 28, 29, 30, 31, 32, 33, 34, 35, 36, 37, 38, 39, 40, 41, 42, 43, 44, 45, 46, 47, 48, 49, 50, 51, 52, 53, 54, 55, 56, 57, 58, 59, 60, 61, 62, 63, 64, 65, 81, 82, 83, 84, 85, 86, 87, 88, 89, 90, 91, 92, 93, 94, 95, 96, 97, 98, 99, 100, 101] (by decide +kernel) (by decide +kernel)
set_option maxRecDepth 20000 in
theorem gL_lends_X3_head : GoodIn wsL_lends (wsV RL 30 RX3 yX3_head wsX3_head) := goodIn_app (goodIn_of _ (by decide +kernel)) ggL_lends_X3_head
set_option maxRecDepth 20000 in
theorem ggL_lends_X3_sector : GoodIn wsL_lends wsX3_sector := goodIn_r _ [69, 6, 70, 71, 4, 72, 73, 74, 75, 13, 76, 36, 18, 58, 59, 60, 61, 32, 33, 34, 35, 37, 62, 63, 64, 65, 77, 78, 79, 80, 16, 30, 31, 28, 29, 24, 25, 26, 27, 17, 81, 82, 83, 84, 85, 86, 87, 88, 89, 90, 91, 92, 93, 94, 95, 96, 97, 98, 99, 100, 101] (by decide +kernel) (by decide +kernel)
set_option maxRecDepth 20000 in
theorem gL_lends_X3_sector : GoodIn wsL_lends (wsV RL 21 RX3 yX3_sector wsX3_sector) := goodIn_app (goodIn_of _ (by decide +kernel)) ggL_lends_X3_sector
set_option maxRecDepth 20000 in
theorem ggL_addresses_L_lends : GoodIn wsL_addresses wsL_lends := goodIn_r _ [4, 5, 6, 7, 8, 9, 10, 11, 12, 13, 14, 15, 16, 17, 18, 19, 20, 21, 22, 23, 24, 25, 26, 27, 28, 29, 30, 31, 32, 33, 34, 35, 36, 37, 38, 39, 40, 41, 42, 43, 44, 45, 46, 47, 48, 49, 50, 51, 52, 53, 54, 55, 56, 57, 58, 59, 60, 61, 62, 63, 64, 65, 66, 67, 68, 69, 70, 71, 72, 73, 74, 75, 76, 77, 78, 79, 80, 81, 82, 83, 84, 163, 164, 165, 166, 167, 168, 169, 170, 171, 172, 173, 174, 175, 176, 177, 178, 179, 180, 181, 182, 183] (by decide +kernel) (by decide +kernel)
set_option maxRecDepth 20000 in
theorem gL_addresses_L_lends : GoodIn wsL_addresses (va_wsS RL 33 yL_lends wsL_lends) := goodIn_app (goodIn_of _ (by decide +kernel)) ggL_addresses_L_lends
set_option maxRecDepth 20000 in
theorem ggL_addresses_X3_sector : GoodIn wsL_addresses wsX3_sector := goodIn_r _ [73, 10, 74, 75, 8, 76, 77, 78, 79, 17, 80, 40, 22, 62, 63, 64, 65, 36, 37, 38, 39, 41, 66, 67, 68, 69, 81, 82, 83, 84, 20, 34, 35, 32, 33, 28, 29, 30, 31, 21, 163, 164, 165, 166, 167, 168, 169, 170, 171, 172, 173, 174, 175, 176, 177, 178, 179, 180, 181, 182, 183] (by decide +kernel) (by decide +kernel)
set_option maxRecDepth 20000 in
theorem gL_addresses_X3_sector : GoodIn wsL_addresses (wsV RL 21 RX3 yX3_sector wsX3_sector) := goodIn_app (goodIn_of _ (by decide +kernel)) ggL_addresses_X3_sector
set_option maxRecDepth 20000 in
theorem ggL_addresses_X3_address : GoodIn wsL_addresses wsX3_address := goodIn_r _ [88, 10, 89, 82, 83, 17, 84, 20, 75, 8, 76, 34, 35, 32, 33, 90, 91, 92, 93, 94, 23, 95, 50, 51, 52, 53, 96, 97, 98, 99, 100, 101, 102, 103, 104, 105, 106, 107, 28, 29, 30, 31, 22, 21, 36, 37, 38, 39, 40, 41, 24, 25, 26, 27, 108, 109, 110, 111, 112, 113, 114, 115, 116, 117, 118, 119, 120, 163, 164, 165, 166, 167, 168, 169, 170, 171, 172, 173, 174, 175, 176, 177, 178, 179, 180, 181, 182, 183] (by decide +kernel) (by decide +kernel)
set_option maxRecDepth 20000 in
theorem gL_addresses_X3_address : GoodIn wsL_addresses (wsV RL 27 RX3 yX3_address wsX3_address) := goodIn_app (goodIn_of _ (by decide +kernel)) ggL_addresses_X3_address
set_option maxRecDepth 20000 in
theorem ggL_addresses_L_steps : GoodIn wsL_addresses wsL_steps := goodIn_r _ [123, 124, 125, 126, 8, 127, 128, 129, 10, 130, 131, 132, 133, 134, 135, 136, 137, 138, 139, 140, 141, 142, 143, 144, 17, 145, 41, 112, 146, 147, 148, 149, 150, 151, 152, 153, 154, 155, 15, 16, 18, 19, 20, 21, 22, 23, 24, 25, 26, 27, 28, 29, 30, 31, 32, 33, 34, 35, 36, 37, 38, 39, 40, 42, 43, 44, 45, 46, 47, 48, 49, 50, 51, 52, 53, 54, 55, 56, 57, 58, 59, 60, 61, 62, 63, 64, 65, 66, 67, 68, 69, 156, 157, 158, 159, 81, 82, 83, 84, 75, 76, 96, 97, 98, 99, 5, 6, 7, 9, 11, 12, 13, 14, 160, 161, 3, 162, 163, 164, 165, 166, 167, 168, 184, 185, 186, 187, 188, 189, 190, 191, 192, 169, 170, 171, 172, 173, 174, 175, 176, 177, 178, 179, 180, 181, 182, 183] (by decide +kernel) (by decide +kernel)
set_option maxRecDepth 20000 in
theorem gL_addresses_L_steps : GoodIn wsL_addresses (va_wsS RL 39 yL_steps wsL_steps) := goodIn_app (goodIn_of _ (by decide +kernel)) ggL_addresses_L_steps
set_option maxRecDepth 20000 in
theorem ggL_addresses_X3_head : GoodIn wsL_addresses wsX3_head := goodIn_r _ [9, 10, 11, 12, 8, 13, 14, 15, 16, 17, 18, 19, 20, 21, 22, 23, 24, 25, 26, 27, 28, 29, 30, 31, 32, 33, 34, 35, 36, 37, 38, 39, 40, 41, 42, 43, 44, 45, 46, 47, 48, 49, 50, 51, 52, 53, 54, 55, 56, 57, 58, 59, 60, 61, 62, 63, 64, 65, 66, 67, 68, 69, 163, 164, 165, 166, 167, 168, 169, 170, 171, 172, 173, 174, 175, 176, 177, 178, 179, 180, 181, 182, 183] (by decide +kernel) (by decide +kernel)
set_option maxRecDepth 20000 in
theorem gL_addresses_X3_head : GoodIn wsL_addresses (wsV RL 30 RX3 yX3_head wsX3_head) := goodIn_app (goodIn_of _ (by decide +kernel)) ggL_addresses_X3_head
set_option maxRecDepth 20000 in
theorem ggL_addresses_X3_count : GoodIn wsL_addresses wsX3_count := goodIn_r _ [127, 128, 129, 10, 130, 131, 132, 133, 134, 135, 136, 137, 138, 139, 140, 141, 142, 143, 144, 17, 145, 41, 112, 146, 147, 148, 149, 150, 151, 152, 153, 154, 155, 15, 16, 18, 19, 20, 21, 22, 23, 24, 25, 26, 27, 28, 29, 30, 31, 32, 8, 33, 34, 35, 36, 37, 38, 39, 40, 42, 43, 44, 45, 46, 47, 48, 49, 50, 51, 52, 53, 54, 55, 56, 57, 58, 59, 60, 61, 62, 63, 64, 65, 66, 67, 68, 69, 156, 157, 158, 159, 81, 82, 83, 84, 75, 76, 96, 97, 98, 99, 163, 164, 165, 166, 167, 168, 184, 185, 186, 187, 188, 189, 190, 191, 192, 169, 170, 171, 172, 173, 174, 175, 176, 177, 178, 179, 180, 181, 182, 183] (by decide +kernel) (by decide +kernel)
set_option maxRecDepth 20000 in
theorem gL_addresses_X3_count : GoodIn wsL_addresses (wsV RL 13 RX3 yX3_count wsX3_count) := goodIn_app (goodIn_of _ (by decide +kernel)) ggL_addresses_X3_count
set_option maxRecDepth 20000 in
theorem ggL_steps_X3_count : GoodIn wsL_steps wsX3_count := goodIn_r _ [5, 6, 7, 8, 9, 10, 11, 12, 13, 14, 15, 16, 17, 18, 19, 20, 21, 22, 23, 24, 25, 26, 27, 28, 29, 30, 31, 32, 33, 34, 35, 36, 37, 38, 39, 40, 41, 42, 43, 44, 45, 46, 47, 48, 49, 50, 51, 52, 53, 54, 4, 55, 56, 57, 58, 59, 60, 61, 62, 63, 64, 65, 66, 67, 68, 69, 70, 71, 72, 73, 74, 75, 76, 77, 78, 79, 80, 81, 82, 83, 84, 85, 86, 87, 88, 89, 90, 91, 92, 93, 94, 95, 96, 97, 98, 99, 100, 101, 102, 103, 104, 117, 118, 119, 120, 121, 122, 123, 124, 125, 126, 127, 128, 129, 130, 131, 132, 133, 134, 135, 136, 137, 138, 139, 140, 141, 142, 143, 144, 145, 146] (by decide +kernel) (by decide +kernel)
set_option maxRecDepth 20000 in
theorem gL_steps_X3_count : GoodIn wsL_steps (wsV RL 13 RX3 yX3_count wsX3_count) := goodIn_app (goodIn_of _ (by decide +kernel)) ggL_steps_X3_count
set_option maxRecDepth 20000 in
theorem ggL_steps_X3_head : GoodIn wsL_steps wsX3_head := goodIn_r _ [108, 8, 109, 110, 4, 111, 112, 38, 39, 24, 40, 41, 42, 43, 44, 45, 46, 47, 48, 49, 50, 51, 52, 53, 54, 55, 56, 57, 58, 59, 60, 61, 62, 26, 63, 64, 65, 66, 67, 68, 69, 70, 71, 72, 73, 74, 75, 76, 77, 78, 79, 80, 81, 82, 83, 84, 85, 86, 87, 88, 89, 90, 117, 118, 119, 120, 121, 122, 132, 133, 134, 135, 136, 137, 138, 139, 140, 141, 142, 143, 144, 145, 146] (by decide +kernel) (by decide +kernel)
set_option maxRecDepth 20000 in
theorem gL_steps_X3_head : GoodIn wsL_steps (wsV RL 30 RX3 yX3_head wsX3_head) := goodIn_app (goodIn_of _ (by decide +kernel)) ggL_steps_X3_head
set_option maxRecDepth 20000 in
theorem ggL_steps_L_apart : GoodIn wsL_steps wsL_apart := goodIn_r _ [116] (by decide +kernel) (by decide +kernel)
set_option maxRecDepth 20000 in
theorem gL_steps_L_apart : GoodIn wsL_steps (va_wsS RL 43 yL_apart wsL_apart) := goodIn_app (goodIn_of _ (by decide +kernel)) ggL_steps_L_apart
set_option maxRecDepth 20000 in
theorem ggL_worst_X3_worst : GoodIn wsL_worst wsX3_worst := goodIn_r _ [6, 7, 8, 9, 10, 11, 12, 13, 14, 15, 16, 17, 18, 19, 20, 21, 22, 5, 23, 24, 25, 26, 27, 28, 29, 30, 31, 32, 33, 34, 35, 36, 37, 162, 163, 164, 165, 166, 167, 168, 169, 170, 171, 172, 173, 174, 175, 176, 177, 178, 179, 180, 181, 182] (by decide +kernel) (by decide +kernel)
set_option maxRecDepth 20000 in
theorem gL_worst_X3_worst : GoodIn wsL_worst (wsV RL 48 RX3 yX3_worst wsX3_worst) := goodIn_app (goodIn_of _ (by decide +kernel)) ggL_worst_X3_worst
set_option maxRecDepth 20000 in
theorem ggL_worst_X3_count : GoodIn wsL_worst wsX3_count := goodIn_r _ [41, 42, 43, 7, 44, 45, 46, 47, 48, 49, 50, 51, 52, 53, 54, 55, 56, 57, 58, 11, 59, 60, 61, 62, 63, 64, 65, 66, 67, 68, 69, 70, 71, 72, 73, 74, 75, 21, 76, 77, 32, 78, 79, 80, 81, 82, 83, 84, 85, 26, 5, 27, 24, 25, 86, 87, 88, 89, 37, 90, 91, 92, 93, 94, 95, 96, 97, 28, 29, 30, 31, 98, 99, 100, 101, 102, 103, 104, 105, 106, 107, 108, 109, 110, 111, 112, 113, 114, 115, 116, 117, 17, 18, 19, 20, 22, 23, 118, 119, 120, 121, 162, 163, 164, 165, 166, 167, 183, 184, 185, 186, 187, 188, 189, 190, 191, 168, 169, 170, 171, 172, 173, 174, 175, 176, 177, 178, 179, 180, 181, 182] (by decide +kernel) (by decide +kernel)
set_option maxRecDepth 20000 in
theorem gL_worst_X3_count : GoodIn wsL_worst (wsV RL 13 RX3 yX3_count wsX3_count) := goodIn_app (goodIn_of _ (by decide +kernel)) ggL_worst_X3_count
set_option maxRecDepth 20000 in
theorem ggL_worst_X3_address : GoodIn wsL_worst wsX3_address := goodIn_r _ [125, 7, 126, 18, 19, 11, 20, 21, 22, 5, 23, 24, 25, 26, 27, 127, 128, 129, 130, 131, 32, 132, 28, 29, 30, 31, 118, 119, 120, 121, 133, 134, 135, 136, 137, 138, 139, 140, 82, 83, 84, 85, 77, 76, 86, 87, 88, 89, 37, 60, 78, 79, 80, 81, 141, 142, 143, 144, 61, 145, 146, 147, 148, 149, 150, 151, 152, 162, 163, 164, 165, 166, 167, 168, 169, 170, 171, 172, 173, 174, 175, 176, 177, 178, 179, 180, 181, 182] (by decide +kernel) (by decide +kernel)
set_option maxRecDepth 20000 in
theorem gL_worst_X3_address : GoodIn wsL_worst (wsV RL 27 RX3 yX3_address wsX3_address) := goodIn_app (goodIn_of _ (by decide +kernel)) ggL_worst_X3_address
set_option maxRecDepth 20000 in
theorem ggL_worst_X3_sector : GoodIn wsL_worst wsX3_sector := goodIn_r _ [156, 7, 157, 22, 5, 23, 158, 159, 160, 11, 161, 37, 77, 106, 107, 108, 109, 86, 87, 88, 89, 60, 110, 111, 112, 113, 17, 18, 19, 20, 21, 24, 25, 26, 27, 82, 83, 84, 85, 76, 162, 163, 164, 165, 166, 167, 168, 169, 170, 171, 172, 173, 174, 175, 176, 177, 178, 179, 180, 181, 182] (by decide +kernel) (by decide +kernel)
set_option maxRecDepth 20000 in
theorem gL_worst_X3_sector : GoodIn wsL_worst (wsV RL 21 RX3 yX3_sector wsX3_sector) := goodIn_app (goodIn_of _ (by decide +kernel)) ggL_worst_X3_sector
set_option maxRecDepth 20000 in
theorem ggL_reads_X3_address : GoodIn wsL_reads wsX3_address := goodIn_r _ [5, 6, 7, 8, 9, 10, 11, 12, 13, 4, 14, 15, 16, 17, 18, 19, 20, 21, 22, 23, 24, 25, 26, 27, 28, 29, 30, 31, 32, 33, 34, 35, 36, 37, 38, 39, 40, 41, 42, 43, 44, 45, 46, 47, 48, 49, 50, 51, 52, 53, 54, 55, 56, 57, 58, 59, 60, 61, 62, 63, 64, 65, 66, 67, 68, 69, 70, 222, 223, 224, 225, 226, 227, 228, 229, 230, 231, 232, 233, 234, 235, 236, 237, 238, 239, 240, 241, 242] (by decide +kernel) (by decide +kernel)
set_option maxRecDepth 20000 in
theorem gL_reads_X3_address : GoodIn wsL_reads (wsV RL 27 RX3 yX3_address wsX3_address) := goodIn_app (goodIn_of _ (by decide +kernel)) ggL_reads_X3_address
set_option maxRecDepth 20000 in
theorem ggL_reads_X3_count : GoodIn wsL_reads wsX3_count := goodIn_r _ [74, 75, 76, 6, 77, 78, 79, 80, 81, 82, 83, 84, 85, 86, 87, 88, 89, 90, 91, 10, 92, 53, 62, 93, 94, 95, 96, 97, 98, 99, 100, 101, 102, 103, 104, 105, 106, 12, 47, 46, 24, 54, 55, 56, 57, 42, 43, 44, 45, 17, 4, 18, 15, 16, 48, 49, 50, 51, 52, 107, 108, 109, 110, 111, 112, 113, 114, 26, 27, 28, 29, 115, 116, 117, 118, 119, 120, 121, 122, 123, 124, 125, 126, 127, 128, 129, 130, 131, 132, 133, 134, 135, 8, 9, 11, 13, 14, 30, 31, 32, 33, 222, 223, 224, 225, 226, 227, 243, 244, 245, 246, 247, 248, 249, 250, 251, 228, 229, 230, 231, 232, 233, 234, 235, 236, 237, 238, 239, 240, 241, 242] (by decide +kernel) (by decide +kernel)
set_option maxRecDepth 20000 in
theorem gL_reads_X3_count : GoodIn wsL_reads (wsV RL 13 RX3 yX3_count wsX3_count) := goodIn_app (goodIn_of _ (by decide +kernel)) ggL_reads_X3_count
set_option maxRecDepth 20000 in
theorem ggL_reads_L_low : GoodIn wsL_reads wsL_low := goodIn_r _ [139, 140] (by decide +kernel) (by decide +kernel)
set_option maxRecDepth 20000 in
theorem gL_reads_L_low : GoodIn wsL_reads (va_wsS RL 51 yL_low wsL_low) := goodIn_app (goodIn_of _ (by decide +kernel)) ggL_reads_L_low
set_option maxRecDepth 20000 in
theorem ggL_reads_X3_readsLeft : GoodIn wsL_reads wsX3_readsLeft := goodIn_r _ [144, 6, 145, 146, 147, 10, 148, 24, 53, 52, 106, 135, 8, 9, 11, 12, 13, 4, 14, 15, 16, 17, 18, 26, 27, 28, 29, 34, 35, 36, 37, 38, 39, 40, 41, 42, 43, 44, 45, 46, 47, 48, 49, 50, 51, 54, 55, 56, 57, 222, 223, 224, 225, 226, 227, 228, 229, 230, 231, 232, 233, 234, 235, 236, 237, 238, 239, 240, 241, 242] (by decide +kernel) (by decide +kernel)
set_option maxRecDepth 20000 in
theorem gL_reads_X3_readsLeft : GoodIn wsL_reads (wsV RL 54 RX3 yX3_readsLeft wsX3_readsLeft) := goodIn_app (goodIn_of _ (by decide +kernel)) ggL_reads_X3_readsLeft
set_option maxRecDepth 20000 in
theorem ggL_reads_X3_read : GoodIn wsL_reads wsX3_read := goodIn_r _ [152, 153, 154, 155, 156, 4, 157, 6, 158, 159, 160, 10, 161, 53, 106, 162, 163, 164, 165, 12, 47, 52, 23, 25, 24, 46, 62, 93, 94, 95, 96, 97, 166, 167, 168, 169, 135, 8, 9, 11, 13, 14, 15, 16, 17, 18, 26, 27, 28, 29, 170, 171, 172, 173, 58, 59, 60, 61, 63, 64, 65, 66, 67, 68, 69, 70, 174, 175, 176, 177, 178, 179, 180, 181, 48, 49, 50, 51, 34, 35, 36, 37, 38, 39, 40, 41, 42, 43, 44, 45, 54, 55, 56, 57, 182, 183, 184, 185, 186, 187, 188, 189, 190, 191, 192, 193, 194, 195, 196, 197, 127, 128, 129, 130, 198, 199, 200, 201, 202, 203, 204, 205, 75, 206, 207, 208, 80, 209, 82, 210, 211, 212, 222, 223, 224, 225, 226, 227, 228, 229, 230, 231, 232, 233, 234, 235, 236, 237, 238, 239, 240, 241, 242, 243, 244, 245] (by decide +kernel) (by decide +kernel)
set_option maxRecDepth 20000 in
theorem gL_reads_X3_read : GoodIn wsL_reads (wsV RL 57 RX3 yX3_read wsX3_read) := goodIn_app (goodIn_of _ (by decide +kernel)) ggL_reads_X3_read
set_option maxRecDepth 20000 in
theorem ggL_reads_X3_sector : GoodIn wsL_reads wsX3_sector := goodIn_r _ [216, 6, 217, 13, 4, 14, 218, 219, 220, 10, 221, 52, 46, 123, 124, 125, 126, 48, 49, 50, 51, 53, 127, 128, 129, 130, 135, 8, 9, 11, 12, 15, 16, 17, 18, 42, 43, 44, 45, 47, 222, 223, 224, 225, 226, 227, 228, 229, 230, 231, 232, 233, 234, 235, 236, 237, 238, 239, 240, 241, 242] (by decide +kernel) (by decide +kernel)
set_option maxRecDepth 20000 in
theorem gL_reads_X3_sector : GoodIn wsL_reads (wsV RL 21 RX3 yX3_sector wsX3_sector) := goodIn_app (goodIn_of _ (by decide +kernel)) ggL_reads_X3_sector
set_option maxRecDepth 20000 in
theorem ggL_writes_X3_address : GoodIn wsL_writes wsX3_address := goodIn_r _ [5, 6, 7, 8, 9, 10, 11, 12, 13, 4, 14, 15, 16, 17, 18, 19, 20, 21, 22, 23, 24, 25, 26, 27, 28, 29, 30, 31, 32, 33, 34, 35, 36, 37, 38, 39, 40, 41, 42, 43, 44, 45, 46, 47, 48, 49, 50, 51, 52, 53, 54, 55, 56, 57, 58, 59, 60, 61, 62, 63, 64, 65, 66, 67, 68, 69, 70, 196, 197, 198, 199, 200, 201, 202, 203, 204, 205, 206, 207, 208, 209, 210, 211, 212, 213, 214, 215, 216] (by decide +kernel) (by decide +kernel)
set_option maxRecDepth 20000 in
theorem gL_writes_X3_address : GoodIn wsL_writes (wsV RL 27 RX3 yX3_address wsX3_address) := goodIn_app (goodIn_of _ (by decide +kernel)) ggL_writes_X3_address
set_option maxRecDepth 20000 in
theorem ggL_writes_X3_count : GoodIn wsL_writes wsX3_count := goodIn_r _ [74, 75, 76, 6, 77, 78, 79, 80, 81, 82, 83, 84, 85, 86, 87, 88, 89, 90, 91, 10, 92, 53, 62, 93, 94, 95, 96, 97, 98, 99, 100, 101, 102, 103, 104, 105, 106, 12, 47, 46, 24, 54, 55, 56, 57, 42, 43, 44, 45, 17, 4, 18, 15, 16, 48, 49, 50, 51, 52, 107, 108, 109, 110, 111, 112, 113, 114, 26, 27, 28, 29, 115, 116, 117, 118, 119, 120, 121, 122, 123, 124, 125, 126, 127, 128, 129, 130, 131, 132, 133, 134, 135, 8, 9, 11, 13, 14, 30, 31, 32, 33, 196, 197, 198, 199, 200, 201, 217, 218, 219, 220, 221, 222, 223, 224, 225, 202, 203, 204, 205, 206, 207, 208, 209, 210, 211, 212, 213, 214, 215, 216] (by decide +kernel) (by decide +kernel)
set_option maxRecDepth 20000 in
theorem gL_writes_X3_count : GoodIn wsL_writes (wsV RL 13 RX3 yX3_count wsX3_count) := goodIn_app (goodIn_of _ (by decide +kernel)) ggL_writes_X3_count
set_option maxRecDepth 20000 in
theorem ggL_writes_X3_write : GoodIn wsL_writes wsX3_write := goodIn_r _ [139, 140, 141, 142, 143, 4, 144, 6, 145, 146, 147, 10, 148, 53, 106, 149, 150, 151, 152, 12, 47, 52, 23, 25, 24, 46, 62, 93, 94, 95, 96, 97, 153, 154, 155, 156, 135, 8, 9, 11, 13, 14, 15, 16, 17, 18, 26, 27, 28, 29, 34, 35, 36, 37, 38, 39, 40, 41, 42, 43, 44, 45, 48, 49, 50, 51, 54, 55, 56, 57, 157, 158, 159, 160, 161, 162, 163, 164, 165, 166, 167, 168, 58, 59, 60, 61, 63, 64, 65, 66, 67, 68, 69, 70, 169, 170, 171, 172, 173, 174, 175, 176, 177, 178, 179, 180, 127, 128, 129, 130, 181, 182, 183, 184, 185, 186, 187, 188, 75, 189, 190, 191, 80, 192, 82, 193, 194, 195, 196, 197, 198, 199, 200, 201, 202, 203, 204, 205, 206, 207, 208, 209, 210, 211, 212, 213, 214, 215, 216, 217, 218, 219] (by decide +kernel) (by decide +kernel)
set_option maxRecDepth 20000 in
theorem gL_writes_X3_write : GoodIn wsL_writes (wsV RL 60 RX3 yX3_write wsX3_write) := goodIn_app (goodIn_of _ (by decide +kernel)) ggL_writes_X3_write
set_option maxRecDepth 20000 in
theorem ggL_gives_X3_address : GoodIn wsL_gives wsX3_address := goodIn_r _ [5, 6, 7, 8, 9, 10, 11, 12, 13, 4, 14, 15, 16, 17, 18, 19, 20, 21, 22, 23, 24, 25, 26, 27, 28, 29, 30, 31, 32, 33, 34, 35, 36, 37, 38, 39, 40, 41, 42, 43, 44, 45, 46, 47, 48, 49, 50, 51, 52, 53, 54, 55, 56, 57, 58, 59, 60, 61, 62, 63, 64, 65, 66, 67, 68, 69, 70, 205, 206, 207, 208, 209, 210, 211, 212, 213, 214, 215, 216, 217, 218, 219, 220, 221, 222, 223, 224, 225] (by decide +kernel) (by decide +kernel)
set_option maxRecDepth 20000 in
theorem gL_gives_X3_address : GoodIn wsL_gives (wsV RL 27 RX3 yX3_address wsX3_address) := goodIn_app (goodIn_of _ (by decide +kernel)) ggL_gives_X3_address
set_option maxRecDepth 20000 in
theorem ggL_gives_X3_giveBack : GoodIn wsL_gives wsX3_giveBack := goodIn_r _ [74, 75, 76, 77, 78, 4, 79, 6, 80, 81, 82, 10, 83, 53, 84, 85, 86, 87, 88, 12, 47, 52, 23, 25, 24, 46, 62, 89, 90, 91, 92, 93, 94, 95, 96, 97, 98, 8, 9, 11, 13, 14, 15, 16, 17, 18, 30, 31, 32, 33, 26, 27, 28, 29, 48, 49, 50, 51, 99, 100, 101, 102, 58, 59, 60, 61, 63, 64, 65, 66, 67, 68, 69, 70, 103, 104, 105, 106, 107, 108, 109, 110, 111, 112, 113, 114, 115, 116, 117, 118, 119, 120, 121, 122, 123, 124, 125, 126, 127, 128, 129, 130, 131, 132, 205, 206, 207, 208, 209, 210, 211, 212, 213, 214, 215, 216, 217, 218, 219, 220, 221, 222, 223, 224, 225, 226, 227, 228] (by decide +kernel) (by decide +kernel)
set_option maxRecDepth 20000 in
theorem gL_gives_X3_giveBack : GoodIn wsL_gives (wsV RL 63 RX3 yX3_giveBack wsX3_giveBack) := goodIn_app (goodIn_of _ (by decide +kernel)) ggL_gives_X3_giveBack
set_option maxRecDepth 20000 in
theorem ggL_gives_X3_sector : GoodIn wsL_gives wsX3_sector := goodIn_r _ [136, 6, 137, 13, 4, 14, 138, 139, 140, 10, 141, 52, 46, 142, 143, 144, 145, 48, 49, 50, 51, 53, 146, 147, 148, 149, 98, 8, 9, 11, 12, 15, 16, 17, 18, 42, 43, 44, 45, 47, 205, 206, 207, 208, 209, 210, 211, 212, 213, 214, 215, 216, 217, 218, 219, 220, 221, 222, 223, 224, 225] (by decide +kernel) (by decide +kernel)
set_option maxRecDepth 20000 in
theorem gL_gives_X3_sector : GoodIn wsL_gives (wsV RL 21 RX3 yX3_sector wsX3_sector) := goodIn_app (goodIn_of _ (by decide +kernel)) ggL_gives_X3_sector
set_option maxRecDepth 20000 in
theorem ggL_gives_X3_count : GoodIn wsL_gives wsX3_count := goodIn_r _ [153, 123, 154, 6, 155, 156, 157, 127, 158, 129, 159, 160, 161, 162, 163, 164, 165, 166, 167, 10, 168, 53, 62, 89, 90, 91, 92, 93, 169, 170, 171, 172, 173, 174, 175, 176, 84, 12, 47, 46, 24, 54, 55, 56, 57, 42, 43, 44, 45, 17, 4, 18, 15, 16, 48, 49, 50, 51, 52, 177, 178, 179, 180, 181, 182, 183, 184, 26, 27, 28, 29, 185, 186, 187, 188, 189, 190, 191, 192, 142, 143, 144, 145, 146, 147, 148, 149, 193, 194, 195, 196, 98, 8, 9, 11, 13, 14, 30, 31, 32, 33, 205, 206, 207, 208, 209, 210, 226, 227, 228, 229, 230, 231, 232, 233, 234, 211, 212, 213, 214, 215, 216, 217, 218, 219, 220, 221, 222, 223, 224, 225] (by decide +kernel) (by decide +kernel)
set_option maxRecDepth 20000 in
theorem gL_gives_X3_count : GoodIn wsL_gives (wsV RL 13 RX3 yX3_count wsX3_count) := goodIn_app (goodIn_of _ (by decide +kernel)) ggL_gives_X3_count
set_option maxRecDepth 20000 in
theorem ggL_gives_X3_head : GoodIn wsL_gives wsX3_head := goodIn_r _ [200, 6, 201, 202, 4, 203, 204, 174, 175, 10, 176, 84, 12, 47, 46, 24, 54, 55, 56, 57, 42, 43, 44, 45, 17, 18, 15, 16, 48, 49, 50, 51, 52, 53, 177, 178, 179, 180, 181, 182, 183, 184, 26, 27, 28, 29, 185, 186, 187, 188, 189, 190, 191, 192, 142, 143, 144, 145, 146, 147, 148, 149, 205, 206, 207, 208, 209, 210, 211, 212, 213, 214, 215, 216, 217, 218, 219, 220, 221, 222, 223, 224, 225] (by decide +kernel) (by decide +kernel)
set_option maxRecDepth 20000 in
theorem gL_gives_X3_head : GoodIn wsL_gives (wsV RL 30 RX3 yX3_head wsX3_head) := goodIn_app (goodIn_of _ (by decide +kernel)) ggL_gives_X3_head
set_option maxRecDepth 20000 in
theorem ggL_drops_X3_wouldLose : GoodIn wsL_drops wsX3_wouldLose := goodIn_r _ [5, 6, 7, 8, 9, 4, 10, 11, 12, 13, 14, 15, 16, 17, 18, 19, 20, 21, 22, 23, 24, 25, 26, 27, 28, 29, 30, 31, 32, 33, 34, 35, 36, 37, 38, 39, 40, 41, 42, 43, 44, 45, 46, 47, 48, 49, 50, 51, 52, 53, 54, 55, 56, 57, 58, 59, 60, 61, 62, 63, 64, 65, 66, 67, 68, 69, 70, 71, 72, 73, 74, 75, 76, 77, 78, 79, 80, 81, 82, 83, 84, 85, 86, 87, 88, 89, 90, 91, 92, 93, 94, 95, 96, 97, 98, 99, 100, 187, 188, 189, 190, 191, 192, 193, 194, 195, 196, 197, 198, 199, 200, 201, 202, 203, 204, 205, 206, 207] (by decide +kernel) (by decide +kernel)
set_option maxRecDepth 20000 in
theorem gL_drops_X3_wouldLose : GoodIn wsL_drops (wsV RL 66 RX3 yX3_wouldLose wsX3_wouldLose) := goodIn_app (goodIn_of _ (by decide +kernel)) ggL_drops_X3_wouldLose
set_option maxRecDepth 20000 in
theorem ggL_drops_X3_count : GoodIn wsL_drops wsX3_count := goodIn_r _ [104, 105, 106, 6, 107, 108, 109, 110, 111, 112, 113, 114, 115, 116, 117, 118, 119, 120, 121, 14, 122, 25, 37, 38, 39, 40, 41, 42, 123, 124, 125, 126, 127, 128, 129, 130, 26, 31, 16, 36, 35, 81, 82, 83, 84, 73, 74, 75, 76, 55, 4, 56, 53, 54, 77, 78, 79, 80, 32, 131, 132, 133, 134, 135, 136, 137, 138, 57, 58, 59, 60, 139, 140, 141, 142, 143, 144, 145, 146, 147, 148, 149, 150, 151, 152, 153, 154, 155, 156, 157, 158, 47, 48, 49, 50, 51, 52, 159, 160, 161, 162, 187, 188, 189, 190, 191, 192, 208, 209, 210, 211, 212, 213, 214, 215, 216, 193, 194, 195, 196, 197, 198, 199, 200, 201, 202, 203, 204, 205, 206, 207] (by decide +kernel) (by decide +kernel)
set_option maxRecDepth 20000 in
theorem gL_drops_X3_count : GoodIn wsL_drops (wsV RL 13 RX3 yX3_count wsX3_count) := goodIn_app (goodIn_of _ (by decide +kernel)) ggL_drops_X3_count
set_option maxRecDepth 20000 in
theorem ggL_drops_X3_head : GoodIn wsL_drops wsX3_head := goodIn_r _ [166, 6, 8, 9, 4, 10, 167, 128, 129, 14, 130, 26, 31, 16, 36, 35, 81, 82, 83, 84, 73, 74, 75, 76, 55, 56, 53, 54, 77, 78, 79, 80, 32, 25, 131, 132, 133, 134, 135, 136, 137, 138, 57, 58, 59, 60, 139, 140, 141, 142, 143, 144, 145, 146, 147, 148, 149, 150, 151, 152, 153, 154, 187, 188, 189, 190, 191, 192, 193, 194, 195, 196, 197, 198, 199, 200, 201, 202, 203, 204, 205, 206, 207] (by decide +kernel) (by decide +kernel)
set_option maxRecDepth 20000 in
theorem gL_drops_X3_head : GoodIn wsL_drops (wsV RL 30 RX3 yX3_head wsX3_head) := goodIn_app (goodIn_of _ (by decide +kernel)) ggL_drops_X3_head
set_option maxRecDepth 20000 in
theorem ggL_drops_X3_giveUp : GoodIn wsL_drops wsX3_giveUp := goodIn_r _ [171, 6, 7, 8, 9, 4, 10, 172, 173, 174, 14, 175, 16, 11, 12, 13, 15, 17, 18, 19, 20, 21, 22, 23, 24, 25, 26, 27, 28, 29, 30, 31, 32, 33, 34, 35, 36, 37, 38, 39, 40, 41, 42, 43, 44, 45, 46, 47, 48, 49, 50, 51, 52, 53, 54, 55, 56, 57, 58, 59, 60, 61, 62, 63, 64, 65, 66, 67, 68, 69, 70, 71, 72, 73, 74, 75, 76, 77, 78, 79, 80, 81, 82, 83, 84, 85, 86, 87, 88, 89, 90, 91, 92, 93, 94, 95, 96, 97, 98, 99, 100, 176, 177, 178, 179, 105, 180, 181, 182, 110, 183, 112, 184, 185, 186, 187, 188, 189, 190, 191, 192, 193, 194, 195, 196, 197, 198, 199, 200, 201, 202, 203, 204, 205, 206, 207, 208, 209, 210] (by decide +kernel) (by decide +kernel)
set_option maxRecDepth 20000 in
theorem gL_drops_X3_giveUp : GoodIn wsL_drops (wsV RL 69 RX3 yX3_giveUp wsX3_giveUp) := goodIn_app (goodIn_of _ (by decide +kernel)) ggL_drops_X3_giveUp
set_option maxRecDepth 20000 in
theorem ggL_does_L_low : GoodIn wsL_does wsL_low := goodIn_r _ [4, 5] (by decide +kernel) (by decide +kernel)
set_option maxRecDepth 20000 in
theorem gL_does_L_low : GoodIn wsL_does (va_wsS RL 51 yL_low wsL_low) := goodIn_app (goodIn_of _ (by decide +kernel)) ggL_does_L_low
set_option maxRecDepth 20000 in
theorem ggL_does_L_reads : GoodIn wsL_does wsL_reads := goodIn_r _ [8, 9, 10, 11, 12, 13, 14, 15, 16, 17, 18, 19, 20, 21, 22, 23, 24, 25, 26, 27, 28, 29, 30, 31, 32, 33, 34, 35, 36, 37, 38, 39, 40, 41, 42, 43, 44, 45, 46, 47, 48, 49, 50, 51, 52, 53, 54, 55, 56, 57, 58, 59, 60, 61, 62, 63, 64, 65, 66, 67, 68, 69, 70, 71, 72, 73, 74, 75, 76, 77, 78, 79, 80, 81, 82, 83, 84, 85, 86, 87, 88, 89, 90, 91, 92, 93, 94, 95, 96, 97, 98, 99, 100, 101, 102, 103, 104, 105, 106, 107, 108, 109, 110, 111, 112, 113, 114, 115, 116, 117, 118, 119, 120, 121, 122, 123, 124, 125, 126, 127, 128, 129, 130, 131, 132, 133, 134, 135, 136, 137, 138, 139, 140, 141, 142, 143, 1, 2, 3, 4, 5, 144, 145, 146, 147, 148, 149, 150, 151, 152, 153, 154, 155, 156, 157, 158, 159, 160, 161, 162, 163, 164, 165, 166, 167, 168, 169, 170, 171, 172, 173, 174, 175, 176, 177, 178, 179, 180, 181, 182, 183, 184, 185, 186, 187, 188, 189, 190, 191, 192, 193, 194, 195, 196, 197, 198, 199, 200, 201, 202, 203, 204, 205, 206, 207, 208, 209, 210, 211, 212, 213, 214, 215, 216, 217, 218, 219, 220, 221, 222, 223, 224, 308, 309, 310, 311, 312, 313, 314, 315, 316, 317, 318, 319, 320, 321, 322, 323, 324, 325, 326, 327, 328, 329, 330, 331, 332, 333, 334, 335, 336, 337] (by decide +kernel) (by decide +kernel)
set_option maxRecDepth 20000 in
theorem gL_does_L_reads : GoodIn wsL_does (va_wsS RL 72 yL_reads wsL_reads) := goodIn_app (goodIn_of _ (by decide +kernel)) ggL_does_L_reads
set_option maxRecDepth 20000 in
theorem ggL_does_L_writes : GoodIn wsL_does wsL_writes := goodIn_r _ [227, 9, 10, 11, 12, 13, 14, 15, 16, 17, 18, 19, 20, 21, 22, 23, 24, 25, 26, 27, 28, 29, 30, 31, 32, 33, 34, 35, 36, 37, 38, 39, 40, 41, 42, 43, 44, 45, 46, 47, 48, 49, 50, 51, 52, 53, 54, 55, 56, 57, 58, 59, 60, 61, 62, 63, 64, 65, 66, 67, 68, 69, 70, 71, 72, 73, 74, 75, 76, 77, 78, 79, 80, 81, 82, 83, 84, 85, 86, 87, 88, 89, 90, 91, 92, 93, 94, 95, 96, 97, 98, 99, 100, 101, 102, 103, 104, 105, 106, 107, 108, 109, 110, 111, 112, 113, 114, 115, 116, 117, 118, 119, 120, 121, 122, 123, 124, 125, 126, 127, 128, 129, 130, 131, 132, 133, 134, 135, 136, 137, 138, 139, 140, 141, 142, 143, 228, 229, 230, 231, 156, 157, 158, 159, 160, 161, 162, 163, 164, 165, 166, 167, 168, 232, 233, 234, 235, 185, 186, 187, 188, 189, 190, 191, 192, 173, 174, 175, 176, 197, 198, 199, 200, 181, 182, 183, 184, 193, 194, 195, 196, 201, 202, 203, 204, 205, 206, 207, 208, 209, 210, 211, 212, 213, 214, 215, 308, 309, 310, 311, 312, 313, 314, 315, 316, 317, 318, 319, 320, 321, 322, 323, 324, 325, 326, 327, 328, 329, 330, 331, 332, 333, 334, 335, 336, 337] (by decide +kernel) (by decide +kernel)
set_option maxRecDepth 20000 in
theorem gL_does_L_writes : GoodIn wsL_does (va_wsS RL 76 yL_writes wsL_writes) := goodIn_app (goodIn_of _ (by decide +kernel)) ggL_does_L_writes
set_option maxRecDepth 20000 in
theorem ggL_does_X3_count : GoodIn wsL_does wsX3_count := goodIn_r _ [82, 83, 84, 14, 85, 86, 87, 88, 89, 90, 91, 92, 93, 94, 95, 96, 97, 98, 99, 18, 100, 61, 70, 101, 102, 103, 104, 105, 106, 107, 108, 109, 110, 111, 112, 113, 114, 20, 55, 54, 32, 62, 63, 64, 65, 50, 51, 52, 53, 25, 12, 26, 23, 24, 56, 57, 58, 59, 60, 115, 116, 117, 118, 119, 120, 121, 122, 34, 35, 36, 37, 123, 124, 125, 126, 127, 128, 129, 130, 131, 132, 133, 134, 135, 136, 137, 138, 139, 140, 141, 142, 143, 16, 17, 19, 21, 22, 38, 39, 40, 41, 308, 309, 310, 311, 312, 313, 329, 330, 331, 332, 333, 334, 335, 336, 337, 314, 315, 316, 317, 318, 319, 320, 321, 322, 323, 324, 325, 326, 327, 328] (by decide +kernel) (by decide +kernel)
set_option maxRecDepth 20000 in
theorem gL_does_X3_count : GoodIn wsL_does (wsV RL 13 RX3 yX3_count wsX3_count) := goodIn_app (goodIn_of _ (by decide +kernel)) ggL_does_X3_count
set_option maxRecDepth 20000 in
theorem ggL_does_X3_head : GoodIn wsL_does wsX3_head := goodIn_r _ [239, 14, 240, 241, 12, 242, 243, 111, 112, 18, 113, 114, 20, 55, 54, 32, 62, 63, 64, 65, 50, 51, 52, 53, 25, 26, 23, 24, 56, 57, 58, 59, 60, 61, 115, 116, 117, 118, 119, 120, 121, 122, 34, 35, 36, 37, 123, 124, 125, 126, 127, 128, 129, 130, 131, 132, 133, 134, 135, 136, 137, 138, 308, 309, 310, 311, 312, 313, 314, 315, 316, 317, 318, 319, 320, 321, 322, 323, 324, 325, 326, 327, 328] (by decide +kernel) (by decide +kernel)
set_option maxRecDepth 20000 in
theorem gL_does_X3_head : GoodIn wsL_does (wsV RL 30 RX3 yX3_head wsX3_head) := goodIn_app (goodIn_of _ (by decide +kernel)) ggL_does_X3_head
set_option maxRecDepth 20000 in
theorem ggL_does_X3_test : GoodIn wsL_does wsX3_test := goodIn_r _ [247, 156, 240, 241, 12, 242, 157, 158, 159, 160, 14, 161, 162, 163, 18, 164, 61, 114, 165, 166, 167, 168, 20, 55, 60, 31, 33, 32, 54, 70, 101, 102, 103, 104, 105, 248, 249, 250, 251, 119, 120, 121, 122, 34, 35, 36, 37, 252, 170, 171, 172, 143, 16, 17, 19, 21, 22, 23, 24, 25, 26, 173, 174, 175, 176, 66, 67, 68, 69, 71, 72, 73, 74, 75, 76, 77, 78, 177, 178, 179, 180, 181, 182, 183, 184, 56, 57, 58, 59, 42, 43, 44, 45, 46, 47, 48, 49, 50, 51, 52, 53, 62, 63, 64, 65, 185, 186, 187, 188, 189, 190, 191, 192, 193, 194, 195, 196, 197, 198, 199, 200, 135, 136, 137, 138, 201, 202, 203, 204, 205, 206, 207, 208, 83, 209, 210, 211, 88, 212, 90, 213, 214, 215, 308, 309, 310, 311, 312, 313, 314, 315, 316, 317, 318, 319, 320, 321, 322, 323, 324, 325, 326, 327, 328, 329, 330, 331] (by decide +kernel) (by decide +kernel)
set_option maxRecDepth 20000 in
theorem gL_does_X3_test : GoodIn wsL_does (wsV RL 79 RX3 yX3_test wsX3_test) := goodIn_app (goodIn_of _ (by decide +kernel)) ggL_does_X3_test
set_option maxRecDepth 20000 in
theorem ggL_does_L_gives : GoodIn wsL_does wsL_gives := goodIn_r _ [255, 9, 10, 11, 12, 13, 14, 15, 16, 17, 18, 19, 20, 21, 22, 23, 24, 25, 26, 27, 28, 29, 30, 31, 32, 33, 34, 35, 36, 37, 38, 39, 40, 41, 42, 43, 44, 45, 46, 47, 48, 49, 50, 51, 52, 53, 54, 55, 56, 57, 58, 59, 60, 61, 62, 63, 64, 65, 66, 67, 68, 69, 70, 71, 72, 73, 74, 75, 76, 77, 78, 256, 257, 258, 259, 156, 157, 158, 159, 160, 161, 162, 163, 164, 114, 165, 166, 167, 168, 101, 102, 103, 104, 105, 260, 261, 262, 263, 143, 173, 174, 175, 176, 193, 194, 195, 196, 197, 198, 199, 200, 185, 186, 187, 188, 189, 190, 191, 192, 205, 206, 207, 208, 83, 209, 210, 211, 88, 212, 90, 213, 214, 215, 216, 217, 218, 219, 220, 221, 222, 223, 224, 131, 132, 133, 134, 135, 136, 137, 138, 79, 80, 81, 82, 84, 85, 86, 87, 89, 91, 92, 93, 94, 95, 96, 97, 98, 99, 100, 106, 107, 108, 109, 110, 111, 112, 113, 115, 116, 117, 118, 119, 120, 121, 122, 123, 124, 125, 126, 127, 128, 129, 130, 139, 140, 141, 142, 236, 237, 238, 239, 240, 241, 242, 243, 308, 309, 310, 311, 312, 313, 314, 315, 316, 317, 318, 319, 320, 321, 322, 323, 324, 325, 326, 327, 328, 329, 330, 331, 332, 333, 334, 335, 336, 337] (by decide +kernel) (by decide +kernel)
set_option maxRecDepth 20000 in
theorem gL_does_L_gives : GoodIn wsL_does (va_wsS RL 82 yL_gives wsL_gives) := goodIn_app (goodIn_of _ (by decide +kernel)) ggL_does_L_gives
set_option maxRecDepth 20000 in
theorem ggL_does_L_drops : GoodIn wsL_does wsL_drops := goodIn_r _ [266, 267, 268, 269, 12, 270, 14, 156, 240, 241, 242, 271, 272, 273, 18, 274, 55, 157, 158, 159, 160, 161, 162, 163, 164, 61, 114, 165, 166, 167, 168, 20, 60, 31, 33, 32, 54, 70, 101, 102, 103, 104, 105, 275, 276, 277, 278, 143, 16, 17, 19, 21, 22, 23, 24, 25, 26, 34, 35, 36, 37, 279, 280, 281, 282, 42, 43, 44, 45, 46, 47, 48, 49, 50, 51, 52, 53, 56, 57, 58, 59, 62, 63, 64, 65, 201, 202, 203, 204, 189, 190, 191, 192, 185, 186, 187, 188, 197, 198, 199, 200, 79, 80, 81, 82, 83, 84, 85, 86, 87, 88, 89, 90, 91, 92, 93, 94, 95, 96, 97, 98, 99, 100, 106, 107, 108, 109, 110, 111, 112, 113, 115, 116, 117, 118, 119, 120, 121, 122, 123, 124, 125, 126, 127, 128, 129, 130, 131, 132, 133, 134, 135, 136, 137, 138, 139, 140, 141, 142, 38, 39, 40, 41, 236, 237, 238, 239, 243, 283, 284, 285, 286, 287, 288, 289, 290, 205, 206, 207, 208, 209, 210, 211, 212, 213, 214, 215, 308, 309, 310, 311, 312, 313, 314, 315, 316, 317, 318, 319, 320, 321, 322, 323, 324, 325, 326, 327, 328, 329, 330, 331, 332, 333, 334, 335, 336, 337] (by decide +kernel) (by decide +kernel)
set_option maxRecDepth 20000 in
theorem gL_does_L_drops : GoodIn wsL_does (va_wsS RL 86 yL_drops wsL_drops) := goodIn_app (goodIn_of _ (by decide +kernel)) ggL_does_L_drops
set_option maxRecDepth 20000 in
theorem ggL_does_X3_setLimit : GoodIn wsL_does wsX3_setLimit := goodIn_r _ [294, 156, 157, 158, 159, 12, 160, 14, 161, 162, 163, 18, 164, 61, 114, 165, 166, 167, 168, 20, 55, 60, 31, 33, 32, 54, 70, 101, 102, 103, 104, 105, 295, 296, 297, 298, 205, 206, 207, 208, 83, 209, 210, 211, 88, 212, 90, 213, 214, 215, 308, 309, 310, 311, 312, 313, 314, 315, 316, 317, 318, 319, 320, 321, 322, 323, 324, 325, 326, 327, 328, 329, 330, 331] (by decide +kernel) (by decide +kernel)
set_option maxRecDepth 20000 in
theorem gL_does_X3_setLimit : GoodIn wsL_does (wsV RL 89 RX3 yX3_setLimit wsX3_setLimit) := goodIn_app (goodIn_of _ (by decide +kernel)) ggL_does_X3_setLimit
set_option maxRecDepth 20000 in
theorem ggL_does_X3_sector : GoodIn wsL_does wsX3_sector := goodIn_r _ [219, 14, 220, 21, 12, 22, 221, 222, 223, 18, 224, 60, 54, 131, 132, 133, 134, 56, 57, 58, 59, 61, 135, 136, 137, 138, 143, 16, 17, 19, 20, 23, 24, 25, 26, 50, 51, 52, 53, 55, 308, 309, 310, 311, 312, 313, 314, 315, 316, 317, 318, 319, 320, 321, 322, 323, 324, 325, 326, 327, 328] (by decide +kernel) (by decide +kernel)
set_option maxRecDepth 20000 in
theorem gL_does_X3_sector : GoodIn wsL_does (wsV RL 21 RX3 yX3_sector wsX3_sector) := goodIn_app (goodIn_of _ (by decide +kernel)) ggL_does_X3_sector
set_option maxRecDepth 20000 in
theorem ggL_does_X3_copy : GoodIn wsL_does wsX3_copy := goodIn_r _ [302, 14, 156, 15, 16, 17, 18, 19, 20, 21, 12, 22, 23, 24, 25, 26, 157, 158, 159, 160, 161, 162, 163, 164, 61, 114, 165, 166, 167, 168, 55, 60, 31, 33, 32, 54, 70, 101, 102, 103, 104, 105, 303, 304, 305, 306, 252, 170, 171, 172, 143, 34, 35, 36, 37, 173, 174, 175, 176, 66, 67, 68, 69, 71, 72, 73, 74, 75, 76, 77, 78, 177, 178, 179, 180, 181, 182, 183, 184, 56, 57, 58, 59, 42, 43, 44, 45, 46, 47, 48, 49, 50, 51, 52, 53, 62, 63, 64, 65, 185, 186, 187, 188, 189, 190, 191, 192, 193, 194, 195, 196, 197, 198, 199, 200, 135, 136, 137, 138, 201, 202, 203, 204, 307, 233, 234, 235, 205, 206, 207, 208, 83, 209, 210, 211, 88, 212, 90, 213, 214, 215, 308, 309, 310, 311, 312, 313, 314, 315, 316, 317, 318, 319, 320, 321, 322, 323, 324, 325, 326, 327, 328, 329, 330, 331] (by decide +kernel) (by decide +kernel)
set_option maxRecDepth 20000 in
theorem gL_does_X3_copy : GoodIn wsL_does (wsV RL 92 RX3 yX3_copy wsX3_copy) := goodIn_app (goodIn_of _ (by decide +kernel)) ggL_does_X3_copy
set_option maxRecDepth 20000 in
theorem ggL_law_X3_init : GoodIn wsL_law wsX3_init := goodIn_r _ [6, 7, 8, 9, 10, 11, 12, 13, 14, 15, 16, 17, 18, 19, 20, 21, 22, 23, 24, 25, 26, 27, 28, 29, 30, 31, 32, 33, 34, 35, 36, 37, 38, 39, 40, 41, 42, 43, 44, 45, 46, 47, 48, 49, 50, 51, 52, 53, 54, 2, 55, 56, 57, 58, 59, 60, 61, 62, 63, 64, 65, 66, 67, 68, 69, 70, 71, 72, 73, 74, 75, 76, 77, 463, 464, 465, 466, 467, 468, 469, 470, 471, 472, 473, 474, 475, 476, 477, 457, 458, 459, 460, 461, 462, 478, 479, 480, 481, 482, 483, 484, 485, 486] (by decide +kernel) (by decide +kernel)
set_option maxRecDepth 20000 in
theorem gL_law_X3_init : GoodIn wsL_law (wsX3_init) := ggL_law_X3_init
set_option maxRecDepth 20000 in
theorem ggL_law_X3_undo : GoodIn wsL_law wsX3_undo := goodIn_r _ [81, 19, 13, 82, 83, 84, 18, 85, 67, 86, 87, 88, 89, 65, 66, 90, 91, 92, 12, 93, 29, 31, 94, 95, 96, 97, 32, 34, 35, 36, 37, 38, 39, 40, 41, 42, 43, 44, 45, 457, 458, 459, 460, 461, 462, 478, 479, 480, 463, 464, 465, 466, 467, 468, 469, 470, 471, 472, 473, 474, 475, 476, 477] (by decide +kernel) (by decide +kernel)
set_option maxRecDepth 20000 in
theorem gL_law_X3_undo : GoodIn wsL_law (wsV RL 96 RX3 yX3_undo wsX3_undo) := goodIn_app (goodIn_of _ (by decide +kernel)) ggL_law_X3_undo
set_option maxRecDepth 20000 in
theorem ggL_law_X3_restore : GoodIn wsL_law wsX3_restore := goodIn_r _ [101, 24, 14, 15, 102, 91, 92, 12, 93, 29, 31, 94, 95, 96, 97, 32, 34, 35, 36, 37, 38, 39, 40, 41, 42, 43, 44, 45, 103, 104, 105, 106, 107, 108, 109, 2, 110, 19, 13, 111, 112, 113, 18, 114, 67, 66, 65, 90, 457, 458, 459, 460, 461, 462, 463, 464, 465, 466, 467, 468, 469, 470, 471, 472, 473, 474, 475, 476, 477, 478, 479, 480] (by decide +kernel) (by decide +kernel)
set_option maxRecDepth 20000 in
theorem gL_law_X3_restore : GoodIn wsL_law (wsV RL 100 RX3 yX3_restore wsX3_restore) := goodIn_app (goodIn_of _ (by decide +kernel)) ggL_law_X3_restore
set_option maxRecDepth 20000 in
theorem ggL_law_X3_perform : GoodIn wsL_law wsX3_perform := goodIn_r _ [118, 23, 14, 119, 120, 121, 22, 122, 77, 76, 123, 124, 125, 126, 127, 128, 129, 130, 131, 132, 133, 134, 73, 72, 135, 136, 137, 138, 139, 140, 141, 142, 143, 144, 145, 146, 74, 75, 147, 148, 149, 2, 150, 13, 102, 91, 92, 12, 93, 29, 31, 94, 95, 96, 97, 32, 34, 35, 36, 37, 38, 39, 40, 41, 42, 43, 44, 45, 151, 152, 153, 154, 155, 156, 157, 158, 159, 160, 161, 162, 163, 164, 165, 166, 50, 51, 52, 53, 54, 55, 56, 57, 58, 59, 167, 168, 169, 170, 171, 172, 173, 174, 175, 176, 177, 178, 179, 180, 181, 182, 183, 184, 185, 186, 187, 188, 189, 190, 191, 192, 193, 194, 195, 196, 197, 198, 199, 200, 201, 202, 203, 204, 205, 206, 207, 208, 209, 210, 211, 212, 213, 214, 215, 216, 217, 218, 219, 220, 221, 222, 223, 224, 225, 226, 227, 228, 229, 230, 231, 232, 233, 234, 235, 236, 237, 238, 239, 240, 241, 242, 107, 108, 109, 110, 19, 111, 112, 113, 18, 114, 67, 66, 65, 90, 457, 458, 459, 460, 461, 462, 481, 482, 483, 484, 485, 486, 463, 464, 465, 466, 467, 468, 469, 470, 471, 472, 473, 474, 475, 476, 477, 478, 479, 480] (by decide +kernel) (by decide +kernel)
set_option maxRecDepth 20000 in
theorem gL_law_X3_perform : GoodIn wsL_law (wsV RL 103 RX3 yX3_perform wsX3_perform) := goodIn_app (goodIn_of _ (by decide +kernel)) ggL_law_X3_perform
set_option maxRecDepth 20000 in
theorem ggL_law_X3_count : GoodIn wsL_law wsX3_count := goodIn_r _ [246, 19, 23, 13, 82, 83, 84, 18, 85, 67, 247, 248, 249, 22, 250, 73, 251, 252, 253, 12, 254, 29, 40, 41, 42, 43, 44, 45, 255, 256, 257, 258, 259, 260, 261, 262, 31, 32, 34, 39, 38, 211, 212, 213, 214, 207, 208, 209, 210, 58, 2, 59, 56, 57, 195, 196, 197, 198, 35, 263, 264, 265, 266, 267, 268, 269, 270, 167, 168, 169, 170, 271, 272, 273, 274, 275, 276, 277, 278, 279, 280, 281, 282, 231, 232, 233, 234, 283, 284, 285, 286, 50, 51, 52, 53, 54, 55, 287, 288, 289, 290, 457, 458, 459, 460, 461, 462, 478, 479, 480, 481, 482, 483, 484, 485, 486, 463, 464, 465, 466, 467, 468, 469, 470, 471, 472, 473, 474, 475, 476, 477] (by decide +kernel) (by decide +kernel)
set_option maxRecDepth 20000 in
theorem gL_law_X3_count : GoodIn wsL_law (wsV RL 13 RX3 yX3_count wsX3_count) := goodIn_app (goodIn_of _ (by decide +kernel)) ggL_law_X3_count
set_option maxRecDepth 20000 in
theorem ggL_law_X3_address : GoodIn wsL_law wsX3_address := goodIn_r _ [294, 13, 295, 51, 52, 12, 53, 32, 54, 2, 55, 56, 57, 58, 59, 296, 297, 298, 299, 36, 38, 37, 167, 168, 169, 170, 287, 288, 289, 290, 199, 200, 201, 202, 203, 204, 205, 206, 207, 208, 209, 210, 39, 34, 195, 196, 197, 198, 35, 29, 211, 212, 213, 214, 175, 176, 177, 178, 40, 179, 180, 181, 182, 183, 184, 185, 186, 457, 458, 459, 460, 461, 462, 463, 464, 465, 466, 467, 468, 469, 470, 471, 472, 473, 474, 475, 476, 477] (by decide +kernel) (by decide +kernel)
set_option maxRecDepth 20000 in
theorem gL_law_X3_address : GoodIn wsL_law (wsV RL 27 RX3 yX3_address wsX3_address) := goodIn_app (goodIn_of _ (by decide +kernel)) ggL_law_X3_address
set_option maxRecDepth 20000 in
theorem ggL_law_X3_worst : GoodIn wsL_law wsX3_worst := goodIn_r _ [303, 13, 304, 305, 306, 12, 307, 308, 309, 310, 311, 50, 51, 52, 53, 32, 54, 2, 55, 56, 57, 58, 59, 167, 168, 169, 170, 38, 312, 313, 314, 315, 35, 457, 458, 459, 460, 461, 462, 463, 464, 465, 466, 467, 468, 469, 470, 471, 472, 473, 474, 475, 476, 477] (by decide +kernel) (by decide +kernel)
set_option maxRecDepth 20000 in
theorem gL_law_X3_worst : GoodIn wsL_law (wsV RL 48 RX3 yX3_worst wsX3_worst) := goodIn_app (goodIn_of _ (by decide +kernel)) ggL_law_X3_worst
set_option maxRecDepth 20000 in
theorem ggL_law_X3_head : GoodIn wsL_law wsX3_head := goodIn_r _ [319, 13, 320, 321, 2, 322, 323, 260, 261, 12, 262, 31, 32, 34, 39, 38, 211, 212, 213, 214, 207, 208, 209, 210, 58, 59, 56, 57, 195, 196, 197, 198, 35, 29, 263, 264, 265, 266, 267, 268, 269, 270, 167, 168, 169, 170, 271, 272, 273, 274, 275, 276, 277, 278, 279, 280, 281, 282, 231, 232, 233, 234, 457, 458, 459, 460, 461, 462, 463, 464, 465, 466, 467, 468, 469, 470, 471, 472, 473, 474, 475, 476, 477] (by decide +kernel) (by decide +kernel)
set_option maxRecDepth 20000 in
theorem gL_law_X3_head : GoodIn wsL_law (wsV RL 30 RX3 yX3_head wsX3_head) := goodIn_app (goodIn_of _ (by decide +kernel)) ggL_law_X3_head
set_option maxRecDepth 20000 in
theorem ggL_law_L_cell : GoodIn wsL_law wsL_cell := goodIn_r _ [327, 328] (by decide +kernel) (by decide +kernel)
set_option maxRecDepth 20000 in
theorem gL_law_L_cell : GoodIn wsL_law (va_wsS RL 106 yL_cell wsL_cell) := goodIn_app (goodIn_of _ (by decide +kernel)) ggL_law_L_cell
set_option maxRecDepth 20000 in
theorem ggL_law_L_low : GoodIn wsL_law wsL_low := goodIn_r _ [331, 332] (by decide +kernel) (by decide +kernel)
set_option maxRecDepth 20000 in
theorem gL_law_L_low : GoodIn wsL_law (va_wsS RL 51 yL_low wsL_low) := goodIn_app (goodIn_of _ (by decide +kernel)) ggL_law_L_low
set_option maxRecDepth 20000 in
theorem ggL_law_X3_setLimit : GoodIn wsL_law wsX3_setLimit := goodIn_r _ [336, 14, 147, 148, 149, 2, 150, 13, 102, 91, 92, 12, 93, 29, 31, 94, 95, 96, 97, 32, 34, 35, 36, 37, 38, 39, 40, 41, 42, 43, 44, 45, 337, 338, 339, 340, 107, 108, 109, 110, 19, 111, 112, 113, 18, 114, 67, 66, 65, 90, 457, 458, 459, 460, 461, 462, 463, 464, 465, 466, 467, 468, 469, 470, 471, 472, 473, 474, 475, 476, 477, 478, 479, 480] (by decide +kernel) (by decide +kernel)
set_option maxRecDepth 20000 in
theorem gL_law_X3_setLimit : GoodIn wsL_law (wsV RL 89 RX3 yX3_setLimit wsX3_setLimit) := goodIn_app (goodIn_of _ (by decide +kernel)) ggL_law_X3_setLimit
set_option maxRecDepth 20000 in
theorem ggL_law_L_digest : GoodIn wsL_law wsL_digest := goodIn_r _ [343, 344, 345, 346, 347, 243, 244, 245, 2, 246, 19, 23, 13, 82, 83, 84, 18, 85, 67, 247, 248, 249, 22, 250, 73, 251, 252, 253, 12, 254, 29, 40, 41, 42, 43, 44, 45, 255, 256, 257, 258, 259, 260, 261, 262, 31, 32, 34, 39, 38, 211, 212, 213, 214, 207, 208, 209, 210, 58, 59, 56, 57, 195, 196, 197, 198, 35, 263, 264, 265, 266, 267, 268, 269, 270, 167, 168, 169, 170, 271, 272, 273, 274, 275, 276, 277, 278, 279, 280, 281, 282, 231, 232, 233, 234, 283, 284, 285, 286, 50, 51, 52, 53, 54, 55, 287, 288, 289, 290, 348, 349, 350, 351, 352, 353, 354, 355, 356, 291, 292, 293, 294, 295, 296, 297, 298, 299, 36, 37, 199, 200, 201, 202, 203, 204, 205, 206, 175, 176, 177, 178, 179, 180, 181, 182, 183, 184, 185, 186, 316, 317, 318, 319, 320, 321, 322, 323, 457, 458, 459, 460, 461, 462, 478, 479, 480, 481, 482, 483, 484, 485, 486, 463, 464, 465, 466, 467, 468, 469, 470, 471, 472, 473, 474, 475, 476, 477] (by decide +kernel) (by decide +kernel)
set_option maxRecDepth 20000 in
theorem gL_law_L_digest : GoodIn wsL_law (va_wsS RL 111 yL_digest wsL_digest) := goodIn_app (goodIn_of _ (by decide +kernel)) ggL_law_L_digest
set_option maxRecDepth 20000 in
theorem ggL_law_L_does : GoodIn wsL_law wsL_does := goodIn_r _ [359, 329, 330, 326, 331, 332, 360, 361, 362, 291, 292, 293, 2, 294, 13, 295, 51, 52, 12, 53, 32, 54, 55, 56, 57, 58, 59, 296, 297, 298, 299, 36, 38, 37, 167, 168, 169, 170, 287, 288, 289, 290, 199, 200, 201, 202, 203, 204, 205, 206, 207, 208, 209, 210, 39, 34, 195, 196, 197, 198, 35, 29, 211, 212, 213, 214, 175, 176, 177, 178, 40, 179, 180, 181, 182, 183, 184, 185, 186, 243, 244, 245, 246, 19, 23, 82, 83, 84, 18, 85, 67, 247, 248, 249, 22, 250, 73, 251, 252, 253, 254, 41, 42, 43, 44, 45, 255, 256, 257, 258, 259, 260, 261, 262, 31, 263, 264, 265, 266, 267, 268, 269, 270, 271, 272, 273, 274, 275, 276, 277, 278, 279, 280, 281, 282, 231, 232, 233, 234, 283, 284, 285, 286, 50, 363, 364, 365, 366, 367, 368, 369, 370, 371, 372, 373, 374, 14, 147, 148, 149, 150, 102, 91, 92, 93, 94, 95, 96, 97, 163, 164, 165, 166, 171, 172, 173, 174, 187, 188, 189, 190, 191, 192, 193, 194, 215, 216, 217, 218, 219, 220, 221, 222, 223, 224, 225, 226, 227, 228, 229, 230, 235, 236, 237, 238, 107, 108, 109, 110, 111, 112, 113, 114, 66, 65, 90, 348, 349, 350, 351, 352, 353, 354, 355, 356, 375, 376, 377, 378, 379, 380, 381, 239, 240, 241, 242, 316, 317, 318, 319, 320, 321, 322, 323, 382, 383, 384, 385, 386, 387, 388, 389, 390, 391, 392, 393, 394, 395, 396, 397, 398, 399, 400, 401, 402, 403, 404, 405, 406, 407, 408, 409, 410, 411, 412, 413, 414, 415, 416, 417, 418, 419, 420, 421, 422, 423, 424, 425, 426, 427, 428, 333, 334, 335, 336, 337, 338, 339, 340, 429, 430, 431, 432, 433, 434, 435, 436, 437, 457, 458, 459, 460, 461, 462, 463, 464, 465, 466, 467, 468, 469, 470, 471, 472, 473, 474, 475, 476, 477, 478, 479, 480, 481, 482, 483, 484, 485, 486] (by decide +kernel) (by decide +kernel)
set_option maxRecDepth 20000 in
theorem gL_law_L_does : GoodIn wsL_law (va_wsS RL 115 yL_does wsL_does) := goodIn_app (goodIn_of _ (by decide +kernel)) ggL_law_L_does
set_option maxRecDepth 20000 in
theorem ggL_law_L_sectors : GoodIn wsL_law wsL_sectors := goodIn_r _ [440, 243, 244, 245, 2, 246, 19, 23, 13, 82, 83, 84, 18, 85, 67, 247, 248, 249, 22, 250, 73, 251, 252, 253, 12, 254, 29, 40, 41, 42, 43, 44, 45, 255, 256, 257, 258, 259, 260, 261, 262, 31, 32, 34, 39, 38, 211, 212, 213, 214, 207, 208, 209, 210, 58, 59, 56, 57, 195, 196, 197, 198, 35, 263, 264, 265, 266, 267, 268, 269, 270, 167, 168, 169, 170, 271, 272, 273, 274, 275, 276, 277, 278, 279, 280, 281, 282, 231, 232, 233, 234, 283, 284, 285, 286, 50, 51, 52, 53, 54, 55, 287, 288, 289, 290, 348, 349, 350, 351, 352, 353, 354, 355, 356, 316, 317, 318, 319, 320, 321, 322, 323, 291, 292, 293, 294, 295, 296, 297, 298, 299, 36, 37, 199, 200, 201, 202, 203, 204, 205, 206, 175, 176, 177, 178, 179, 180, 181, 182, 183, 184, 185, 186, 457, 458, 459, 460, 461, 462, 478, 479, 480, 481, 482, 483, 484, 485, 486, 463, 464, 465, 466, 467, 468, 469, 470, 471, 472, 473, 474, 475, 476, 477] (by decide +kernel) (by decide +kernel)
set_option maxRecDepth 20000 in
theorem gL_law_L_sectors : GoodIn wsL_law (va_wsS RL 119 yL_sectors wsL_sectors) := goodIn_app (goodIn_of _ (by decide +kernel)) ggL_law_L_sectors
set_option maxRecDepth 20000 in
theorem ggL_law_L_addresses : GoodIn wsL_law wsL_addresses := goodIn_r _ [443, 444, 445, 326, 446, 316, 317, 318, 2, 319, 13, 320, 321, 322, 323, 260, 261, 12, 262, 31, 32, 34, 39, 38, 211, 212, 213, 214, 207, 208, 209, 210, 58, 59, 56, 57, 195, 196, 197, 198, 35, 29, 263, 264, 265, 266, 267, 268, 269, 270, 167, 168, 169, 170, 271, 272, 273, 274, 275, 276, 277, 278, 279, 280, 281, 282, 231, 232, 233, 234, 348, 349, 350, 351, 352, 54, 55, 353, 354, 355, 356, 50, 51, 52, 53, 291, 292, 293, 294, 295, 296, 297, 298, 299, 36, 37, 287, 288, 289, 290, 199, 200, 201, 202, 203, 204, 205, 206, 175, 176, 177, 178, 40, 179, 180, 181, 182, 183, 184, 185, 186, 447, 448, 449, 243, 244, 245, 246, 19, 23, 82, 83, 84, 18, 85, 67, 247, 248, 249, 22, 250, 73, 251, 252, 253, 254, 41, 42, 43, 44, 45, 255, 256, 257, 258, 259, 283, 284, 285, 286, 450, 451, 452, 457, 458, 459, 460, 461, 462, 463, 464, 465, 466, 467, 468, 469, 470, 471, 472, 473, 474, 475, 476, 477, 478, 479, 480, 481, 482, 483, 484, 485, 486] (by decide +kernel) (by decide +kernel)
set_option maxRecDepth 20000 in
theorem gL_law_L_addresses : GoodIn wsL_law (va_wsS RL 123 yL_addresses wsL_addresses) := goodIn_app (goodIn_of _ (by decide +kernel)) ggL_law_L_addresses
set_option maxRecDepth 20000 in
theorem ggL_law_L_worst : GoodIn wsL_law wsL_worst := goodIn_r _ [455, 456, 300, 301, 302, 2, 303, 13, 304, 305, 306, 12, 307, 308, 309, 310, 311, 50, 51, 52, 53, 32, 54, 55, 56, 57, 58, 59, 167, 168, 169, 170, 38, 312, 313, 314, 315, 35, 243, 244, 245, 246, 19, 23, 82, 83, 84, 18, 85, 67, 247, 248, 249, 22, 250, 73, 251, 252, 253, 254, 29, 40, 41, 42, 43, 44, 45, 255, 256, 257, 258, 259, 260, 261, 262, 31, 34, 39, 211, 212, 213, 214, 207, 208, 209, 210, 195, 196, 197, 198, 263, 264, 265, 266, 267, 268, 269, 270, 271, 272, 273, 274, 275, 276, 277, 278, 279, 280, 281, 282, 231, 232, 233, 234, 283, 284, 285, 286, 287, 288, 289, 290, 291, 292, 293, 294, 295, 296, 297, 298, 299, 36, 37, 199, 200, 201, 202, 203, 204, 205, 206, 175, 176, 177, 178, 179, 180, 181, 182, 183, 184, 185, 186, 348, 349, 350, 351, 352, 353, 354, 355, 356, 457, 458, 459, 460, 461, 462, 463, 464, 465, 466, 467, 468, 469, 470, 471, 472, 473, 474, 475, 476, 477, 478, 479, 480, 481, 482, 483, 484, 485, 486] (by decide +kernel) (by decide +kernel)
set_option maxRecDepth 20000 in
theorem gL_law_L_worst : GoodIn wsL_law (va_wsS RL 126 yL_worst wsL_worst) := goodIn_app (goodIn_of _ (by decide +kernel)) ggL_law_L_worst
end
section
theorem dX0_init_0 : decode cX0_init 0 = .ok (.aload_n 0, 1) := by decide +kernel
theorem dX0_init_1 : decode cX0_init 1 = .ok (.invokespecial 3, 3) := by decide +kernel
theorem dX0_init_4 : decode cX0_init 4 = .ok (.aload_n 0, 1) := by decide +kernel
theorem dX0_init_5 : decode cX0_init 5 = .ok (.bipush 60, 2) := by decide +kernel
theorem dX0_init_7 : decode cX0_init 7 = .ok (.newarray .int, 2) := by decide +kernel
theorem dX0_init_9 : decode cX0_init 9 = .ok (.putfield 9, 3) := by decide +kernel
theorem dX0_init_12 : decode cX0_init 12 = .ok (.aload_n 0, 1) := by decide +kernel
theorem dX0_init_13 : decode cX0_init 13 = .ok (.iconst 0, 1) := by decide +kernel
theorem dX0_init_14 : decode cX0_init 14 = .ok (.putfield 15, 3) := by decide +kernel
theorem dX0_init_17 : decode cX0_init 17 = .ok (.aload_n 0, 1) := by decide +kernel
theorem dX0_init_18 : decode cX0_init 18 = .ok (.bipush 20, 2) := by decide +kernel
theorem dX0_init_20 : decode cX0_init 20 = .ok (.newarray .int, 2) := by decide +kernel
theorem dX0_init_22 : decode cX0_init 22 = .ok (.putfield 19, 3) := by decide +kernel
theorem dX0_init_25 : decode cX0_init 25 = .ok (.aload_n 0, 1) := by decide +kernel
theorem dX0_init_26 : decode cX0_init 26 = .ok (.bipush 20, 2) := by decide +kernel
theorem dX0_init_28 : decode cX0_init 28 = .ok (.newarray .int, 2) := by decide +kernel
theorem dX0_init_30 : decode cX0_init 30 = .ok (.putfield 22, 3) := by decide +kernel
theorem dX0_init_33 : decode cX0_init 33 = .ok (.aload_n 0, 1) := by decide +kernel
theorem dX0_init_34 : decode cX0_init 34 = .ok (.iconst 0, 1) := by decide +kernel
theorem dX0_init_35 : decode cX0_init 35 = .ok (.putfield 25, 3) := by decide +kernel
theorem dX0_init_38 : decode cX0_init 38 = .ok (.aload_n 0, 1) := by decide +kernel
theorem dX0_init_39 : decode cX0_init 39 = .ok (.iconst 0, 1) := by decide +kernel
theorem dX0_init_40 : decode cX0_init 40 = .ok (.putfield 28, 3) := by decide +kernel
theorem dX0_init_43 : decode cX0_init 43 = .ok (.return_, 1) := by decide +kernel
theorem dX0_length_0 : decode cX0_length 0 = .ok (.aload_n 0, 1) := by decide +kernel
theorem dX0_length_1 : decode cX0_length 1 = .ok (.getfield 15, 3) := by decide +kernel
theorem dX0_length_4 : decode cX0_length 4 = .ok (.ireturn, 1) := by decide +kernel
theorem dX0_commandCount_0 : decode cX0_commandCount 0 = .ok (.aload_n 0, 1) := by decide +kernel
theorem dX0_commandCount_1 : decode cX0_commandCount 1 = .ok (.getfield 25, 3) := by decide +kernel
theorem dX0_commandCount_4 : decode cX0_commandCount 4 = .ok (.ireturn, 1) := by decide +kernel
theorem dX0_commandSector_0 : decode cX0_commandSector 0 = .ok (.aload_n 0, 1) := by decide +kernel
theorem dX0_commandSector_1 : decode cX0_commandSector 1 = .ok (.getfield 19, 3) := by decide +kernel
theorem dX0_commandSector_4 : decode cX0_commandSector 4 = .ok (.iload_n 1, 1) := by decide +kernel
theorem dX0_commandSector_5 : decode cX0_commandSector 5 = .ok (.iaload, 1) := by decide +kernel
theorem dX0_commandSector_6 : decode cX0_commandSector 6 = .ok (.ireturn, 1) := by decide +kernel
theorem dX0_commandValue_0 : decode cX0_commandValue 0 = .ok (.aload_n 0, 1) := by decide +kernel
theorem dX0_commandValue_1 : decode cX0_commandValue 1 = .ok (.getfield 22, 3) := by decide +kernel
theorem dX0_commandValue_4 : decode cX0_commandValue 4 = .ok (.iload_n 1, 1) := by decide +kernel
theorem dX0_commandValue_5 : decode cX0_commandValue 5 = .ok (.iaload, 1) := by decide +kernel
theorem dX0_commandValue_6 : decode cX0_commandValue 6 = .ok (.ireturn, 1) := by decide +kernel
theorem dX0_parse_0 : decode cX0_parse 0 = .ok (.aload_n 0, 1) := by decide +kernel
theorem dX0_parse_1 : decode cX0_parse 1 = .ok (.iconst 0, 1) := by decide +kernel
theorem dX0_parse_2 : decode cX0_parse 2 = .ok (.putfield 28, 3) := by decide +kernel
theorem dX0_parse_5 : decode cX0_parse 5 = .ok (.aload_n 0, 1) := by decide +kernel
theorem dX0_parse_6 : decode cX0_parse 6 = .ok (.iconst 0, 1) := by decide +kernel
theorem dX0_parse_7 : decode cX0_parse 7 = .ok (.putfield 25, 3) := by decide +kernel
theorem dX0_parse_10 : decode cX0_parse 10 = .ok (.iconst 0, 1) := by decide +kernel
theorem dX0_parse_11 : decode cX0_parse 11 = .ok (.istore_n 1, 1) := by decide +kernel
theorem dX0_parse_12 : decode cX0_parse 12 = .ok (.iload_n 1, 1) := by decide +kernel
theorem dX0_parse_13 : decode cX0_parse 13 = .ok (.bipush 20, 2) := by decide +kernel
theorem dX0_parse_15 : decode cX0_parse 15 = .ok (.if_icmp .ge 46, 3) := by decide +kernel
theorem dX0_parse_18 : decode cX0_parse 18 = .ok (.aload_n 0, 1) := by decide +kernel
theorem dX0_parse_19 : decode cX0_parse 19 = .ok (.invokevirtual 31, 3) := by decide +kernel
theorem dX0_parse_22 : decode cX0_parse 22 = .ok (.ifCond .ne 8, 3) := by decide +kernel
theorem dX0_parse_25 : decode cX0_parse 25 = .ok (.aload_n 0, 1) := by decide +kernel
theorem dX0_parse_26 : decode cX0_parse 26 = .ok (.getfield 28, 3) := by decide +kernel
theorem dX0_parse_29 : decode cX0_parse 29 = .ok (.ireturn, 1) := by decide +kernel
theorem dX0_parse_30 : decode cX0_parse 30 = .ok (.aload_n 0, 1) := by decide +kernel
theorem dX0_parse_31 : decode cX0_parse 31 = .ok (.invokevirtual 35, 3) := by decide +kernel
theorem dX0_parse_34 : decode cX0_parse 34 = .ok (.iconst (-1), 1) := by decide +kernel
theorem dX0_parse_35 : decode cX0_parse 35 = .ok (.if_icmp .ne 6, 3) := by decide +kernel
theorem dX0_parse_38 : decode cX0_parse 38 = .ok (.bipush (-5), 2) := by decide +kernel
theorem dX0_parse_40 : decode cX0_parse 40 = .ok (.ireturn, 1) := by decide +kernel
theorem dX0_parse_41 : decode cX0_parse 41 = .ok (.aload_n 0, 1) := by decide +kernel
theorem dX0_parse_42 : decode cX0_parse 42 = .ok (.bipush 59, 2) := by decide +kernel
theorem dX0_parse_44 : decode cX0_parse 44 = .ok (.invokevirtual 39, 3) := by decide +kernel
theorem dX0_parse_47 : decode cX0_parse 47 = .ok (.ifCond .ne 8, 3) := by decide +kernel
theorem dX0_parse_50 : decode cX0_parse 50 = .ok (.aload_n 0, 1) := by decide +kernel
theorem dX0_parse_51 : decode cX0_parse 51 = .ok (.getfield 28, 3) := by decide +kernel
theorem dX0_parse_54 : decode cX0_parse 54 = .ok (.ireturn, 1) := by decide +kernel
theorem dX0_parse_55 : decode cX0_parse 55 = .ok (.iinc 1 1, 3) := by decide +kernel
theorem dX0_parse_58 : decode cX0_parse 58 = .ok (.goto (-46), 3) := by decide +kernel
theorem dX0_parse_61 : decode cX0_parse 61 = .ok (.aload_n 0, 1) := by decide +kernel
theorem dX0_parse_62 : decode cX0_parse 62 = .ok (.getfield 28, 3) := by decide +kernel
theorem dX0_parse_65 : decode cX0_parse 65 = .ok (.ireturn, 1) := by decide +kernel
theorem dX0_takeCommand_0 : decode cX0_takeCommand 0 = .ok (.aload_n 0, 1) := by decide +kernel
theorem dX0_takeCommand_1 : decode cX0_takeCommand 1 = .ok (.bipush 119, 2) := by decide +kernel
theorem dX0_takeCommand_3 : decode cX0_takeCommand 3 = .ok (.invokevirtual 39, 3) := by decide +kernel
theorem dX0_takeCommand_6 : decode cX0_takeCommand 6 = .ok (.istore_n 1, 1) := by decide +kernel
theorem dX0_takeCommand_7 : decode cX0_takeCommand 7 = .ok (.iload_n 1, 1) := by decide +kernel
theorem dX0_takeCommand_8 : decode cX0_takeCommand 8 = .ok (.ifCond .ne 14, 3) := by decide +kernel
theorem dX0_takeCommand_11 : decode cX0_takeCommand 11 = .ok (.aload_n 0, 1) := by decide +kernel
theorem dX0_takeCommand_12 : decode cX0_takeCommand 12 = .ok (.bipush 114, 2) := by decide +kernel
theorem dX0_takeCommand_14 : decode cX0_takeCommand 14 = .ok (.invokevirtual 39, 3) := by decide +kernel
theorem dX0_takeCommand_17 : decode cX0_takeCommand 17 = .ok (.ifCond .ne 5, 3) := by decide +kernel
theorem dX0_takeCommand_20 : decode cX0_takeCommand 20 = .ok (.iconst 0, 1) := by decide +kernel
theorem dX0_takeCommand_21 : decode cX0_takeCommand 21 = .ok (.ireturn, 1) := by decide +kernel
theorem dX0_takeCommand_22 : decode cX0_takeCommand 22 = .ok (.aload_n 0, 1) := by decide +kernel
theorem dX0_takeCommand_23 : decode cX0_takeCommand 23 = .ok (.bipush 63, 2) := by decide +kernel
theorem dX0_takeCommand_25 : decode cX0_takeCommand 25 = .ok (.invokevirtual 43, 3) := by decide +kernel
theorem dX0_takeCommand_28 : decode cX0_takeCommand 28 = .ok (.istore_n 2, 1) := by decide +kernel
theorem dX0_takeCommand_29 : decode cX0_takeCommand 29 = .ok (.iload_n 2, 1) := by decide +kernel
theorem dX0_takeCommand_30 : decode cX0_takeCommand 30 = .ok (.bipush (-5), 2) := by decide +kernel
theorem dX0_takeCommand_32 : decode cX0_takeCommand 32 = .ok (.if_icmp .ne 5, 3) := by decide +kernel
theorem dX0_takeCommand_35 : decode cX0_takeCommand 35 = .ok (.iconst 0, 1) := by decide +kernel
theorem dX0_takeCommand_36 : decode cX0_takeCommand 36 = .ok (.ireturn, 1) := by decide +kernel
theorem dX0_takeCommand_37 : decode cX0_takeCommand 37 = .ok (.bipush (-5), 2) := by decide +kernel
theorem dX0_takeCommand_39 : decode cX0_takeCommand 39 = .ok (.istore_n 3, 1) := by decide +kernel
theorem dX0_takeCommand_40 : decode cX0_takeCommand 40 = .ok (.iload_n 1, 1) := by decide +kernel
theorem dX0_takeCommand_41 : decode cX0_takeCommand 41 = .ok (.ifCond .eq 30, 3) := by decide +kernel
theorem dX0_takeCommand_44 : decode cX0_takeCommand 44 = .ok (.aload_n 0, 1) := by decide +kernel
theorem dX0_takeCommand_45 : decode cX0_takeCommand 45 = .ok (.bipush 61, 2) := by decide +kernel
theorem dX0_takeCommand_47 : decode cX0_takeCommand 47 = .ok (.invokevirtual 39, 3) := by decide +kernel
theorem dX0_takeCommand_50 : decode cX0_takeCommand 50 = .ok (.ifCond .ne 5, 3) := by decide +kernel
theorem dX0_takeCommand_53 : decode cX0_takeCommand 53 = .ok (.iconst 0, 1) := by decide +kernel
theorem dX0_takeCommand_54 : decode cX0_takeCommand 54 = .ok (.ireturn, 1) := by decide +kernel
theorem dX0_takeCommand_55 : decode cX0_takeCommand 55 = .ok (.aload_n 0, 1) := by decide +kernel
theorem dX0_takeCommand_56 : decode cX0_takeCommand 56 = .ok (.sipush 999, 3) := by decide +kernel
theorem dX0_takeCommand_59 : decode cX0_takeCommand 59 = .ok (.invokevirtual 43, 3) := by decide +kernel
theorem dX0_takeCommand_62 : decode cX0_takeCommand 62 = .ok (.istore_n 3, 1) := by decide +kernel
theorem dX0_takeCommand_63 : decode cX0_takeCommand 63 = .ok (.iload_n 3, 1) := by decide +kernel
theorem dX0_takeCommand_64 : decode cX0_takeCommand 64 = .ok (.bipush (-5), 2) := by decide +kernel
theorem dX0_takeCommand_66 : decode cX0_takeCommand 66 = .ok (.if_icmp .ne 5, 3) := by decide +kernel
theorem dX0_takeCommand_69 : decode cX0_takeCommand 69 = .ok (.iconst 0, 1) := by decide +kernel
theorem dX0_takeCommand_70 : decode cX0_takeCommand 70 = .ok (.ireturn, 1) := by decide +kernel
theorem dX0_takeCommand_71 : decode cX0_takeCommand 71 = .ok (.aload_n 0, 1) := by decide +kernel
theorem dX0_takeCommand_72 : decode cX0_takeCommand 72 = .ok (.iload_n 2, 1) := by decide +kernel
theorem dX0_takeCommand_73 : decode cX0_takeCommand 73 = .ok (.iload_n 3, 1) := by decide +kernel
theorem dX0_takeCommand_74 : decode cX0_takeCommand 74 = .ok (.invokevirtual 47, 3) := by decide +kernel
theorem dX0_takeCommand_77 : decode cX0_takeCommand 77 = .ok (.iconst 1, 1) := by decide +kernel
theorem dX0_takeCommand_78 : decode cX0_takeCommand 78 = .ok (.ireturn, 1) := by decide +kernel
theorem dX0_addCommand_0 : decode cX0_addCommand 0 = .ok (.aload_n 0, 1) := by decide +kernel
theorem dX0_addCommand_1 : decode cX0_addCommand 1 = .ok (.getfield 25, 3) := by decide +kernel
theorem dX0_addCommand_4 : decode cX0_addCommand 4 = .ok (.bipush 20, 2) := by decide +kernel
theorem dX0_addCommand_6 : decode cX0_addCommand 6 = .ok (.if_icmp .ge 33, 3) := by decide +kernel
theorem dX0_addCommand_9 : decode cX0_addCommand 9 = .ok (.aload_n 0, 1) := by decide +kernel
theorem dX0_addCommand_10 : decode cX0_addCommand 10 = .ok (.getfield 19, 3) := by decide +kernel
theorem dX0_addCommand_13 : decode cX0_addCommand 13 = .ok (.aload_n 0, 1) := by decide +kernel
theorem dX0_addCommand_14 : decode cX0_addCommand 14 = .ok (.getfield 25, 3) := by decide +kernel
theorem dX0_addCommand_17 : decode cX0_addCommand 17 = .ok (.iload_n 1, 1) := by decide +kernel
theorem dX0_addCommand_18 : decode cX0_addCommand 18 = .ok (.iastore, 1) := by decide +kernel
theorem dX0_addCommand_19 : decode cX0_addCommand 19 = .ok (.aload_n 0, 1) := by decide +kernel
theorem dX0_addCommand_20 : decode cX0_addCommand 20 = .ok (.getfield 22, 3) := by decide +kernel
theorem dX0_addCommand_23 : decode cX0_addCommand 23 = .ok (.aload_n 0, 1) := by decide +kernel
theorem dX0_addCommand_24 : decode cX0_addCommand 24 = .ok (.getfield 25, 3) := by decide +kernel
theorem dX0_addCommand_27 : decode cX0_addCommand 27 = .ok (.iload_n 2, 1) := by decide +kernel
theorem dX0_addCommand_28 : decode cX0_addCommand 28 = .ok (.iastore, 1) := by decide +kernel
theorem dX0_addCommand_29 : decode cX0_addCommand 29 = .ok (.aload_n 0, 1) := by decide +kernel
theorem dX0_addCommand_30 : decode cX0_addCommand 30 = .ok (.dup, 1) := by decide +kernel
theorem dX0_addCommand_31 : decode cX0_addCommand 31 = .ok (.getfield 25, 3) := by decide +kernel
theorem dX0_addCommand_34 : decode cX0_addCommand 34 = .ok (.iconst 1, 1) := by decide +kernel
theorem dX0_addCommand_35 : decode cX0_addCommand 35 = .ok (.iadd, 1) := by decide +kernel
theorem dX0_addCommand_36 : decode cX0_addCommand 36 = .ok (.putfield 25, 3) := by decide +kernel
theorem dX0_addCommand_39 : decode cX0_addCommand 39 = .ok (.return_, 1) := by decide +kernel
theorem dX0_takeNumber_0 : decode cX0_takeNumber 0 = .ok (.aload_n 0, 1) := by decide +kernel
theorem dX0_takeNumber_1 : decode cX0_takeNumber 1 = .ok (.aload_n 0, 1) := by decide +kernel
theorem dX0_takeNumber_2 : decode cX0_takeNumber 2 = .ok (.getfield 28, 3) := by decide +kernel
theorem dX0_takeNumber_5 : decode cX0_takeNumber 5 = .ok (.invokevirtual 51, 3) := by decide +kernel
theorem dX0_takeNumber_8 : decode cX0_takeNumber 8 = .ok (.istore_n 2, 1) := by decide +kernel
theorem dX0_takeNumber_9 : decode cX0_takeNumber 9 = .ok (.iload_n 2, 1) := by decide +kernel
theorem dX0_takeNumber_10 : decode cX0_takeNumber 10 = .ok (.bipush (-5), 2) := by decide +kernel
theorem dX0_takeNumber_12 : decode cX0_takeNumber 12 = .ok (.if_icmp .ne 6, 3) := by decide +kernel
theorem dX0_takeNumber_15 : decode cX0_takeNumber 15 = .ok (.bipush (-5), 2) := by decide +kernel
theorem dX0_takeNumber_17 : decode cX0_takeNumber 17 = .ok (.ireturn, 1) := by decide +kernel
theorem dX0_takeNumber_18 : decode cX0_takeNumber 18 = .ok (.aload_n 0, 1) := by decide +kernel
theorem dX0_takeNumber_19 : decode cX0_takeNumber 19 = .ok (.dup, 1) := by decide +kernel
theorem dX0_takeNumber_20 : decode cX0_takeNumber 20 = .ok (.getfield 28, 3) := by decide +kernel
theorem dX0_takeNumber_23 : decode cX0_takeNumber 23 = .ok (.iconst 1, 1) := by decide +kernel
theorem dX0_takeNumber_24 : decode cX0_takeNumber 24 = .ok (.iadd, 1) := by decide +kernel
theorem dX0_takeNumber_25 : decode cX0_takeNumber 25 = .ok (.putfield 28, 3) := by decide +kernel
theorem dX0_takeNumber_28 : decode cX0_takeNumber 28 = .ok (.aload_n 0, 1) := by decide +kernel
theorem dX0_takeNumber_29 : decode cX0_takeNumber 29 = .ok (.getfield 28, 3) := by decide +kernel
theorem dX0_takeNumber_32 : decode cX0_takeNumber 32 = .ok (.aload_n 0, 1) := by decide +kernel
theorem dX0_takeNumber_33 : decode cX0_takeNumber 33 = .ok (.getfield 15, 3) := by decide +kernel
theorem dX0_takeNumber_36 : decode cX0_takeNumber 36 = .ok (.if_icmp .ge 54, 3) := by decide +kernel
theorem dX0_takeNumber_39 : decode cX0_takeNumber 39 = .ok (.iload_n 2, 1) := by decide +kernel
theorem dX0_takeNumber_40 : decode cX0_takeNumber 40 = .ok (.ifCond .le 50, 3) := by decide +kernel
theorem dX0_takeNumber_43 : decode cX0_takeNumber 43 = .ok (.aload_n 0, 1) := by decide +kernel
theorem dX0_takeNumber_44 : decode cX0_takeNumber 44 = .ok (.aload_n 0, 1) := by decide +kernel
theorem dX0_takeNumber_45 : decode cX0_takeNumber 45 = .ok (.getfield 28, 3) := by decide +kernel
theorem dX0_takeNumber_48 : decode cX0_takeNumber 48 = .ok (.invokevirtual 51, 3) := by decide +kernel
theorem dX0_takeNumber_51 : decode cX0_takeNumber 51 = .ok (.istore_n 3, 1) := by decide +kernel
theorem dX0_takeNumber_52 : decode cX0_takeNumber 52 = .ok (.iload_n 3, 1) := by decide +kernel
theorem dX0_takeNumber_53 : decode cX0_takeNumber 53 = .ok (.bipush (-5), 2) := by decide +kernel
theorem dX0_takeNumber_55 : decode cX0_takeNumber 55 = .ok (.if_icmp .eq 13, 3) := by decide +kernel
theorem dX0_takeNumber_58 : decode cX0_takeNumber 58 = .ok (.bipush 10, 2) := by decide +kernel
theorem dX0_takeNumber_60 : decode cX0_takeNumber 60 = .ok (.iload_n 2, 1) := by decide +kernel
theorem dX0_takeNumber_61 : decode cX0_takeNumber 61 = .ok (.imul, 1) := by decide +kernel
theorem dX0_takeNumber_62 : decode cX0_takeNumber 62 = .ok (.iload_n 3, 1) := by decide +kernel
theorem dX0_takeNumber_63 : decode cX0_takeNumber 63 = .ok (.iadd, 1) := by decide +kernel
theorem dX0_takeNumber_64 : decode cX0_takeNumber 64 = .ok (.iload_n 1, 1) := by decide +kernel
theorem dX0_takeNumber_65 : decode cX0_takeNumber 65 = .ok (.if_icmp .le 5, 3) := by decide +kernel
theorem dX0_takeNumber_68 : decode cX0_takeNumber 68 = .ok (.iload_n 2, 1) := by decide +kernel
theorem dX0_takeNumber_69 : decode cX0_takeNumber 69 = .ok (.ireturn, 1) := by decide +kernel
theorem dX0_takeNumber_70 : decode cX0_takeNumber 70 = .ok (.bipush 10, 2) := by decide +kernel
theorem dX0_takeNumber_72 : decode cX0_takeNumber 72 = .ok (.iload_n 2, 1) := by decide +kernel
theorem dX0_takeNumber_73 : decode cX0_takeNumber 73 = .ok (.imul, 1) := by decide +kernel
theorem dX0_takeNumber_74 : decode cX0_takeNumber 74 = .ok (.iload_n 3, 1) := by decide +kernel
theorem dX0_takeNumber_75 : decode cX0_takeNumber 75 = .ok (.iadd, 1) := by decide +kernel
theorem dX0_takeNumber_76 : decode cX0_takeNumber 76 = .ok (.istore_n 2, 1) := by decide +kernel
theorem dX0_takeNumber_77 : decode cX0_takeNumber 77 = .ok (.aload_n 0, 1) := by decide +kernel
theorem dX0_takeNumber_78 : decode cX0_takeNumber 78 = .ok (.dup, 1) := by decide +kernel
theorem dX0_takeNumber_79 : decode cX0_takeNumber 79 = .ok (.getfield 28, 3) := by decide +kernel
theorem dX0_takeNumber_82 : decode cX0_takeNumber 82 = .ok (.iconst 1, 1) := by decide +kernel
theorem dX0_takeNumber_83 : decode cX0_takeNumber 83 = .ok (.iadd, 1) := by decide +kernel
theorem dX0_takeNumber_84 : decode cX0_takeNumber 84 = .ok (.putfield 28, 3) := by decide +kernel
theorem dX0_takeNumber_87 : decode cX0_takeNumber 87 = .ok (.goto (-59), 3) := by decide +kernel
theorem dX0_takeNumber_90 : decode cX0_takeNumber 90 = .ok (.iload_n 2, 1) := by decide +kernel
theorem dX0_takeNumber_91 : decode cX0_takeNumber 91 = .ok (.ireturn, 1) := by decide +kernel
theorem dX0_digitAt_0 : decode cX0_digitAt 0 = .ok (.iload_n 1, 1) := by decide +kernel
theorem dX0_digitAt_1 : decode cX0_digitAt 1 = .ok (.aload_n 0, 1) := by decide +kernel
theorem dX0_digitAt_2 : decode cX0_digitAt 2 = .ok (.getfield 15, 3) := by decide +kernel
theorem dX0_digitAt_5 : decode cX0_digitAt 5 = .ok (.if_icmp .ge 25, 3) := by decide +kernel
theorem dX0_digitAt_8 : decode cX0_digitAt 8 = .ok (.aload_n 0, 1) := by decide +kernel
theorem dX0_digitAt_9 : decode cX0_digitAt 9 = .ok (.getfield 9, 3) := by decide +kernel
theorem dX0_digitAt_12 : decode cX0_digitAt 12 = .ok (.iload_n 1, 1) := by decide +kernel
theorem dX0_digitAt_13 : decode cX0_digitAt 13 = .ok (.iaload, 1) := by decide +kernel
theorem dX0_digitAt_14 : decode cX0_digitAt 14 = .ok (.bipush 48, 2) := by decide +kernel
theorem dX0_digitAt_16 : decode cX0_digitAt 16 = .ok (.if_icmp .lt 14, 3) := by decide +kernel
theorem dX0_digitAt_19 : decode cX0_digitAt 19 = .ok (.aload_n 0, 1) := by decide +kernel
theorem dX0_digitAt_20 : decode cX0_digitAt 20 = .ok (.getfield 9, 3) := by decide +kernel
theorem dX0_digitAt_23 : decode cX0_digitAt 23 = .ok (.iload_n 1, 1) := by decide +kernel
theorem dX0_digitAt_24 : decode cX0_digitAt 24 = .ok (.iaload, 1) := by decide +kernel
theorem dX0_digitAt_25 : decode cX0_digitAt 25 = .ok (.bipush 57, 2) := by decide +kernel
theorem dX0_digitAt_27 : decode cX0_digitAt 27 = .ok (.if_icmp .le 6, 3) := by decide +kernel
theorem dX0_digitAt_30 : decode cX0_digitAt 30 = .ok (.bipush (-5), 2) := by decide +kernel
theorem dX0_digitAt_32 : decode cX0_digitAt 32 = .ok (.ireturn, 1) := by decide +kernel
theorem dX0_digitAt_33 : decode cX0_digitAt 33 = .ok (.aload_n 0, 1) := by decide +kernel
theorem dX0_digitAt_34 : decode cX0_digitAt 34 = .ok (.getfield 9, 3) := by decide +kernel
theorem dX0_digitAt_37 : decode cX0_digitAt 37 = .ok (.iload_n 1, 1) := by decide +kernel
theorem dX0_digitAt_38 : decode cX0_digitAt 38 = .ok (.iaload, 1) := by decide +kernel
theorem dX0_digitAt_39 : decode cX0_digitAt 39 = .ok (.bipush 48, 2) := by decide +kernel
theorem dX0_digitAt_41 : decode cX0_digitAt 41 = .ok (.isub, 1) := by decide +kernel
theorem dX0_digitAt_42 : decode cX0_digitAt 42 = .ok (.ireturn, 1) := by decide +kernel
theorem dX0_peek_0 : decode cX0_peek 0 = .ok (.aload_n 0, 1) := by decide +kernel
theorem dX0_peek_1 : decode cX0_peek 1 = .ok (.getfield 28, 3) := by decide +kernel
theorem dX0_peek_4 : decode cX0_peek 4 = .ok (.aload_n 0, 1) := by decide +kernel
theorem dX0_peek_5 : decode cX0_peek 5 = .ok (.getfield 15, 3) := by decide +kernel
theorem dX0_peek_8 : decode cX0_peek 8 = .ok (.if_icmp .ge 15, 3) := by decide +kernel
theorem dX0_peek_11 : decode cX0_peek 11 = .ok (.aload_n 0, 1) := by decide +kernel
theorem dX0_peek_12 : decode cX0_peek 12 = .ok (.getfield 9, 3) := by decide +kernel
theorem dX0_peek_15 : decode cX0_peek 15 = .ok (.aload_n 0, 1) := by decide +kernel
theorem dX0_peek_16 : decode cX0_peek 16 = .ok (.getfield 28, 3) := by decide +kernel
theorem dX0_peek_19 : decode cX0_peek 19 = .ok (.iaload, 1) := by decide +kernel
theorem dX0_peek_20 : decode cX0_peek 20 = .ok (.goto 4, 3) := by decide +kernel
theorem dX0_peek_23 : decode cX0_peek 23 = .ok (.iconst (-1), 1) := by decide +kernel
theorem dX0_peek_24 : decode cX0_peek 24 = .ok (.ireturn, 1) := by decide +kernel
theorem dX0_take_0 : decode cX0_take 0 = .ok (.aload_n 0, 1) := by decide +kernel
theorem dX0_take_1 : decode cX0_take 1 = .ok (.invokevirtual 35, 3) := by decide +kernel
theorem dX0_take_4 : decode cX0_take 4 = .ok (.iload_n 1, 1) := by decide +kernel
theorem dX0_take_5 : decode cX0_take 5 = .ok (.if_icmp .eq 5, 3) := by decide +kernel
theorem dX0_take_8 : decode cX0_take 8 = .ok (.iconst 0, 1) := by decide +kernel
theorem dX0_take_9 : decode cX0_take 9 = .ok (.ireturn, 1) := by decide +kernel
theorem dX0_take_10 : decode cX0_take 10 = .ok (.aload_n 0, 1) := by decide +kernel
theorem dX0_take_11 : decode cX0_take 11 = .ok (.dup, 1) := by decide +kernel
theorem dX0_take_12 : decode cX0_take 12 = .ok (.getfield 28, 3) := by decide +kernel
theorem dX0_take_15 : decode cX0_take 15 = .ok (.iconst 1, 1) := by decide +kernel
theorem dX0_take_16 : decode cX0_take 16 = .ok (.iadd, 1) := by decide +kernel
theorem dX0_take_17 : decode cX0_take 17 = .ok (.putfield 28, 3) := by decide +kernel
theorem dX0_take_20 : decode cX0_take 20 = .ok (.iconst 1, 1) := by decide +kernel
theorem dX0_take_21 : decode cX0_take 21 = .ok (.ireturn, 1) := by decide +kernel
theorem dX1_init_0 : decode cX1_init 0 = .ok (.aload_n 0, 1) := by decide +kernel
theorem dX1_init_1 : decode cX1_init 1 = .ok (.invokespecial 3, 3) := by decide +kernel
theorem dX1_init_4 : decode cX1_init 4 = .ok (.aload_n 0, 1) := by decide +kernel
theorem dX1_init_5 : decode cX1_init 5 = .ok (.bipush 30, 2) := by decide +kernel
theorem dX1_init_7 : decode cX1_init 7 = .ok (.putfield 9, 3) := by decide +kernel
theorem dX1_init_10 : decode cX1_init 10 = .ok (.aload_n 0, 1) := by decide +kernel
theorem dX1_init_11 : decode cX1_init 11 = .ok (.iconst 4, 1) := by decide +kernel
theorem dX1_init_12 : decode cX1_init 12 = .ok (.newarray .int, 2) := by decide +kernel
theorem dX1_init_14 : decode cX1_init 14 = .ok (.putfield 15, 3) := by decide +kernel
theorem dX1_init_17 : decode cX1_init 17 = .ok (.aload_n 0, 1) := by decide +kernel
theorem dX1_init_18 : decode cX1_init 18 = .ok (.iconst 4, 1) := by decide +kernel
theorem dX1_init_19 : decode cX1_init 19 = .ok (.newarray .int, 2) := by decide +kernel
theorem dX1_init_21 : decode cX1_init 21 = .ok (.putfield 19, 3) := by decide +kernel
theorem dX1_init_24 : decode cX1_init 24 = .ok (.aload_n 0, 1) := by decide +kernel
theorem dX1_init_25 : decode cX1_init 25 = .ok (.iconst 4, 1) := by decide +kernel
theorem dX1_init_26 : decode cX1_init 26 = .ok (.newarray .boolean, 2) := by decide +kernel
theorem dX1_init_28 : decode cX1_init 28 = .ok (.putfield 22, 3) := by decide +kernel
theorem dX1_init_31 : decode cX1_init 31 = .ok (.aload_n 0, 1) := by decide +kernel
theorem dX1_init_32 : decode cX1_init 32 = .ok (.bipush 64, 2) := by decide +kernel
theorem dX1_init_34 : decode cX1_init 34 = .ok (.newarray .int, 2) := by decide +kernel
theorem dX1_init_36 : decode cX1_init 36 = .ok (.putfield 26, 3) := by decide +kernel
theorem dX1_init_39 : decode cX1_init 39 = .ok (.aload_n 0, 1) := by decide +kernel
theorem dX1_init_40 : decode cX1_init 40 = .ok (.bipush 64, 2) := by decide +kernel
theorem dX1_init_42 : decode cX1_init 42 = .ok (.newarray .int, 2) := by decide +kernel
theorem dX1_init_44 : decode cX1_init 44 = .ok (.putfield 29, 3) := by decide +kernel
theorem dX1_init_47 : decode cX1_init 47 = .ok (.aload_n 0, 1) := by decide +kernel
theorem dX1_init_48 : decode cX1_init 48 = .ok (.bipush 64, 2) := by decide +kernel
theorem dX1_init_50 : decode cX1_init 50 = .ok (.newarray .int, 2) := by decide +kernel
theorem dX1_init_52 : decode cX1_init 52 = .ok (.putfield 32, 3) := by decide +kernel
theorem dX1_init_55 : decode cX1_init 55 = .ok (.aload_n 0, 1) := by decide +kernel
theorem dX1_init_56 : decode cX1_init 56 = .ok (.bipush 64, 2) := by decide +kernel
theorem dX1_init_58 : decode cX1_init 58 = .ok (.newarray .int, 2) := by decide +kernel
theorem dX1_init_60 : decode cX1_init 60 = .ok (.putfield 35, 3) := by decide +kernel
theorem dX1_init_63 : decode cX1_init 63 = .ok (.aload_n 0, 1) := by decide +kernel
theorem dX1_init_64 : decode cX1_init 64 = .ok (.bipush 64, 2) := by decide +kernel
theorem dX1_init_66 : decode cX1_init 66 = .ok (.newarray .int, 2) := by decide +kernel
theorem dX1_init_68 : decode cX1_init 68 = .ok (.putfield 38, 3) := by decide +kernel
theorem dX1_init_71 : decode cX1_init 71 = .ok (.aload_n 0, 1) := by decide +kernel
theorem dX1_init_72 : decode cX1_init 72 = .ok (.iconst 0, 1) := by decide +kernel
theorem dX1_init_73 : decode cX1_init 73 = .ok (.putfield 41, 3) := by decide +kernel
theorem dX1_init_76 : decode cX1_init 76 = .ok (.aload_n 0, 1) := by decide +kernel
theorem dX1_init_77 : decode cX1_init 77 = .ok (.iconst 0, 1) := by decide +kernel
theorem dX1_init_78 : decode cX1_init 78 = .ok (.putfield 44, 3) := by decide +kernel
theorem dX1_init_81 : decode cX1_init 81 = .ok (.aload_n 0, 1) := by decide +kernel
theorem dX1_init_82 : decode cX1_init 82 = .ok (.iconst 0, 1) := by decide +kernel
theorem dX1_init_83 : decode cX1_init 83 = .ok (.putfield 47, 3) := by decide +kernel
theorem dX1_init_86 : decode cX1_init 86 = .ok (.aload_n 0, 1) := by decide +kernel
theorem dX1_init_87 : decode cX1_init 87 = .ok (.iconst 0, 1) := by decide +kernel
theorem dX1_init_88 : decode cX1_init 88 = .ok (.putfield 50, 3) := by decide +kernel
theorem dX1_init_91 : decode cX1_init 91 = .ok (.aload_n 0, 1) := by decide +kernel
theorem dX1_init_92 : decode cX1_init 92 = .ok (.iconst 0, 1) := by decide +kernel
theorem dX1_init_93 : decode cX1_init 93 = .ok (.putfield 53, 3) := by decide +kernel
theorem dX1_init_96 : decode cX1_init 96 = .ok (.aload_n 0, 1) := by decide +kernel
theorem dX1_init_97 : decode cX1_init 97 = .ok (.iconst 0, 1) := by decide +kernel
theorem dX1_init_98 : decode cX1_init 98 = .ok (.putfield 56, 3) := by decide +kernel
theorem dX1_init_101 : decode cX1_init 101 = .ok (.iconst 0, 1) := by decide +kernel
theorem dX1_init_102 : decode cX1_init 102 = .ok (.istore_n 1, 1) := by decide +kernel
theorem dX1_init_103 : decode cX1_init 103 = .ok (.iload_n 1, 1) := by decide +kernel
theorem dX1_init_104 : decode cX1_init 104 = .ok (.iconst 4, 1) := by decide +kernel
theorem dX1_init_105 : decode cX1_init 105 = .ok (.if_icmp .ge 24, 3) := by decide +kernel
theorem dX1_init_108 : decode cX1_init 108 = .ok (.aload_n 0, 1) := by decide +kernel
theorem dX1_init_109 : decode cX1_init 109 = .ok (.getfield 15, 3) := by decide +kernel
theorem dX1_init_112 : decode cX1_init 112 = .ok (.iload_n 1, 1) := by decide +kernel
theorem dX1_init_113 : decode cX1_init 113 = .ok (.iload_n 1, 1) := by decide +kernel
theorem dX1_init_114 : decode cX1_init 114 = .ok (.iconst 1, 1) := by decide +kernel
theorem dX1_init_115 : decode cX1_init 115 = .ok (.iadd, 1) := by decide +kernel
theorem dX1_init_116 : decode cX1_init 116 = .ok (.iastore, 1) := by decide +kernel
theorem dX1_init_117 : decode cX1_init 117 = .ok (.aload_n 0, 1) := by decide +kernel
theorem dX1_init_118 : decode cX1_init 118 = .ok (.iload_n 1, 1) := by decide +kernel
theorem dX1_init_119 : decode cX1_init 119 = .ok (.iconst 4, 1) := by decide +kernel
theorem dX1_init_120 : decode cX1_init 120 = .ok (.invokevirtual 59, 3) := by decide +kernel
theorem dX1_init_123 : decode cX1_init 123 = .ok (.iinc 1 1, 3) := by decide +kernel
theorem dX1_init_126 : decode cX1_init 126 = .ok (.goto (-23), 3) := by decide +kernel
theorem dX1_init_129 : decode cX1_init 129 = .ok (.return_, 1) := by decide +kernel
theorem dX1_takeOver_0 : decode cX1_takeOver 0 = .ok (.aload_n 0, 1) := by decide +kernel
theorem dX1_takeOver_1 : decode cX1_takeOver 1 = .ok (.aload_n 1, 1) := by decide +kernel
theorem dX1_takeOver_2 : decode cX1_takeOver 2 = .ok (.getfield 9, 3) := by decide +kernel
theorem dX1_takeOver_5 : decode cX1_takeOver 5 = .ok (.putfield 9, 3) := by decide +kernel
theorem dX1_takeOver_8 : decode cX1_takeOver 8 = .ok (.aload_n 1, 1) := by decide +kernel
theorem dX1_takeOver_9 : decode cX1_takeOver 9 = .ok (.getfield 15, 3) := by decide +kernel
theorem dX1_takeOver_12 : decode cX1_takeOver 12 = .ok (.iconst 0, 1) := by decide +kernel
theorem dX1_takeOver_13 : decode cX1_takeOver 13 = .ok (.aload_n 0, 1) := by decide +kernel
theorem dX1_takeOver_14 : decode cX1_takeOver 14 = .ok (.getfield 15, 3) := by decide +kernel
theorem dX1_takeOver_17 : decode cX1_takeOver 17 = .ok (.iconst 0, 1) := by decide +kernel
theorem dX1_takeOver_18 : decode cX1_takeOver 18 = .ok (.iconst 4, 1) := by decide +kernel
theorem dX1_takeOver_19 : decode cX1_takeOver 19 = .ok (.invokestatic 63, 3) := by decide +kernel
theorem dX1_takeOver_22 : decode cX1_takeOver 22 = .ok (.aload_n 1, 1) := by decide +kernel
theorem dX1_takeOver_23 : decode cX1_takeOver 23 = .ok (.getfield 19, 3) := by decide +kernel
theorem dX1_takeOver_26 : decode cX1_takeOver 26 = .ok (.iconst 0, 1) := by decide +kernel
theorem dX1_takeOver_27 : decode cX1_takeOver 27 = .ok (.aload_n 0, 1) := by decide +kernel
theorem dX1_takeOver_28 : decode cX1_takeOver 28 = .ok (.getfield 19, 3) := by decide +kernel
theorem dX1_takeOver_31 : decode cX1_takeOver 31 = .ok (.iconst 0, 1) := by decide +kernel
theorem dX1_takeOver_32 : decode cX1_takeOver 32 = .ok (.iconst 4, 1) := by decide +kernel
theorem dX1_takeOver_33 : decode cX1_takeOver 33 = .ok (.invokestatic 63, 3) := by decide +kernel
theorem dX1_takeOver_36 : decode cX1_takeOver 36 = .ok (.aload_n 1, 1) := by decide +kernel
theorem dX1_takeOver_37 : decode cX1_takeOver 37 = .ok (.getfield 22, 3) := by decide +kernel
theorem dX1_takeOver_40 : decode cX1_takeOver 40 = .ok (.iconst 0, 1) := by decide +kernel
theorem dX1_takeOver_41 : decode cX1_takeOver 41 = .ok (.aload_n 0, 1) := by decide +kernel
theorem dX1_takeOver_42 : decode cX1_takeOver 42 = .ok (.getfield 22, 3) := by decide +kernel
theorem dX1_takeOver_45 : decode cX1_takeOver 45 = .ok (.iconst 0, 1) := by decide +kernel
theorem dX1_takeOver_46 : decode cX1_takeOver 46 = .ok (.iconst 4, 1) := by decide +kernel
theorem dX1_takeOver_47 : decode cX1_takeOver 47 = .ok (.invokestatic 63, 3) := by decide +kernel
theorem dX1_takeOver_50 : decode cX1_takeOver 50 = .ok (.aload_n 1, 1) := by decide +kernel
theorem dX1_takeOver_51 : decode cX1_takeOver 51 = .ok (.getfield 26, 3) := by decide +kernel
theorem dX1_takeOver_54 : decode cX1_takeOver 54 = .ok (.iconst 0, 1) := by decide +kernel
theorem dX1_takeOver_55 : decode cX1_takeOver 55 = .ok (.aload_n 0, 1) := by decide +kernel
theorem dX1_takeOver_56 : decode cX1_takeOver 56 = .ok (.getfield 26, 3) := by decide +kernel
theorem dX1_takeOver_59 : decode cX1_takeOver 59 = .ok (.iconst 0, 1) := by decide +kernel
theorem dX1_takeOver_60 : decode cX1_takeOver 60 = .ok (.bipush 64, 2) := by decide +kernel
theorem dX1_takeOver_62 : decode cX1_takeOver 62 = .ok (.invokestatic 63, 3) := by decide +kernel
theorem dX1_takeOver_65 : decode cX1_takeOver 65 = .ok (.aload_n 1, 1) := by decide +kernel
theorem dX1_takeOver_66 : decode cX1_takeOver 66 = .ok (.getfield 29, 3) := by decide +kernel
theorem dX1_takeOver_69 : decode cX1_takeOver 69 = .ok (.iconst 0, 1) := by decide +kernel
theorem dX1_takeOver_70 : decode cX1_takeOver 70 = .ok (.aload_n 0, 1) := by decide +kernel
theorem dX1_takeOver_71 : decode cX1_takeOver 71 = .ok (.getfield 29, 3) := by decide +kernel
theorem dX1_takeOver_74 : decode cX1_takeOver 74 = .ok (.iconst 0, 1) := by decide +kernel
theorem dX1_takeOver_75 : decode cX1_takeOver 75 = .ok (.bipush 64, 2) := by decide +kernel
theorem dX1_takeOver_77 : decode cX1_takeOver 77 = .ok (.invokestatic 63, 3) := by decide +kernel
theorem dX1_takeOver_80 : decode cX1_takeOver 80 = .ok (.aload_n 1, 1) := by decide +kernel
theorem dX1_takeOver_81 : decode cX1_takeOver 81 = .ok (.getfield 32, 3) := by decide +kernel
theorem dX1_takeOver_84 : decode cX1_takeOver 84 = .ok (.iconst 0, 1) := by decide +kernel
theorem dX1_takeOver_85 : decode cX1_takeOver 85 = .ok (.aload_n 0, 1) := by decide +kernel
theorem dX1_takeOver_86 : decode cX1_takeOver 86 = .ok (.getfield 32, 3) := by decide +kernel
theorem dX1_takeOver_89 : decode cX1_takeOver 89 = .ok (.iconst 0, 1) := by decide +kernel
theorem dX1_takeOver_90 : decode cX1_takeOver 90 = .ok (.bipush 64, 2) := by decide +kernel
theorem dX1_takeOver_92 : decode cX1_takeOver 92 = .ok (.invokestatic 63, 3) := by decide +kernel
theorem dX1_takeOver_95 : decode cX1_takeOver 95 = .ok (.aload_n 1, 1) := by decide +kernel
theorem dX1_takeOver_96 : decode cX1_takeOver 96 = .ok (.getfield 35, 3) := by decide +kernel
theorem dX1_takeOver_99 : decode cX1_takeOver 99 = .ok (.iconst 0, 1) := by decide +kernel
theorem dX1_takeOver_100 : decode cX1_takeOver 100 = .ok (.aload_n 0, 1) := by decide +kernel
theorem dX1_takeOver_101 : decode cX1_takeOver 101 = .ok (.getfield 35, 3) := by decide +kernel
theorem dX1_takeOver_104 : decode cX1_takeOver 104 = .ok (.iconst 0, 1) := by decide +kernel
theorem dX1_takeOver_105 : decode cX1_takeOver 105 = .ok (.bipush 64, 2) := by decide +kernel
theorem dX1_takeOver_107 : decode cX1_takeOver 107 = .ok (.invokestatic 63, 3) := by decide +kernel
theorem dX1_takeOver_110 : decode cX1_takeOver 110 = .ok (.aload_n 1, 1) := by decide +kernel
theorem dX1_takeOver_111 : decode cX1_takeOver 111 = .ok (.getfield 38, 3) := by decide +kernel
theorem dX1_takeOver_114 : decode cX1_takeOver 114 = .ok (.iconst 0, 1) := by decide +kernel
theorem dX1_takeOver_115 : decode cX1_takeOver 115 = .ok (.aload_n 0, 1) := by decide +kernel
theorem dX1_takeOver_116 : decode cX1_takeOver 116 = .ok (.getfield 38, 3) := by decide +kernel
theorem dX1_takeOver_119 : decode cX1_takeOver 119 = .ok (.iconst 0, 1) := by decide +kernel
theorem dX1_takeOver_120 : decode cX1_takeOver 120 = .ok (.bipush 64, 2) := by decide +kernel
theorem dX1_takeOver_122 : decode cX1_takeOver 122 = .ok (.invokestatic 63, 3) := by decide +kernel
theorem dX1_takeOver_125 : decode cX1_takeOver 125 = .ok (.aload_n 0, 1) := by decide +kernel
theorem dX1_takeOver_126 : decode cX1_takeOver 126 = .ok (.aload_n 1, 1) := by decide +kernel
theorem dX1_takeOver_127 : decode cX1_takeOver 127 = .ok (.getfield 41, 3) := by decide +kernel
theorem dX1_takeOver_130 : decode cX1_takeOver 130 = .ok (.putfield 41, 3) := by decide +kernel
theorem dX1_takeOver_133 : decode cX1_takeOver 133 = .ok (.aload_n 0, 1) := by decide +kernel
theorem dX1_takeOver_134 : decode cX1_takeOver 134 = .ok (.aload_n 1, 1) := by decide +kernel
theorem dX1_takeOver_135 : decode cX1_takeOver 135 = .ok (.getfield 44, 3) := by decide +kernel
theorem dX1_takeOver_138 : decode cX1_takeOver 138 = .ok (.putfield 44, 3) := by decide +kernel
theorem dX1_takeOver_141 : decode cX1_takeOver 141 = .ok (.aload_n 0, 1) := by decide +kernel
theorem dX1_takeOver_142 : decode cX1_takeOver 142 = .ok (.aload_n 1, 1) := by decide +kernel
theorem dX1_takeOver_143 : decode cX1_takeOver 143 = .ok (.getfield 47, 3) := by decide +kernel
theorem dX1_takeOver_146 : decode cX1_takeOver 146 = .ok (.putfield 47, 3) := by decide +kernel
theorem dX1_takeOver_149 : decode cX1_takeOver 149 = .ok (.aload_n 0, 1) := by decide +kernel
theorem dX1_takeOver_150 : decode cX1_takeOver 150 = .ok (.aload_n 1, 1) := by decide +kernel
theorem dX1_takeOver_151 : decode cX1_takeOver 151 = .ok (.getfield 50, 3) := by decide +kernel
theorem dX1_takeOver_154 : decode cX1_takeOver 154 = .ok (.putfield 50, 3) := by decide +kernel
theorem dX1_takeOver_157 : decode cX1_takeOver 157 = .ok (.aload_n 0, 1) := by decide +kernel
theorem dX1_takeOver_158 : decode cX1_takeOver 158 = .ok (.aload_n 1, 1) := by decide +kernel
theorem dX1_takeOver_159 : decode cX1_takeOver 159 = .ok (.getfield 53, 3) := by decide +kernel
theorem dX1_takeOver_162 : decode cX1_takeOver 162 = .ok (.putfield 53, 3) := by decide +kernel
theorem dX1_takeOver_165 : decode cX1_takeOver 165 = .ok (.aload_n 0, 1) := by decide +kernel
theorem dX1_takeOver_166 : decode cX1_takeOver 166 = .ok (.aload_n 1, 1) := by decide +kernel
theorem dX1_takeOver_167 : decode cX1_takeOver 167 = .ok (.getfield 56, 3) := by decide +kernel
theorem dX1_takeOver_170 : decode cX1_takeOver 170 = .ok (.putfield 56, 3) := by decide +kernel
theorem dX1_takeOver_173 : decode cX1_takeOver 173 = .ok (.return_, 1) := by decide +kernel
theorem dX1_divide_0 : decode cX1_divide 0 = .ok (.aload_n 0, 1) := by decide +kernel
theorem dX1_divide_1 : decode cX1_divide 1 = .ok (.getfield 19, 3) := by decide +kernel
theorem dX1_divide_4 : decode cX1_divide 4 = .ok (.iload_n 1, 1) := by decide +kernel
theorem dX1_divide_5 : decode cX1_divide 5 = .ok (.iload_n 2, 1) := by decide +kernel
theorem dX1_divide_6 : decode cX1_divide 6 = .ok (.iastore, 1) := by decide +kernel
theorem dX1_divide_7 : decode cX1_divide 7 = .ok (.iconst 0, 1) := by decide +kernel
theorem dX1_divide_8 : decode cX1_divide 8 = .ok (.istore_n 3, 1) := by decide +kernel
theorem dX1_divide_9 : decode cX1_divide 9 = .ok (.iload_n 3, 1) := by decide +kernel
theorem dX1_divide_10 : decode cX1_divide 10 = .ok (.bipush 16, 2) := by decide +kernel
theorem dX1_divide_12 : decode cX1_divide 12 = .ok (.if_icmp .ge 53, 3) := by decide +kernel
theorem dX1_divide_15 : decode cX1_divide 15 = .ok (.iload_n 1, 1) := by decide +kernel
theorem dX1_divide_16 : decode cX1_divide 16 = .ok (.bipush 16, 2) := by decide +kernel
theorem dX1_divide_18 : decode cX1_divide 18 = .ok (.imul, 1) := by decide +kernel
theorem dX1_divide_19 : decode cX1_divide 19 = .ok (.iload_n 3, 1) := by decide +kernel
theorem dX1_divide_20 : decode cX1_divide 20 = .ok (.iadd, 1) := by decide +kernel
theorem dX1_divide_21 : decode cX1_divide 21 = .ok (.istore 4, 2) := by decide +kernel
theorem dX1_divide_23 : decode cX1_divide 23 = .ok (.aload_n 0, 1) := by decide +kernel
theorem dX1_divide_24 : decode cX1_divide 24 = .ok (.iload 4, 2) := by decide +kernel
theorem dX1_divide_26 : decode cX1_divide 26 = .ok (.invokevirtual 69, 3) := by decide +kernel
theorem dX1_divide_29 : decode cX1_divide 29 = .ok (.ifCond .eq 8, 3) := by decide +kernel
theorem dX1_divide_32 : decode cX1_divide 32 = .ok (.iload 4, 2) := by decide +kernel
theorem dX1_divide_34 : decode cX1_divide 34 = .ok (.goto 5, 3) := by decide +kernel
theorem dX1_divide_37 : decode cX1_divide 37 = .ok (.bipush (-5), 2) := by decide +kernel
theorem dX1_divide_39 : decode cX1_divide 39 = .ok (.istore 5, 2) := by decide +kernel
theorem dX1_divide_41 : decode cX1_divide 41 = .ok (.aload_n 0, 1) := by decide +kernel
theorem dX1_divide_42 : decode cX1_divide 42 = .ok (.getfield 35, 3) := by decide +kernel
theorem dX1_divide_45 : decode cX1_divide 45 = .ok (.iload 4, 2) := by decide +kernel
theorem dX1_divide_47 : decode cX1_divide 47 = .ok (.iload 5, 2) := by decide +kernel
theorem dX1_divide_49 : decode cX1_divide 49 = .ok (.iastore, 1) := by decide +kernel
theorem dX1_divide_50 : decode cX1_divide 50 = .ok (.aload_n 0, 1) := by decide +kernel
theorem dX1_divide_51 : decode cX1_divide 51 = .ok (.getfield 38, 3) := by decide +kernel
theorem dX1_divide_54 : decode cX1_divide 54 = .ok (.iload 4, 2) := by decide +kernel
theorem dX1_divide_56 : decode cX1_divide 56 = .ok (.iload 5, 2) := by decide +kernel
theorem dX1_divide_58 : decode cX1_divide 58 = .ok (.iastore, 1) := by decide +kernel
theorem dX1_divide_59 : decode cX1_divide 59 = .ok (.iinc 3 1, 3) := by decide +kernel
theorem dX1_divide_62 : decode cX1_divide 62 = .ok (.goto (-53), 3) := by decide +kernel
theorem dX1_divide_65 : decode cX1_divide 65 = .ok (.return_, 1) := by decide +kernel
theorem dX1_isAddress_0 : decode cX1_isAddress 0 = .ok (.iload_n 1, 1) := by decide +kernel
theorem dX1_isAddress_1 : decode cX1_isAddress 1 = .ok (.invokestatic 73, 3) := by decide +kernel
theorem dX1_isAddress_4 : decode cX1_isAddress 4 = .ok (.ifCond .eq 26, 3) := by decide +kernel
theorem dX1_isAddress_7 : decode cX1_isAddress 7 = .ok (.iload_n 1, 1) := by decide +kernel
theorem dX1_isAddress_8 : decode cX1_isAddress 8 = .ok (.invokestatic 76, 3) := by decide +kernel
theorem dX1_isAddress_11 : decode cX1_isAddress 11 = .ok (.bipush 16, 2) := by decide +kernel
theorem dX1_isAddress_13 : decode cX1_isAddress 13 = .ok (.aload_n 0, 1) := by decide +kernel
theorem dX1_isAddress_14 : decode cX1_isAddress 14 = .ok (.getfield 19, 3) := by decide +kernel
theorem dX1_isAddress_17 : decode cX1_isAddress 17 = .ok (.iload_n 1, 1) := by decide +kernel
theorem dX1_isAddress_18 : decode cX1_isAddress 18 = .ok (.invokestatic 80, 3) := by decide +kernel
theorem dX1_isAddress_21 : decode cX1_isAddress 21 = .ok (.iaload, 1) := by decide +kernel
theorem dX1_isAddress_22 : decode cX1_isAddress 22 = .ok (.isub, 1) := by decide +kernel
theorem dX1_isAddress_23 : decode cX1_isAddress 23 = .ok (.if_icmp .ge 7, 3) := by decide +kernel
theorem dX1_isAddress_26 : decode cX1_isAddress 26 = .ok (.iconst 1, 1) := by decide +kernel
theorem dX1_isAddress_27 : decode cX1_isAddress 27 = .ok (.goto 4, 3) := by decide +kernel
theorem dX1_isAddress_30 : decode cX1_isAddress 30 = .ok (.iconst 0, 1) := by decide +kernel
theorem dX1_isAddress_31 : decode cX1_isAddress 31 = .ok (.ireturn, 1) := by decide +kernel
theorem dX1_isGivenUp_0 : decode cX1_isGivenUp 0 = .ok (.aload_n 0, 1) := by decide +kernel
theorem dX1_isGivenUp_1 : decode cX1_isGivenUp 1 = .ok (.getfield 22, 3) := by decide +kernel
theorem dX1_isGivenUp_4 : decode cX1_isGivenUp 4 = .ok (.iload_n 1, 1) := by decide +kernel
theorem dX1_isGivenUp_5 : decode cX1_isGivenUp 5 = .ok (.baload, 1) := by decide +kernel
theorem dX1_isGivenUp_6 : decode cX1_isGivenUp 6 = .ok (.ireturn, 1) := by decide +kernel
theorem dX1_othersAreGivenUp_0 : decode cX1_othersAreGivenUp 0 = .ok (.iconst 0, 1) := by decide +kernel
theorem dX1_othersAreGivenUp_1 : decode cX1_othersAreGivenUp 1 = .ok (.istore_n 2, 1) := by decide +kernel
theorem dX1_othersAreGivenUp_2 : decode cX1_othersAreGivenUp 2 = .ok (.iload_n 2, 1) := by decide +kernel
theorem dX1_othersAreGivenUp_3 : decode cX1_othersAreGivenUp 3 = .ok (.iconst 4, 1) := by decide +kernel
theorem dX1_othersAreGivenUp_4 : decode cX1_othersAreGivenUp 4 = .ok (.if_icmp .ge 25, 3) := by decide +kernel
theorem dX1_othersAreGivenUp_7 : decode cX1_othersAreGivenUp 7 = .ok (.iload_n 2, 1) := by decide +kernel
theorem dX1_othersAreGivenUp_8 : decode cX1_othersAreGivenUp 8 = .ok (.iload_n 1, 1) := by decide +kernel
theorem dX1_othersAreGivenUp_9 : decode cX1_othersAreGivenUp 9 = .ok (.if_icmp .eq 14, 3) := by decide +kernel
theorem dX1_othersAreGivenUp_12 : decode cX1_othersAreGivenUp 12 = .ok (.aload_n 0, 1) := by decide +kernel
theorem dX1_othersAreGivenUp_13 : decode cX1_othersAreGivenUp 13 = .ok (.getfield 22, 3) := by decide +kernel
theorem dX1_othersAreGivenUp_16 : decode cX1_othersAreGivenUp 16 = .ok (.iload_n 2, 1) := by decide +kernel
theorem dX1_othersAreGivenUp_17 : decode cX1_othersAreGivenUp 17 = .ok (.baload, 1) := by decide +kernel
theorem dX1_othersAreGivenUp_18 : decode cX1_othersAreGivenUp 18 = .ok (.ifCond .ne 5, 3) := by decide +kernel
theorem dX1_othersAreGivenUp_21 : decode cX1_othersAreGivenUp 21 = .ok (.iconst 0, 1) := by decide +kernel
theorem dX1_othersAreGivenUp_22 : decode cX1_othersAreGivenUp 22 = .ok (.ireturn, 1) := by decide +kernel
theorem dX1_othersAreGivenUp_23 : decode cX1_othersAreGivenUp 23 = .ok (.iinc 2 1, 3) := by decide +kernel
theorem dX1_othersAreGivenUp_26 : decode cX1_othersAreGivenUp 26 = .ok (.goto (-24), 3) := by decide +kernel
theorem dX1_othersAreGivenUp_29 : decode cX1_othersAreGivenUp 29 = .ok (.iconst 1, 1) := by decide +kernel
theorem dX1_othersAreGivenUp_30 : decode cX1_othersAreGivenUp 30 = .ok (.ireturn, 1) := by decide +kernel
theorem dX1_stepsSoFar_0 : decode cX1_stepsSoFar 0 = .ok (.aload_n 0, 1) := by decide +kernel
theorem dX1_stepsSoFar_1 : decode cX1_stepsSoFar 1 = .ok (.getfield 44, 3) := by decide +kernel
theorem dX1_stepsSoFar_4 : decode cX1_stepsSoFar 4 = .ok (.ireturn, 1) := by decide +kernel
theorem dX1_isLost_0 : decode cX1_isLost 0 = .ok (.aload_n 0, 1) := by decide +kernel
theorem dX1_isLost_1 : decode cX1_isLost 1 = .ok (.getfield 35, 3) := by decide +kernel
theorem dX1_isLost_4 : decode cX1_isLost 4 = .ok (.iload_n 1, 1) := by decide +kernel
theorem dX1_isLost_5 : decode cX1_isLost 5 = .ok (.iaload, 1) := by decide +kernel
theorem dX1_isLost_6 : decode cX1_isLost 6 = .ok (.bipush (-5), 2) := by decide +kernel
theorem dX1_isLost_8 : decode cX1_isLost 8 = .ok (.if_icmp .ne 7, 3) := by decide +kernel
theorem dX1_isLost_11 : decode cX1_isLost 11 = .ok (.iconst 1, 1) := by decide +kernel
theorem dX1_isLost_12 : decode cX1_isLost 12 = .ok (.goto 4, 3) := by decide +kernel
theorem dX1_isLost_15 : decode cX1_isLost 15 = .ok (.iconst 0, 1) := by decide +kernel
theorem dX1_isLost_16 : decode cX1_isLost 16 = .ok (.ireturn, 1) := by decide +kernel
theorem dX1_isLongWay_0 : decode cX1_isLongWay 0 = .ok (.aload_n 0, 1) := by decide +kernel
theorem dX1_isLongWay_1 : decode cX1_isLongWay 1 = .ok (.iload_n 1, 1) := by decide +kernel
theorem dX1_isLongWay_2 : decode cX1_isLongWay 2 = .ok (.invokevirtual 83, 3) := by decide +kernel
theorem dX1_isLongWay_5 : decode cX1_isLongWay 5 = .ok (.ifCond .ne 17, 3) := by decide +kernel
theorem dX1_isLongWay_8 : decode cX1_isLongWay 8 = .ok (.aload_n 0, 1) := by decide +kernel
theorem dX1_isLongWay_9 : decode cX1_isLongWay 9 = .ok (.getfield 35, 3) := by decide +kernel
theorem dX1_isLongWay_12 : decode cX1_isLongWay 12 = .ok (.iload_n 1, 1) := by decide +kernel
theorem dX1_isLongWay_13 : decode cX1_isLongWay 13 = .ok (.iaload, 1) := by decide +kernel
theorem dX1_isLongWay_14 : decode cX1_isLongWay 14 = .ok (.iload_n 1, 1) := by decide +kernel
theorem dX1_isLongWay_15 : decode cX1_isLongWay 15 = .ok (.if_icmp .eq 7, 3) := by decide +kernel
theorem dX1_isLongWay_18 : decode cX1_isLongWay 18 = .ok (.iconst 1, 1) := by decide +kernel
theorem dX1_isLongWay_19 : decode cX1_isLongWay 19 = .ok (.goto 4, 3) := by decide +kernel
theorem dX1_isLongWay_22 : decode cX1_isLongWay 22 = .ok (.iconst 0, 1) := by decide +kernel
theorem dX1_isLongWay_23 : decode cX1_isLongWay 23 = .ok (.ireturn, 1) := by decide +kernel
theorem dX1_isGood_0 : decode cX1_isGood 0 = .ok (.aload_n 0, 1) := by decide +kernel
theorem dX1_isGood_1 : decode cX1_isGood 1 = .ok (.getfield 26, 3) := by decide +kernel
theorem dX1_isGood_4 : decode cX1_isGood 4 = .ok (.iload_n 1, 1) := by decide +kernel
theorem dX1_isGood_5 : decode cX1_isGood 5 = .ok (.iaload, 1) := by decide +kernel
theorem dX1_isGood_6 : decode cX1_isGood 6 = .ok (.aload_n 0, 1) := by decide +kernel
theorem dX1_isGood_7 : decode cX1_isGood 7 = .ok (.getfield 9, 3) := by decide +kernel
theorem dX1_isGood_10 : decode cX1_isGood 10 = .ok (.if_icmp .ge 7, 3) := by decide +kernel
theorem dX1_isGood_13 : decode cX1_isGood 13 = .ok (.iconst 1, 1) := by decide +kernel
theorem dX1_isGood_14 : decode cX1_isGood 14 = .ok (.goto 4, 3) := by decide +kernel
theorem dX1_isGood_17 : decode cX1_isGood 17 = .ok (.iconst 0, 1) := by decide +kernel
theorem dX1_isGood_18 : decode cX1_isGood 18 = .ok (.ireturn, 1) := by decide +kernel
theorem dX1_isBad_0 : decode cX1_isBad 0 = .ok (.aload_n 0, 1) := by decide +kernel
theorem dX1_isBad_1 : decode cX1_isBad 1 = .ok (.getfield 26, 3) := by decide +kernel
theorem dX1_isBad_4 : decode cX1_isBad 4 = .ok (.iload_n 1, 1) := by decide +kernel
theorem dX1_isBad_5 : decode cX1_isBad 5 = .ok (.iaload, 1) := by decide +kernel
theorem dX1_isBad_6 : decode cX1_isBad 6 = .ok (.iconst 2, 1) := by decide +kernel
theorem dX1_isBad_7 : decode cX1_isBad 7 = .ok (.aload_n 0, 1) := by decide +kernel
theorem dX1_isBad_8 : decode cX1_isBad 8 = .ok (.getfield 9, 3) := by decide +kernel
theorem dX1_isBad_11 : decode cX1_isBad 11 = .ok (.imul, 1) := by decide +kernel
theorem dX1_isBad_12 : decode cX1_isBad 12 = .ok (.if_icmp .lt 7, 3) := by decide +kernel
theorem dX1_isBad_15 : decode cX1_isBad 15 = .ok (.iconst 1, 1) := by decide +kernel
theorem dX1_isBad_16 : decode cX1_isBad 16 = .ok (.goto 4, 3) := by decide +kernel
theorem dX1_isBad_19 : decode cX1_isBad 19 = .ok (.iconst 0, 1) := by decide +kernel
theorem dX1_isBad_20 : decode cX1_isBad 20 = .ok (.ireturn, 1) := by decide +kernel
theorem dX1_gradeOf_0 : decode cX1_gradeOf 0 = .ok (.aload_n 0, 1) := by decide +kernel
theorem dX1_gradeOf_1 : decode cX1_gradeOf 1 = .ok (.iload_n 1, 1) := by decide +kernel
theorem dX1_gradeOf_2 : decode cX1_gradeOf 2 = .ok (.invokevirtual 86, 3) := by decide +kernel
theorem dX1_gradeOf_5 : decode cX1_gradeOf 5 = .ok (.ifCond .eq 5, 3) := by decide +kernel
theorem dX1_gradeOf_8 : decode cX1_gradeOf 8 = .ok (.iconst 0, 1) := by decide +kernel
theorem dX1_gradeOf_9 : decode cX1_gradeOf 9 = .ok (.ireturn, 1) := by decide +kernel
theorem dX1_gradeOf_10 : decode cX1_gradeOf 10 = .ok (.aload_n 0, 1) := by decide +kernel
theorem dX1_gradeOf_11 : decode cX1_gradeOf 11 = .ok (.iload_n 1, 1) := by decide +kernel
theorem dX1_gradeOf_12 : decode cX1_gradeOf 12 = .ok (.invokevirtual 89, 3) := by decide +kernel
theorem dX1_gradeOf_15 : decode cX1_gradeOf 15 = .ok (.ifCond .eq 7, 3) := by decide +kernel
theorem dX1_gradeOf_18 : decode cX1_gradeOf 18 = .ok (.iconst 2, 1) := by decide +kernel
theorem dX1_gradeOf_19 : decode cX1_gradeOf 19 = .ok (.goto 4, 3) := by decide +kernel
theorem dX1_gradeOf_22 : decode cX1_gradeOf 22 = .ok (.iconst 1, 1) := by decide +kernel
theorem dX1_gradeOf_23 : decode cX1_gradeOf 23 = .ok (.ireturn, 1) := by decide +kernel
theorem dX1_isFree_0 : decode cX1_isFree 0 = .ok (.iload_n 1, 1) := by decide +kernel
theorem dX1_isFree_1 : decode cX1_isFree 1 = .ok (.invokestatic 80, 3) := by decide +kernel
theorem dX1_isFree_4 : decode cX1_isFree 4 = .ok (.istore_n 2, 1) := by decide +kernel
theorem dX1_isFree_5 : decode cX1_isFree 5 = .ok (.iload_n 1, 1) := by decide +kernel
theorem dX1_isFree_6 : decode cX1_isFree 6 = .ok (.invokestatic 76, 3) := by decide +kernel
theorem dX1_isFree_9 : decode cX1_isFree 9 = .ok (.bipush 16, 2) := by decide +kernel
theorem dX1_isFree_11 : decode cX1_isFree 11 = .ok (.aload_n 0, 1) := by decide +kernel
theorem dX1_isFree_12 : decode cX1_isFree 12 = .ok (.getfield 19, 3) := by decide +kernel
theorem dX1_isFree_15 : decode cX1_isFree 15 = .ok (.iload_n 2, 1) := by decide +kernel
theorem dX1_isFree_16 : decode cX1_isFree 16 = .ok (.iaload, 1) := by decide +kernel
theorem dX1_isFree_17 : decode cX1_isFree 17 = .ok (.isub, 1) := by decide +kernel
theorem dX1_isFree_18 : decode cX1_isFree 18 = .ok (.if_icmp .lt 7, 3) := by decide +kernel
theorem dX1_isFree_21 : decode cX1_isFree 21 = .ok (.iconst 1, 1) := by decide +kernel
theorem dX1_isFree_22 : decode cX1_isFree 22 = .ok (.goto 4, 3) := by decide +kernel
theorem dX1_isFree_25 : decode cX1_isFree 25 = .ok (.iconst 0, 1) := by decide +kernel
theorem dX1_isFree_26 : decode cX1_isFree 26 = .ok (.istore_n 3, 1) := by decide +kernel
theorem dX1_isFree_27 : decode cX1_isFree 27 = .ok (.iload_n 3, 1) := by decide +kernel
theorem dX1_isFree_28 : decode cX1_isFree 28 = .ok (.ifCond .eq 35, 3) := by decide +kernel
theorem dX1_isFree_31 : decode cX1_isFree 31 = .ok (.aload_n 0, 1) := by decide +kernel
theorem dX1_isFree_32 : decode cX1_isFree 32 = .ok (.getfield 38, 3) := by decide +kernel
theorem dX1_isFree_35 : decode cX1_isFree 35 = .ok (.iload_n 1, 1) := by decide +kernel
theorem dX1_isFree_36 : decode cX1_isFree 36 = .ok (.iaload, 1) := by decide +kernel
theorem dX1_isFree_37 : decode cX1_isFree 37 = .ok (.bipush (-5), 2) := by decide +kernel
theorem dX1_isFree_39 : decode cX1_isFree 39 = .ok (.if_icmp .ne 24, 3) := by decide +kernel
theorem dX1_isFree_42 : decode cX1_isFree 42 = .ok (.aload_n 0, 1) := by decide +kernel
theorem dX1_isFree_43 : decode cX1_isFree 43 = .ok (.iload_n 1, 1) := by decide +kernel
theorem dX1_isFree_44 : decode cX1_isFree 44 = .ok (.invokevirtual 86, 3) := by decide +kernel
theorem dX1_isFree_47 : decode cX1_isFree 47 = .ok (.ifCond .eq 16, 3) := by decide +kernel
theorem dX1_isFree_50 : decode cX1_isFree 50 = .ok (.aload_n 0, 1) := by decide +kernel
theorem dX1_isFree_51 : decode cX1_isFree 51 = .ok (.getfield 22, 3) := by decide +kernel
theorem dX1_isFree_54 : decode cX1_isFree 54 = .ok (.iload_n 2, 1) := by decide +kernel
theorem dX1_isFree_55 : decode cX1_isFree 55 = .ok (.baload, 1) := by decide +kernel
theorem dX1_isFree_56 : decode cX1_isFree 56 = .ok (.ifCond .ne 7, 3) := by decide +kernel
theorem dX1_isFree_59 : decode cX1_isFree 59 = .ok (.iconst 1, 1) := by decide +kernel
theorem dX1_isFree_60 : decode cX1_isFree 60 = .ok (.goto 4, 3) := by decide +kernel
theorem dX1_isFree_63 : decode cX1_isFree 63 = .ok (.iconst 0, 1) := by decide +kernel
theorem dX1_isFree_64 : decode cX1_isFree 64 = .ok (.ireturn, 1) := by decide +kernel
theorem dX1_freeOf_0 : decode cX1_freeOf 0 = .ok (.iconst 0, 1) := by decide +kernel
theorem dX1_freeOf_1 : decode cX1_freeOf 1 = .ok (.istore_n 2, 1) := by decide +kernel
theorem dX1_freeOf_2 : decode cX1_freeOf 2 = .ok (.iconst 0, 1) := by decide +kernel
theorem dX1_freeOf_3 : decode cX1_freeOf 3 = .ok (.istore_n 3, 1) := by decide +kernel
theorem dX1_freeOf_4 : decode cX1_freeOf 4 = .ok (.iload_n 3, 1) := by decide +kernel
theorem dX1_freeOf_5 : decode cX1_freeOf 5 = .ok (.bipush 16, 2) := by decide +kernel
theorem dX1_freeOf_7 : decode cX1_freeOf 7 = .ok (.if_icmp .ge 25, 3) := by decide +kernel
theorem dX1_freeOf_10 : decode cX1_freeOf 10 = .ok (.aload_n 0, 1) := by decide +kernel
theorem dX1_freeOf_11 : decode cX1_freeOf 11 = .ok (.iload_n 1, 1) := by decide +kernel
theorem dX1_freeOf_12 : decode cX1_freeOf 12 = .ok (.bipush 16, 2) := by decide +kernel
theorem dX1_freeOf_14 : decode cX1_freeOf 14 = .ok (.imul, 1) := by decide +kernel
theorem dX1_freeOf_15 : decode cX1_freeOf 15 = .ok (.iload_n 3, 1) := by decide +kernel
theorem dX1_freeOf_16 : decode cX1_freeOf 16 = .ok (.iadd, 1) := by decide +kernel
theorem dX1_freeOf_17 : decode cX1_freeOf 17 = .ok (.invokevirtual 92, 3) := by decide +kernel
theorem dX1_freeOf_20 : decode cX1_freeOf 20 = .ok (.ifCond .eq 6, 3) := by decide +kernel
theorem dX1_freeOf_23 : decode cX1_freeOf 23 = .ok (.iinc 2 1, 3) := by decide +kernel
theorem dX1_freeOf_26 : decode cX1_freeOf 26 = .ok (.iinc 3 1, 3) := by decide +kernel
theorem dX1_freeOf_29 : decode cX1_freeOf 29 = .ok (.goto (-25), 3) := by decide +kernel
theorem dX1_freeOf_32 : decode cX1_freeOf 32 = .ok (.iload_n 2, 1) := by decide +kernel
theorem dX1_freeOf_33 : decode cX1_freeOf 33 = .ok (.ireturn, 1) := by decide +kernel
theorem dX1_firstFreeOf_0 : decode cX1_firstFreeOf 0 = .ok (.iconst 0, 1) := by decide +kernel
theorem dX1_firstFreeOf_1 : decode cX1_firstFreeOf 1 = .ok (.istore_n 2, 1) := by decide +kernel
theorem dX1_firstFreeOf_2 : decode cX1_firstFreeOf 2 = .ok (.iload_n 2, 1) := by decide +kernel
theorem dX1_firstFreeOf_3 : decode cX1_firstFreeOf 3 = .ok (.bipush 16, 2) := by decide +kernel
theorem dX1_firstFreeOf_5 : decode cX1_firstFreeOf 5 = .ok (.if_icmp .ge 29, 3) := by decide +kernel
theorem dX1_firstFreeOf_8 : decode cX1_firstFreeOf 8 = .ok (.aload_n 0, 1) := by decide +kernel
theorem dX1_firstFreeOf_9 : decode cX1_firstFreeOf 9 = .ok (.iload_n 1, 1) := by decide +kernel
theorem dX1_firstFreeOf_10 : decode cX1_firstFreeOf 10 = .ok (.bipush 16, 2) := by decide +kernel
theorem dX1_firstFreeOf_12 : decode cX1_firstFreeOf 12 = .ok (.imul, 1) := by decide +kernel
theorem dX1_firstFreeOf_13 : decode cX1_firstFreeOf 13 = .ok (.iload_n 2, 1) := by decide +kernel
theorem dX1_firstFreeOf_14 : decode cX1_firstFreeOf 14 = .ok (.iadd, 1) := by decide +kernel
theorem dX1_firstFreeOf_15 : decode cX1_firstFreeOf 15 = .ok (.invokevirtual 92, 3) := by decide +kernel
theorem dX1_firstFreeOf_18 : decode cX1_firstFreeOf 18 = .ok (.ifCond .eq 10, 3) := by decide +kernel
theorem dX1_firstFreeOf_21 : decode cX1_firstFreeOf 21 = .ok (.iload_n 1, 1) := by decide +kernel
theorem dX1_firstFreeOf_22 : decode cX1_firstFreeOf 22 = .ok (.bipush 16, 2) := by decide +kernel
theorem dX1_firstFreeOf_24 : decode cX1_firstFreeOf 24 = .ok (.imul, 1) := by decide +kernel
theorem dX1_firstFreeOf_25 : decode cX1_firstFreeOf 25 = .ok (.iload_n 2, 1) := by decide +kernel
theorem dX1_firstFreeOf_26 : decode cX1_firstFreeOf 26 = .ok (.iadd, 1) := by decide +kernel
theorem dX1_firstFreeOf_27 : decode cX1_firstFreeOf 27 = .ok (.ireturn, 1) := by decide +kernel
theorem dX1_firstFreeOf_28 : decode cX1_firstFreeOf 28 = .ok (.iinc 2 1, 3) := by decide +kernel
theorem dX1_firstFreeOf_31 : decode cX1_firstFreeOf 31 = .ok (.goto (-29), 3) := by decide +kernel
theorem dX1_firstFreeOf_34 : decode cX1_firstFreeOf 34 = .ok (.bipush (-5), 2) := by decide +kernel
theorem dX1_firstFreeOf_36 : decode cX1_firstFreeOf 36 = .ok (.ireturn, 1) := by decide +kernel
theorem dX1_lendableTo_0 : decode cX1_lendableTo 0 = .ok (.aload_n 0, 1) := by decide +kernel
theorem dX1_lendableTo_1 : decode cX1_lendableTo 1 = .ok (.iload_n 1, 1) := by decide +kernel
theorem dX1_lendableTo_2 : decode cX1_lendableTo 2 = .ok (.invokestatic 80, 3) := by decide +kernel
theorem dX1_lendableTo_5 : decode cX1_lendableTo 5 = .ok (.invokevirtual 95, 3) := by decide +kernel
theorem dX1_lendableTo_8 : decode cX1_lendableTo 8 = .ok (.istore_n 2, 1) := by decide +kernel
theorem dX1_lendableTo_9 : decode cX1_lendableTo 9 = .ok (.iload_n 2, 1) := by decide +kernel
theorem dX1_lendableTo_10 : decode cX1_lendableTo 10 = .ok (.bipush (-5), 2) := by decide +kernel
theorem dX1_lendableTo_12 : decode cX1_lendableTo 12 = .ok (.if_icmp .eq 5, 3) := by decide +kernel
theorem dX1_lendableTo_15 : decode cX1_lendableTo 15 = .ok (.iload_n 2, 1) := by decide +kernel
theorem dX1_lendableTo_16 : decode cX1_lendableTo 16 = .ok (.ireturn, 1) := by decide +kernel
theorem dX1_lendableTo_17 : decode cX1_lendableTo 17 = .ok (.iconst 0, 1) := by decide +kernel
theorem dX1_lendableTo_18 : decode cX1_lendableTo 18 = .ok (.istore_n 3, 1) := by decide +kernel
theorem dX1_lendableTo_19 : decode cX1_lendableTo 19 = .ok (.iconst 0, 1) := by decide +kernel
theorem dX1_lendableTo_20 : decode cX1_lendableTo 20 = .ok (.istore 4, 2) := by decide +kernel
theorem dX1_lendableTo_22 : decode cX1_lendableTo 22 = .ok (.iconst 0, 1) := by decide +kernel
theorem dX1_lendableTo_23 : decode cX1_lendableTo 23 = .ok (.istore 5, 2) := by decide +kernel
theorem dX1_lendableTo_25 : decode cX1_lendableTo 25 = .ok (.iload 5, 2) := by decide +kernel
theorem dX1_lendableTo_27 : decode cX1_lendableTo 27 = .ok (.iconst 4, 1) := by decide +kernel
theorem dX1_lendableTo_28 : decode cX1_lendableTo 28 = .ok (.if_icmp .ge 31, 3) := by decide +kernel
theorem dX1_lendableTo_31 : decode cX1_lendableTo 31 = .ok (.aload_n 0, 1) := by decide +kernel
theorem dX1_lendableTo_32 : decode cX1_lendableTo 32 = .ok (.iload 5, 2) := by decide +kernel
theorem dX1_lendableTo_34 : decode cX1_lendableTo 34 = .ok (.invokevirtual 98, 3) := by decide +kernel
theorem dX1_lendableTo_37 : decode cX1_lendableTo 37 = .ok (.istore 6, 2) := by decide +kernel
theorem dX1_lendableTo_39 : decode cX1_lendableTo 39 = .ok (.iload 6, 2) := by decide +kernel
theorem dX1_lendableTo_41 : decode cX1_lendableTo 41 = .ok (.iload 4, 2) := by decide +kernel
theorem dX1_lendableTo_43 : decode cX1_lendableTo 43 = .ok (.if_icmp .le 10, 3) := by decide +kernel
theorem dX1_lendableTo_46 : decode cX1_lendableTo 46 = .ok (.iload 5, 2) := by decide +kernel
theorem dX1_lendableTo_48 : decode cX1_lendableTo 48 = .ok (.istore_n 3, 1) := by decide +kernel
theorem dX1_lendableTo_49 : decode cX1_lendableTo 49 = .ok (.iload 6, 2) := by decide +kernel
theorem dX1_lendableTo_51 : decode cX1_lendableTo 51 = .ok (.istore 4, 2) := by decide +kernel
theorem dX1_lendableTo_53 : decode cX1_lendableTo 53 = .ok (.iinc 5 1, 3) := by decide +kernel
theorem dX1_lendableTo_56 : decode cX1_lendableTo 56 = .ok (.goto (-31), 3) := by decide +kernel
theorem dX1_lendableTo_59 : decode cX1_lendableTo 59 = .ok (.aload_n 0, 1) := by decide +kernel
theorem dX1_lendableTo_60 : decode cX1_lendableTo 60 = .ok (.iload_n 3, 1) := by decide +kernel
theorem dX1_lendableTo_61 : decode cX1_lendableTo 61 = .ok (.invokevirtual 95, 3) := by decide +kernel
theorem dX1_lendableTo_64 : decode cX1_lendableTo 64 = .ok (.ireturn, 1) := by decide +kernel
theorem dX1_stepsTo_0 : decode cX1_stepsTo 0 = .ok (.aload_n 0, 1) := by decide +kernel
theorem dX1_stepsTo_1 : decode cX1_stepsTo 1 = .ok (.getfield 35, 3) := by decide +kernel
theorem dX1_stepsTo_4 : decode cX1_stepsTo 4 = .ok (.iload_n 1, 1) := by decide +kernel
theorem dX1_stepsTo_5 : decode cX1_stepsTo 5 = .ok (.iaload, 1) := by decide +kernel
theorem dX1_stepsTo_6 : decode cX1_stepsTo 6 = .ok (.istore_n 2, 1) := by decide +kernel
theorem dX1_stepsTo_7 : decode cX1_stepsTo 7 = .ok (.iload_n 2, 1) := by decide +kernel
theorem dX1_stepsTo_8 : decode cX1_stepsTo 8 = .ok (.iload_n 1, 1) := by decide +kernel
theorem dX1_stepsTo_9 : decode cX1_stepsTo 9 = .ok (.if_icmp .eq 15, 3) := by decide +kernel
theorem dX1_stepsTo_12 : decode cX1_stepsTo 12 = .ok (.aload_n 0, 1) := by decide +kernel
theorem dX1_stepsTo_13 : decode cX1_stepsTo 13 = .ok (.getfield 22, 3) := by decide +kernel
theorem dX1_stepsTo_16 : decode cX1_stepsTo 16 = .ok (.iload_n 1, 1) := by decide +kernel
theorem dX1_stepsTo_17 : decode cX1_stepsTo 17 = .ok (.invokestatic 80, 3) := by decide +kernel
theorem dX1_stepsTo_20 : decode cX1_stepsTo 20 = .ok (.baload, 1) := by decide +kernel
theorem dX1_stepsTo_21 : decode cX1_stepsTo 21 = .ok (.ifCond .eq 12, 3) := by decide +kernel
theorem dX1_stepsTo_24 : decode cX1_stepsTo 24 = .ok (.aload_n 0, 1) := by decide +kernel
theorem dX1_stepsTo_25 : decode cX1_stepsTo 25 = .ok (.getfield 41, 3) := by decide +kernel
theorem dX1_stepsTo_28 : decode cX1_stepsTo 28 = .ok (.iload_n 2, 1) := by decide +kernel
theorem dX1_stepsTo_29 : decode cX1_stepsTo 29 = .ok (.invokestatic 101, 3) := by decide +kernel
theorem dX1_stepsTo_32 : decode cX1_stepsTo 32 = .ok (.ireturn, 1) := by decide +kernel
theorem dX1_stepsTo_33 : decode cX1_stepsTo 33 = .ok (.aload_n 0, 1) := by decide +kernel
theorem dX1_stepsTo_34 : decode cX1_stepsTo 34 = .ok (.getfield 41, 3) := by decide +kernel
theorem dX1_stepsTo_37 : decode cX1_stepsTo 37 = .ok (.iload_n 1, 1) := by decide +kernel
theorem dX1_stepsTo_38 : decode cX1_stepsTo 38 = .ok (.invokestatic 101, 3) := by decide +kernel
theorem dX1_stepsTo_41 : decode cX1_stepsTo 41 = .ok (.iload_n 1, 1) := by decide +kernel
theorem dX1_stepsTo_42 : decode cX1_stepsTo 42 = .ok (.iload_n 2, 1) := by decide +kernel
theorem dX1_stepsTo_43 : decode cX1_stepsTo 43 = .ok (.invokestatic 101, 3) := by decide +kernel
theorem dX1_stepsTo_46 : decode cX1_stepsTo 46 = .ok (.iadd, 1) := by decide +kernel
theorem dX1_stepsTo_47 : decode cX1_stepsTo 47 = .ok (.ireturn, 1) := by decide +kernel
theorem dX1_changeLimit_0 : decode cX1_changeLimit 0 = .ok (.iload_n 1, 1) := by decide +kernel
theorem dX1_changeLimit_1 : decode cX1_changeLimit 1 = .ok (.iconst 1, 1) := by decide +kernel
theorem dX1_changeLimit_2 : decode cX1_changeLimit 2 = .ok (.if_icmp .lt 10, 3) := by decide +kernel
theorem dX1_changeLimit_5 : decode cX1_changeLimit 5 = .ok (.iload_n 1, 1) := by decide +kernel
theorem dX1_changeLimit_6 : decode cX1_changeLimit 6 = .ok (.sipush 999, 3) := by decide +kernel
theorem dX1_changeLimit_9 : decode cX1_changeLimit 9 = .ok (.if_icmp .le 6, 3) := by decide +kernel
theorem dX1_changeLimit_12 : decode cX1_changeLimit 12 = .ok (.bipush (-2), 2) := by decide +kernel
theorem dX1_changeLimit_14 : decode cX1_changeLimit 14 = .ok (.ireturn, 1) := by decide +kernel
theorem dX1_changeLimit_15 : decode cX1_changeLimit 15 = .ok (.aload_n 0, 1) := by decide +kernel
theorem dX1_changeLimit_16 : decode cX1_changeLimit 16 = .ok (.getfield 9, 3) := by decide +kernel
theorem dX1_changeLimit_19 : decode cX1_changeLimit 19 = .ok (.istore_n 2, 1) := by decide +kernel
theorem dX1_changeLimit_20 : decode cX1_changeLimit 20 = .ok (.aload_n 0, 1) := by decide +kernel
theorem dX1_changeLimit_21 : decode cX1_changeLimit 21 = .ok (.iload_n 1, 1) := by decide +kernel
theorem dX1_changeLimit_22 : decode cX1_changeLimit 22 = .ok (.putfield 9, 3) := by decide +kernel
theorem dX1_changeLimit_25 : decode cX1_changeLimit 25 = .ok (.iload_n 2, 1) := by decide +kernel
theorem dX1_changeLimit_26 : decode cX1_changeLimit 26 = .ok (.iload_n 1, 1) := by decide +kernel
theorem dX1_changeLimit_27 : decode cX1_changeLimit 27 = .ok (.if_icmp .ne 8, 3) := by decide +kernel
theorem dX1_changeLimit_30 : decode cX1_changeLimit 30 = .ok (.bipush (-5), 2) := by decide +kernel
theorem dX1_changeLimit_32 : decode cX1_changeLimit 32 = .ok (.goto 4, 3) := by decide +kernel
theorem dX1_changeLimit_35 : decode cX1_changeLimit 35 = .ok (.iload_n 2, 1) := by decide +kernel
theorem dX1_changeLimit_36 : decode cX1_changeLimit 36 = .ok (.ireturn, 1) := by decide +kernel
theorem dX1_readAt_0 : decode cX1_readAt 0 = .ok (.aload_n 0, 1) := by decide +kernel
theorem dX1_readAt_1 : decode cX1_readAt 1 = .ok (.iload_n 1, 1) := by decide +kernel
theorem dX1_readAt_2 : decode cX1_readAt 2 = .ok (.invokevirtual 69, 3) := by decide +kernel
theorem dX1_readAt_5 : decode cX1_readAt 5 = .ok (.ifCond .ne 5, 3) := by decide +kernel
theorem dX1_readAt_8 : decode cX1_readAt 8 = .ok (.iconst (-1), 1) := by decide +kernel
theorem dX1_readAt_9 : decode cX1_readAt 9 = .ok (.ireturn, 1) := by decide +kernel
theorem dX1_readAt_10 : decode cX1_readAt 10 = .ok (.aload_n 0, 1) := by decide +kernel
theorem dX1_readAt_11 : decode cX1_readAt 11 = .ok (.iload_n 1, 1) := by decide +kernel
theorem dX1_readAt_12 : decode cX1_readAt 12 = .ok (.invokevirtual 83, 3) := by decide +kernel
theorem dX1_readAt_15 : decode cX1_readAt 15 = .ok (.ifCond .eq 6, 3) := by decide +kernel
theorem dX1_readAt_18 : decode cX1_readAt 18 = .ok (.bipush (-4), 2) := by decide +kernel
theorem dX1_readAt_20 : decode cX1_readAt 20 = .ok (.ireturn, 1) := by decide +kernel
theorem dX1_readAt_21 : decode cX1_readAt 21 = .ok (.aload_n 0, 1) := by decide +kernel
theorem dX1_readAt_22 : decode cX1_readAt 22 = .ok (.iload_n 1, 1) := by decide +kernel
theorem dX1_readAt_23 : decode cX1_readAt 23 = .ok (.invokevirtual 108, 3) := by decide +kernel
theorem dX1_readAt_26 : decode cX1_readAt 26 = .ok (.aload_n 0, 1) := by decide +kernel
theorem dX1_readAt_27 : decode cX1_readAt 27 = .ok (.aload_n 0, 1) := by decide +kernel
theorem dX1_readAt_28 : decode cX1_readAt 28 = .ok (.getfield 35, 3) := by decide +kernel
theorem dX1_readAt_31 : decode cX1_readAt 31 = .ok (.iload_n 1, 1) := by decide +kernel
theorem dX1_readAt_32 : decode cX1_readAt 32 = .ok (.iaload, 1) := by decide +kernel
theorem dX1_readAt_33 : decode cX1_readAt 33 = .ok (.invokevirtual 112, 3) := by decide +kernel
theorem dX1_readAt_36 : decode cX1_readAt 36 = .ok (.aload_n 0, 1) := by decide +kernel
theorem dX1_readAt_37 : decode cX1_readAt 37 = .ok (.dup, 1) := by decide +kernel
theorem dX1_readAt_38 : decode cX1_readAt 38 = .ok (.getfield 53, 3) := by decide +kernel
theorem dX1_readAt_41 : decode cX1_readAt 41 = .ok (.iconst 1, 1) := by decide +kernel
theorem dX1_readAt_42 : decode cX1_readAt 42 = .ok (.iadd, 1) := by decide +kernel
theorem dX1_readAt_43 : decode cX1_readAt 43 = .ok (.putfield 53, 3) := by decide +kernel
theorem dX1_readAt_46 : decode cX1_readAt 46 = .ok (.aload_n 0, 1) := by decide +kernel
theorem dX1_readAt_47 : decode cX1_readAt 47 = .ok (.iload_n 1, 1) := by decide +kernel
theorem dX1_readAt_48 : decode cX1_readAt 48 = .ok (.invokevirtual 115, 3) := by decide +kernel
theorem dX1_readAt_51 : decode cX1_readAt 51 = .ok (.aload_n 0, 1) := by decide +kernel
theorem dX1_readAt_52 : decode cX1_readAt 52 = .ok (.getfield 29, 3) := by decide +kernel
theorem dX1_readAt_55 : decode cX1_readAt 55 = .ok (.iload_n 1, 1) := by decide +kernel
theorem dX1_readAt_56 : decode cX1_readAt 56 = .ok (.iaload, 1) := by decide +kernel
theorem dX1_readAt_57 : decode cX1_readAt 57 = .ok (.ireturn, 1) := by decide +kernel
theorem dX1_writeAt_0 : decode cX1_writeAt 0 = .ok (.aload_n 0, 1) := by decide +kernel
theorem dX1_writeAt_1 : decode cX1_writeAt 1 = .ok (.iload_n 1, 1) := by decide +kernel
theorem dX1_writeAt_2 : decode cX1_writeAt 2 = .ok (.invokevirtual 69, 3) := by decide +kernel
theorem dX1_writeAt_5 : decode cX1_writeAt 5 = .ok (.ifCond .ne 5, 3) := by decide +kernel
theorem dX1_writeAt_8 : decode cX1_writeAt 8 = .ok (.iconst (-1), 1) := by decide +kernel
theorem dX1_writeAt_9 : decode cX1_writeAt 9 = .ok (.ireturn, 1) := by decide +kernel
theorem dX1_writeAt_10 : decode cX1_writeAt 10 = .ok (.iload_n 2, 1) := by decide +kernel
theorem dX1_writeAt_11 : decode cX1_writeAt 11 = .ok (.ifCond .lt 10, 3) := by decide +kernel
theorem dX1_writeAt_14 : decode cX1_writeAt 14 = .ok (.iload_n 2, 1) := by decide +kernel
theorem dX1_writeAt_15 : decode cX1_writeAt 15 = .ok (.sipush 999, 3) := by decide +kernel
theorem dX1_writeAt_18 : decode cX1_writeAt 18 = .ok (.if_icmp .le 6, 3) := by decide +kernel
theorem dX1_writeAt_21 : decode cX1_writeAt 21 = .ok (.bipush (-2), 2) := by decide +kernel
theorem dX1_writeAt_23 : decode cX1_writeAt 23 = .ok (.ireturn, 1) := by decide +kernel
theorem dX1_writeAt_24 : decode cX1_writeAt 24 = .ok (.aload_n 0, 1) := by decide +kernel
theorem dX1_writeAt_25 : decode cX1_writeAt 25 = .ok (.iload_n 1, 1) := by decide +kernel
theorem dX1_writeAt_26 : decode cX1_writeAt 26 = .ok (.invokevirtual 83, 3) := by decide +kernel
theorem dX1_writeAt_29 : decode cX1_writeAt 29 = .ok (.ifCond .eq 24, 3) := by decide +kernel
theorem dX1_writeAt_32 : decode cX1_writeAt 32 = .ok (.aload_n 0, 1) := by decide +kernel
theorem dX1_writeAt_33 : decode cX1_writeAt 33 = .ok (.iload_n 1, 1) := by decide +kernel
theorem dX1_writeAt_34 : decode cX1_writeAt 34 = .ok (.invokevirtual 118, 3) := by decide +kernel
theorem dX1_writeAt_37 : decode cX1_writeAt 37 = .ok (.istore_n 3, 1) := by decide +kernel
theorem dX1_writeAt_38 : decode cX1_writeAt 38 = .ok (.iload_n 3, 1) := by decide +kernel
theorem dX1_writeAt_39 : decode cX1_writeAt 39 = .ok (.bipush (-5), 2) := by decide +kernel
theorem dX1_writeAt_41 : decode cX1_writeAt 41 = .ok (.if_icmp .ne 6, 3) := by decide +kernel
theorem dX1_writeAt_44 : decode cX1_writeAt 44 = .ok (.bipush (-4), 2) := by decide +kernel
theorem dX1_writeAt_46 : decode cX1_writeAt 46 = .ok (.ireturn, 1) := by decide +kernel
theorem dX1_writeAt_47 : decode cX1_writeAt 47 = .ok (.aload_n 0, 1) := by decide +kernel
theorem dX1_writeAt_48 : decode cX1_writeAt 48 = .ok (.iload_n 1, 1) := by decide +kernel
theorem dX1_writeAt_49 : decode cX1_writeAt 49 = .ok (.iload_n 3, 1) := by decide +kernel
theorem dX1_writeAt_50 : decode cX1_writeAt 50 = .ok (.invokevirtual 121, 3) := by decide +kernel
theorem dX1_writeAt_53 : decode cX1_writeAt 53 = .ok (.aload_n 0, 1) := by decide +kernel
theorem dX1_writeAt_54 : decode cX1_writeAt 54 = .ok (.iload_n 1, 1) := by decide +kernel
theorem dX1_writeAt_55 : decode cX1_writeAt 55 = .ok (.invokevirtual 108, 3) := by decide +kernel
theorem dX1_writeAt_58 : decode cX1_writeAt 58 = .ok (.aload_n 0, 1) := by decide +kernel
theorem dX1_writeAt_59 : decode cX1_writeAt 59 = .ok (.aload_n 0, 1) := by decide +kernel
theorem dX1_writeAt_60 : decode cX1_writeAt 60 = .ok (.getfield 35, 3) := by decide +kernel
theorem dX1_writeAt_63 : decode cX1_writeAt 63 = .ok (.iload_n 1, 1) := by decide +kernel
theorem dX1_writeAt_64 : decode cX1_writeAt 64 = .ok (.iaload, 1) := by decide +kernel
theorem dX1_writeAt_65 : decode cX1_writeAt 65 = .ok (.invokevirtual 124, 3) := by decide +kernel
theorem dX1_writeAt_68 : decode cX1_writeAt 68 = .ok (.aload_n 0, 1) := by decide +kernel
theorem dX1_writeAt_69 : decode cX1_writeAt 69 = .ok (.getfield 29, 3) := by decide +kernel
theorem dX1_writeAt_72 : decode cX1_writeAt 72 = .ok (.iload_n 1, 1) := by decide +kernel
theorem dX1_writeAt_73 : decode cX1_writeAt 73 = .ok (.iload_n 2, 1) := by decide +kernel
theorem dX1_writeAt_74 : decode cX1_writeAt 74 = .ok (.iastore, 1) := by decide +kernel
theorem dX1_writeAt_75 : decode cX1_writeAt 75 = .ok (.aload_n 0, 1) := by decide +kernel
theorem dX1_writeAt_76 : decode cX1_writeAt 76 = .ok (.dup, 1) := by decide +kernel
theorem dX1_writeAt_77 : decode cX1_writeAt 77 = .ok (.getfield 56, 3) := by decide +kernel
theorem dX1_writeAt_80 : decode cX1_writeAt 80 = .ok (.iconst 1, 1) := by decide +kernel
theorem dX1_writeAt_81 : decode cX1_writeAt 81 = .ok (.iadd, 1) := by decide +kernel
theorem dX1_writeAt_82 : decode cX1_writeAt 82 = .ok (.putfield 56, 3) := by decide +kernel
theorem dX1_writeAt_85 : decode cX1_writeAt 85 = .ok (.aload_n 0, 1) := by decide +kernel
theorem dX1_writeAt_86 : decode cX1_writeAt 86 = .ok (.iload_n 1, 1) := by decide +kernel
theorem dX1_writeAt_87 : decode cX1_writeAt 87 = .ok (.invokevirtual 115, 3) := by decide +kernel
theorem dX1_writeAt_90 : decode cX1_writeAt 90 = .ok (.aload_n 0, 1) := by decide +kernel
theorem dX1_writeAt_91 : decode cX1_writeAt 91 = .ok (.iload_n 1, 1) := by decide +kernel
theorem dX1_writeAt_92 : decode cX1_writeAt 92 = .ok (.invokevirtual 83, 3) := by decide +kernel
theorem dX1_writeAt_95 : decode cX1_writeAt 95 = .ok (.ifCond .eq 8, 3) := by decide +kernel
theorem dX1_writeAt_98 : decode cX1_writeAt 98 = .ok (.bipush 100, 2) := by decide +kernel
theorem dX1_writeAt_100 : decode cX1_writeAt 100 = .ok (.goto 9, 3) := by decide +kernel
theorem dX1_writeAt_103 : decode cX1_writeAt 103 = .ok (.aload_n 0, 1) := by decide +kernel
theorem dX1_writeAt_104 : decode cX1_writeAt 104 = .ok (.getfield 35, 3) := by decide +kernel
theorem dX1_writeAt_107 : decode cX1_writeAt 107 = .ok (.iload_n 1, 1) := by decide +kernel
theorem dX1_writeAt_108 : decode cX1_writeAt 108 = .ok (.iaload, 1) := by decide +kernel
theorem dX1_writeAt_109 : decode cX1_writeAt 109 = .ok (.ireturn, 1) := by decide +kernel
theorem dX1_copyRow_0 : decode cX1_copyRow 0 = .ok (.iconst 0, 1) := by decide +kernel
theorem dX1_copyRow_1 : decode cX1_copyRow 1 = .ok (.istore 4, 2) := by decide +kernel
theorem dX1_copyRow_3 : decode cX1_copyRow 3 = .ok (.iload 4, 2) := by decide +kernel
theorem dX1_copyRow_5 : decode cX1_copyRow 5 = .ok (.iload_n 3, 1) := by decide +kernel
theorem dX1_copyRow_6 : decode cX1_copyRow 6 = .ok (.if_icmp .ge 40, 3) := by decide +kernel
theorem dX1_copyRow_9 : decode cX1_copyRow 9 = .ok (.aload_n 0, 1) := by decide +kernel
theorem dX1_copyRow_10 : decode cX1_copyRow 10 = .ok (.iload_n 1, 1) := by decide +kernel
theorem dX1_copyRow_11 : decode cX1_copyRow 11 = .ok (.iload 4, 2) := by decide +kernel
theorem dX1_copyRow_13 : decode cX1_copyRow 13 = .ok (.iadd, 1) := by decide +kernel
theorem dX1_copyRow_14 : decode cX1_copyRow 14 = .ok (.invokevirtual 127, 3) := by decide +kernel
theorem dX1_copyRow_17 : decode cX1_copyRow 17 = .ok (.istore 5, 2) := by decide +kernel
theorem dX1_copyRow_19 : decode cX1_copyRow 19 = .ok (.iload 5, 2) := by decide +kernel
theorem dX1_copyRow_21 : decode cX1_copyRow 21 = .ok (.ifCond .lt 16, 3) := by decide +kernel
theorem dX1_copyRow_24 : decode cX1_copyRow 24 = .ok (.aload_n 0, 1) := by decide +kernel
theorem dX1_copyRow_25 : decode cX1_copyRow 25 = .ok (.iload_n 2, 1) := by decide +kernel
theorem dX1_copyRow_26 : decode cX1_copyRow 26 = .ok (.iload 4, 2) := by decide +kernel
theorem dX1_copyRow_28 : decode cX1_copyRow 28 = .ok (.iadd, 1) := by decide +kernel
theorem dX1_copyRow_29 : decode cX1_copyRow 29 = .ok (.iload 5, 2) := by decide +kernel
theorem dX1_copyRow_31 : decode cX1_copyRow 31 = .ok (.invokevirtual 130, 3) := by decide +kernel
theorem dX1_copyRow_34 : decode cX1_copyRow 34 = .ok (.ifCond .ge 6, 3) := by decide +kernel
theorem dX1_copyRow_37 : decode cX1_copyRow 37 = .ok (.iload 4, 2) := by decide +kernel
theorem dX1_copyRow_39 : decode cX1_copyRow 39 = .ok (.ireturn, 1) := by decide +kernel
theorem dX1_copyRow_40 : decode cX1_copyRow 40 = .ok (.iinc 4 1, 3) := by decide +kernel
theorem dX1_copyRow_43 : decode cX1_copyRow 43 = .ok (.goto (-40), 3) := by decide +kernel
theorem dX1_copyRow_46 : decode cX1_copyRow 46 = .ok (.iload_n 3, 1) := by decide +kernel
theorem dX1_copyRow_47 : decode cX1_copyRow 47 = .ok (.ireturn, 1) := by decide +kernel
theorem dX1_testHead_0 : decode cX1_testHead 0 = .ok (.aload_n 0, 1) := by decide +kernel
theorem dX1_testHead_1 : decode cX1_testHead 1 = .ok (.iload_n 1, 1) := by decide +kernel
theorem dX1_testHead_2 : decode cX1_testHead 2 = .ok (.invokevirtual 133, 3) := by decide +kernel
theorem dX1_testHead_5 : decode cX1_testHead 5 = .ok (.bipush 16, 2) := by decide +kernel
theorem dX1_testHead_7 : decode cX1_testHead 7 = .ok (.aload_n 0, 1) := by decide +kernel
theorem dX1_testHead_8 : decode cX1_testHead 8 = .ok (.getfield 19, 3) := by decide +kernel
theorem dX1_testHead_11 : decode cX1_testHead 11 = .ok (.iload_n 1, 1) := by decide +kernel
theorem dX1_testHead_12 : decode cX1_testHead 12 = .ok (.iaload, 1) := by decide +kernel
theorem dX1_testHead_13 : decode cX1_testHead 13 = .ok (.isub, 1) := by decide +kernel
theorem dX1_testHead_14 : decode cX1_testHead 14 = .ok (.if_icmp .ne 6, 3) := by decide +kernel
theorem dX1_testHead_17 : decode cX1_testHead 17 = .ok (.bipush (-5), 2) := by decide +kernel
theorem dX1_testHead_19 : decode cX1_testHead 19 = .ok (.ireturn, 1) := by decide +kernel
theorem dX1_testHead_20 : decode cX1_testHead 20 = .ok (.aload_n 0, 1) := by decide +kernel
theorem dX1_testHead_21 : decode cX1_testHead 21 = .ok (.getfield 47, 3) := by decide +kernel
theorem dX1_testHead_24 : decode cX1_testHead 24 = .ok (.istore_n 2, 1) := by decide +kernel
theorem dX1_testHead_25 : decode cX1_testHead 25 = .ok (.iconst 0, 1) := by decide +kernel
theorem dX1_testHead_26 : decode cX1_testHead 26 = .ok (.istore_n 3, 1) := by decide +kernel
theorem dX1_testHead_27 : decode cX1_testHead 27 = .ok (.iload_n 3, 1) := by decide +kernel
theorem dX1_testHead_28 : decode cX1_testHead 28 = .ok (.bipush 16, 2) := by decide +kernel
theorem dX1_testHead_30 : decode cX1_testHead 30 = .ok (.aload_n 0, 1) := by decide +kernel
theorem dX1_testHead_31 : decode cX1_testHead 31 = .ok (.getfield 19, 3) := by decide +kernel
theorem dX1_testHead_34 : decode cX1_testHead 34 = .ok (.iload_n 1, 1) := by decide +kernel
theorem dX1_testHead_35 : decode cX1_testHead 35 = .ok (.iaload, 1) := by decide +kernel
theorem dX1_testHead_36 : decode cX1_testHead 36 = .ok (.isub, 1) := by decide +kernel
theorem dX1_testHead_37 : decode cX1_testHead 37 = .ok (.if_icmp .ge 20, 3) := by decide +kernel
theorem dX1_testHead_40 : decode cX1_testHead 40 = .ok (.aload_n 0, 1) := by decide +kernel
theorem dX1_testHead_41 : decode cX1_testHead 41 = .ok (.iload_n 1, 1) := by decide +kernel
theorem dX1_testHead_42 : decode cX1_testHead 42 = .ok (.bipush 16, 2) := by decide +kernel
theorem dX1_testHead_44 : decode cX1_testHead 44 = .ok (.imul, 1) := by decide +kernel
theorem dX1_testHead_45 : decode cX1_testHead 45 = .ok (.iload_n 3, 1) := by decide +kernel
theorem dX1_testHead_46 : decode cX1_testHead 46 = .ok (.iadd, 1) := by decide +kernel
theorem dX1_testHead_47 : decode cX1_testHead 47 = .ok (.invokevirtual 127, 3) := by decide +kernel
theorem dX1_testHead_50 : decode cX1_testHead 50 = .ok (.pop, 1) := by decide +kernel
theorem dX1_testHead_51 : decode cX1_testHead 51 = .ok (.iinc 3 1, 3) := by decide +kernel
theorem dX1_testHead_54 : decode cX1_testHead 54 = .ok (.goto (-27), 3) := by decide +kernel
theorem dX1_testHead_57 : decode cX1_testHead 57 = .ok (.aload_n 0, 1) := by decide +kernel
theorem dX1_testHead_58 : decode cX1_testHead 58 = .ok (.getfield 47, 3) := by decide +kernel
theorem dX1_testHead_61 : decode cX1_testHead 61 = .ok (.iload_n 2, 1) := by decide +kernel
theorem dX1_testHead_62 : decode cX1_testHead 62 = .ok (.isub, 1) := by decide +kernel
theorem dX1_testHead_63 : decode cX1_testHead 63 = .ok (.ireturn, 1) := by decide +kernel
theorem dX1_lookAt_0 : decode cX1_lookAt 0 = .ok (.aload_n 0, 1) := by decide +kernel
theorem dX1_lookAt_1 : decode cX1_lookAt 1 = .ok (.getfield 35, 3) := by decide +kernel
theorem dX1_lookAt_4 : decode cX1_lookAt 4 = .ok (.iload_n 1, 1) := by decide +kernel
theorem dX1_lookAt_5 : decode cX1_lookAt 5 = .ok (.iaload, 1) := by decide +kernel
theorem dX1_lookAt_6 : decode cX1_lookAt 6 = .ok (.istore_n 2, 1) := by decide +kernel
theorem dX1_lookAt_7 : decode cX1_lookAt 7 = .ok (.aload_n 0, 1) := by decide +kernel
theorem dX1_lookAt_8 : decode cX1_lookAt 8 = .ok (.iload_n 2, 1) := by decide +kernel
theorem dX1_lookAt_9 : decode cX1_lookAt 9 = .ok (.invokevirtual 86, 3) := by decide +kernel
theorem dX1_lookAt_12 : decode cX1_lookAt 12 = .ok (.ifCond .eq 4, 3) := by decide +kernel
theorem dX1_lookAt_15 : decode cX1_lookAt 15 = .ok (.return_, 1) := by decide +kernel
theorem dX1_lookAt_16 : decode cX1_lookAt 16 = .ok (.aload_n 0, 1) := by decide +kernel
theorem dX1_lookAt_17 : decode cX1_lookAt 17 = .ok (.iload_n 1, 1) := by decide +kernel
theorem dX1_lookAt_18 : decode cX1_lookAt 18 = .ok (.invokevirtual 118, 3) := by decide +kernel
theorem dX1_lookAt_21 : decode cX1_lookAt 21 = .ok (.istore_n 3, 1) := by decide +kernel
theorem dX1_lookAt_22 : decode cX1_lookAt 22 = .ok (.iload_n 3, 1) := by decide +kernel
theorem dX1_lookAt_23 : decode cX1_lookAt 23 = .ok (.bipush (-5), 2) := by decide +kernel
theorem dX1_lookAt_25 : decode cX1_lookAt 25 = .ok (.if_icmp .eq 42, 3) := by decide +kernel
theorem dX1_lookAt_28 : decode cX1_lookAt 28 = .ok (.aload_n 0, 1) := by decide +kernel
theorem dX1_lookAt_29 : decode cX1_lookAt 29 = .ok (.iload_n 1, 1) := by decide +kernel
theorem dX1_lookAt_30 : decode cX1_lookAt 30 = .ok (.iload_n 3, 1) := by decide +kernel
theorem dX1_lookAt_31 : decode cX1_lookAt 31 = .ok (.invokevirtual 121, 3) := by decide +kernel
theorem dX1_lookAt_34 : decode cX1_lookAt 34 = .ok (.aload_n 0, 1) := by decide +kernel
theorem dX1_lookAt_35 : decode cX1_lookAt 35 = .ok (.iload_n 3, 1) := by decide +kernel
theorem dX1_lookAt_36 : decode cX1_lookAt 36 = .ok (.invokevirtual 136, 3) := by decide +kernel
theorem dX1_lookAt_39 : decode cX1_lookAt 39 = .ok (.aload_n 0, 1) := by decide +kernel
theorem dX1_lookAt_40 : decode cX1_lookAt 40 = .ok (.iload_n 3, 1) := by decide +kernel
theorem dX1_lookAt_41 : decode cX1_lookAt 41 = .ok (.invokevirtual 124, 3) := by decide +kernel
theorem dX1_lookAt_44 : decode cX1_lookAt 44 = .ok (.aload_n 0, 1) := by decide +kernel
theorem dX1_lookAt_45 : decode cX1_lookAt 45 = .ok (.dup, 1) := by decide +kernel
theorem dX1_lookAt_46 : decode cX1_lookAt 46 = .ok (.getfield 47, 3) := by decide +kernel
theorem dX1_lookAt_49 : decode cX1_lookAt 49 = .ok (.iconst 1, 1) := by decide +kernel
theorem dX1_lookAt_50 : decode cX1_lookAt 50 = .ok (.iadd, 1) := by decide +kernel
theorem dX1_lookAt_51 : decode cX1_lookAt 51 = .ok (.putfield 47, 3) := by decide +kernel
theorem dX1_lookAt_54 : decode cX1_lookAt 54 = .ok (.aload_n 0, 1) := by decide +kernel
theorem dX1_lookAt_55 : decode cX1_lookAt 55 = .ok (.getfield 32, 3) := by decide +kernel
theorem dX1_lookAt_58 : decode cX1_lookAt 58 = .ok (.iload_n 1, 1) := by decide +kernel
theorem dX1_lookAt_59 : decode cX1_lookAt 59 = .ok (.dup2, 1) := by decide +kernel
theorem dX1_lookAt_60 : decode cX1_lookAt 60 = .ok (.iaload, 1) := by decide +kernel
theorem dX1_lookAt_61 : decode cX1_lookAt 61 = .ok (.iconst 1, 1) := by decide +kernel
theorem dX1_lookAt_62 : decode cX1_lookAt 62 = .ok (.iadd, 1) := by decide +kernel
theorem dX1_lookAt_63 : decode cX1_lookAt 63 = .ok (.iastore, 1) := by decide +kernel
theorem dX1_lookAt_64 : decode cX1_lookAt 64 = .ok (.goto 16, 3) := by decide +kernel
theorem dX1_lookAt_67 : decode cX1_lookAt 67 = .ok (.aload_n 0, 1) := by decide +kernel
theorem dX1_lookAt_68 : decode cX1_lookAt 68 = .ok (.iload_n 2, 1) := by decide +kernel
theorem dX1_lookAt_69 : decode cX1_lookAt 69 = .ok (.invokevirtual 89, 3) := by decide +kernel
theorem dX1_lookAt_72 : decode cX1_lookAt 72 = .ok (.ifCond .eq 8, 3) := by decide +kernel
theorem dX1_lookAt_75 : decode cX1_lookAt 75 = .ok (.aload_n 0, 1) := by decide +kernel
theorem dX1_lookAt_76 : decode cX1_lookAt 76 = .ok (.iload_n 1, 1) := by decide +kernel
theorem dX1_lookAt_77 : decode cX1_lookAt 77 = .ok (.invokevirtual 139, 3) := by decide +kernel
theorem dX1_lookAt_80 : decode cX1_lookAt 80 = .ok (.return_, 1) := by decide +kernel
theorem dX1_lend_0 : decode cX1_lend 0 = .ok (.aload_n 0, 1) := by decide +kernel
theorem dX1_lend_1 : decode cX1_lend 1 = .ok (.iload_n 1, 1) := by decide +kernel
theorem dX1_lend_2 : decode cX1_lend 2 = .ok (.invokevirtual 142, 3) := by decide +kernel
theorem dX1_lend_5 : decode cX1_lend 5 = .ok (.aload_n 0, 1) := by decide +kernel
theorem dX1_lend_6 : decode cX1_lend 6 = .ok (.getfield 35, 3) := by decide +kernel
theorem dX1_lend_9 : decode cX1_lend 9 = .ok (.iload_n 1, 1) := by decide +kernel
theorem dX1_lend_10 : decode cX1_lend 10 = .ok (.iload_n 2, 1) := by decide +kernel
theorem dX1_lend_11 : decode cX1_lend 11 = .ok (.iastore, 1) := by decide +kernel
theorem dX1_lend_12 : decode cX1_lend 12 = .ok (.aload_n 0, 1) := by decide +kernel
theorem dX1_lend_13 : decode cX1_lend 13 = .ok (.getfield 38, 3) := by decide +kernel
theorem dX1_lend_16 : decode cX1_lend 16 = .ok (.iload_n 2, 1) := by decide +kernel
theorem dX1_lend_17 : decode cX1_lend 17 = .ok (.iload_n 1, 1) := by decide +kernel
theorem dX1_lend_18 : decode cX1_lend 18 = .ok (.iastore, 1) := by decide +kernel
theorem dX1_lend_19 : decode cX1_lend 19 = .ok (.return_, 1) := by decide +kernel
theorem dX1_lose_0 : decode cX1_lose 0 = .ok (.aload_n 0, 1) := by decide +kernel
theorem dX1_lose_1 : decode cX1_lose 1 = .ok (.iload_n 1, 1) := by decide +kernel
theorem dX1_lose_2 : decode cX1_lose 2 = .ok (.invokevirtual 142, 3) := by decide +kernel
theorem dX1_lose_5 : decode cX1_lose 5 = .ok (.aload_n 0, 1) := by decide +kernel
theorem dX1_lose_6 : decode cX1_lose 6 = .ok (.dup, 1) := by decide +kernel
theorem dX1_lose_7 : decode cX1_lose 7 = .ok (.getfield 50, 3) := by decide +kernel
theorem dX1_lose_10 : decode cX1_lose 10 = .ok (.iconst 1, 1) := by decide +kernel
theorem dX1_lose_11 : decode cX1_lose 11 = .ok (.iadd, 1) := by decide +kernel
theorem dX1_lose_12 : decode cX1_lose 12 = .ok (.putfield 50, 3) := by decide +kernel
theorem dX1_lose_15 : decode cX1_lose 15 = .ok (.return_, 1) := by decide +kernel
theorem dX1_release_0 : decode cX1_release 0 = .ok (.aload_n 0, 1) := by decide +kernel
theorem dX1_release_1 : decode cX1_release 1 = .ok (.iload_n 1, 1) := by decide +kernel
theorem dX1_release_2 : decode cX1_release 2 = .ok (.invokevirtual 83, 3) := by decide +kernel
theorem dX1_release_5 : decode cX1_release 5 = .ok (.ifCond .ne 16, 3) := by decide +kernel
theorem dX1_release_8 : decode cX1_release 8 = .ok (.aload_n 0, 1) := by decide +kernel
theorem dX1_release_9 : decode cX1_release 9 = .ok (.getfield 38, 3) := by decide +kernel
theorem dX1_release_12 : decode cX1_release 12 = .ok (.aload_n 0, 1) := by decide +kernel
theorem dX1_release_13 : decode cX1_release 13 = .ok (.getfield 35, 3) := by decide +kernel
theorem dX1_release_16 : decode cX1_release 16 = .ok (.iload_n 1, 1) := by decide +kernel
theorem dX1_release_17 : decode cX1_release 17 = .ok (.iaload, 1) := by decide +kernel
theorem dX1_release_18 : decode cX1_release 18 = .ok (.bipush (-5), 2) := by decide +kernel
theorem dX1_release_20 : decode cX1_release 20 = .ok (.iastore, 1) := by decide +kernel
theorem dX1_release_21 : decode cX1_release 21 = .ok (.aload_n 0, 1) := by decide +kernel
theorem dX1_release_22 : decode cX1_release 22 = .ok (.getfield 35, 3) := by decide +kernel
theorem dX1_release_25 : decode cX1_release 25 = .ok (.iload_n 1, 1) := by decide +kernel
theorem dX1_release_26 : decode cX1_release 26 = .ok (.bipush (-5), 2) := by decide +kernel
theorem dX1_release_28 : decode cX1_release 28 = .ok (.iastore, 1) := by decide +kernel
theorem dX1_release_29 : decode cX1_release 29 = .ok (.return_, 1) := by decide +kernel
theorem dX1_wearByReading_0 : decode cX1_wearByReading 0 = .ok (.aload_n 0, 1) := by decide +kernel
theorem dX1_wearByReading_1 : decode cX1_wearByReading 1 = .ok (.getfield 26, 3) := by decide +kernel
theorem dX1_wearByReading_4 : decode cX1_wearByReading 4 = .ok (.iload_n 1, 1) := by decide +kernel
theorem dX1_wearByReading_5 : decode cX1_wearByReading 5 = .ok (.dup2, 1) := by decide +kernel
theorem dX1_wearByReading_6 : decode cX1_wearByReading 6 = .ok (.iaload, 1) := by decide +kernel
theorem dX1_wearByReading_7 : decode cX1_wearByReading 7 = .ok (.aload_n 0, 1) := by decide +kernel
theorem dX1_wearByReading_8 : decode cX1_wearByReading 8 = .ok (.getfield 15, 3) := by decide +kernel
theorem dX1_wearByReading_11 : decode cX1_wearByReading 11 = .ok (.iload_n 1, 1) := by decide +kernel
theorem dX1_wearByReading_12 : decode cX1_wearByReading 12 = .ok (.invokestatic 80, 3) := by decide +kernel
theorem dX1_wearByReading_15 : decode cX1_wearByReading 15 = .ok (.iaload, 1) := by decide +kernel
theorem dX1_wearByReading_16 : decode cX1_wearByReading 16 = .ok (.iadd, 1) := by decide +kernel
theorem dX1_wearByReading_17 : decode cX1_wearByReading 17 = .ok (.iastore, 1) := by decide +kernel
theorem dX1_wearByReading_18 : decode cX1_wearByReading 18 = .ok (.return_, 1) := by decide +kernel
theorem dX1_wearByWriting_0 : decode cX1_wearByWriting 0 = .ok (.aload_n 0, 1) := by decide +kernel
theorem dX1_wearByWriting_1 : decode cX1_wearByWriting 1 = .ok (.getfield 26, 3) := by decide +kernel
theorem dX1_wearByWriting_4 : decode cX1_wearByWriting 4 = .ok (.iload_n 1, 1) := by decide +kernel
theorem dX1_wearByWriting_5 : decode cX1_wearByWriting 5 = .ok (.dup2, 1) := by decide +kernel
theorem dX1_wearByWriting_6 : decode cX1_wearByWriting 6 = .ok (.iaload, 1) := by decide +kernel
theorem dX1_wearByWriting_7 : decode cX1_wearByWriting 7 = .ok (.iconst 2, 1) := by decide +kernel
theorem dX1_wearByWriting_8 : decode cX1_wearByWriting 8 = .ok (.aload_n 0, 1) := by decide +kernel
theorem dX1_wearByWriting_9 : decode cX1_wearByWriting 9 = .ok (.getfield 15, 3) := by decide +kernel
theorem dX1_wearByWriting_12 : decode cX1_wearByWriting 12 = .ok (.iload_n 1, 1) := by decide +kernel
theorem dX1_wearByWriting_13 : decode cX1_wearByWriting 13 = .ok (.invokestatic 80, 3) := by decide +kernel
theorem dX1_wearByWriting_16 : decode cX1_wearByWriting 16 = .ok (.iaload, 1) := by decide +kernel
theorem dX1_wearByWriting_17 : decode cX1_wearByWriting 17 = .ok (.imul, 1) := by decide +kernel
theorem dX1_wearByWriting_18 : decode cX1_wearByWriting 18 = .ok (.iadd, 1) := by decide +kernel
theorem dX1_wearByWriting_19 : decode cX1_wearByWriting 19 = .ok (.iastore, 1) := by decide +kernel
theorem dX1_wearByWriting_20 : decode cX1_wearByWriting 20 = .ok (.return_, 1) := by decide +kernel
theorem dX1_goTo_0 : decode cX1_goTo 0 = .ok (.aload_n 0, 1) := by decide +kernel
theorem dX1_goTo_1 : decode cX1_goTo 1 = .ok (.dup, 1) := by decide +kernel
theorem dX1_goTo_2 : decode cX1_goTo 2 = .ok (.getfield 44, 3) := by decide +kernel
theorem dX1_goTo_5 : decode cX1_goTo 5 = .ok (.aload_n 0, 1) := by decide +kernel
theorem dX1_goTo_6 : decode cX1_goTo 6 = .ok (.iload_n 1, 1) := by decide +kernel
theorem dX1_goTo_7 : decode cX1_goTo 7 = .ok (.invokevirtual 145, 3) := by decide +kernel
theorem dX1_goTo_10 : decode cX1_goTo 10 = .ok (.iadd, 1) := by decide +kernel
theorem dX1_goTo_11 : decode cX1_goTo 11 = .ok (.putfield 44, 3) := by decide +kernel
theorem dX1_goTo_14 : decode cX1_goTo 14 = .ok (.aload_n 0, 1) := by decide +kernel
theorem dX1_goTo_15 : decode cX1_goTo 15 = .ok (.aload_n 0, 1) := by decide +kernel
theorem dX1_goTo_16 : decode cX1_goTo 16 = .ok (.getfield 35, 3) := by decide +kernel
theorem dX1_goTo_19 : decode cX1_goTo 19 = .ok (.iload_n 1, 1) := by decide +kernel
theorem dX1_goTo_20 : decode cX1_goTo 20 = .ok (.iaload, 1) := by decide +kernel
theorem dX1_goTo_21 : decode cX1_goTo 21 = .ok (.putfield 41, 3) := by decide +kernel
theorem dX1_goTo_24 : decode cX1_goTo 24 = .ok (.return_, 1) := by decide +kernel
theorem dX1_moveTo_0 : decode cX1_moveTo 0 = .ok (.aload_n 0, 1) := by decide +kernel
theorem dX1_moveTo_1 : decode cX1_moveTo 1 = .ok (.dup, 1) := by decide +kernel
theorem dX1_moveTo_2 : decode cX1_moveTo 2 = .ok (.getfield 44, 3) := by decide +kernel
theorem dX1_moveTo_5 : decode cX1_moveTo 5 = .ok (.aload_n 0, 1) := by decide +kernel
theorem dX1_moveTo_6 : decode cX1_moveTo 6 = .ok (.getfield 41, 3) := by decide +kernel
theorem dX1_moveTo_9 : decode cX1_moveTo 9 = .ok (.iload_n 1, 1) := by decide +kernel
theorem dX1_moveTo_10 : decode cX1_moveTo 10 = .ok (.invokestatic 101, 3) := by decide +kernel
theorem dX1_moveTo_13 : decode cX1_moveTo 13 = .ok (.iadd, 1) := by decide +kernel
theorem dX1_moveTo_14 : decode cX1_moveTo 14 = .ok (.putfield 44, 3) := by decide +kernel
theorem dX1_moveTo_17 : decode cX1_moveTo 17 = .ok (.aload_n 0, 1) := by decide +kernel
theorem dX1_moveTo_18 : decode cX1_moveTo 18 = .ok (.iload_n 1, 1) := by decide +kernel
theorem dX1_moveTo_19 : decode cX1_moveTo 19 = .ok (.putfield 41, 3) := by decide +kernel
theorem dX1_moveTo_22 : decode cX1_moveTo 22 = .ok (.return_, 1) := by decide +kernel
theorem dX1_giveBackAt_0 : decode cX1_giveBackAt 0 = .ok (.aload_n 0, 1) := by decide +kernel
theorem dX1_giveBackAt_1 : decode cX1_giveBackAt 1 = .ok (.iload_n 1, 1) := by decide +kernel
theorem dX1_giveBackAt_2 : decode cX1_giveBackAt 2 = .ok (.invokevirtual 69, 3) := by decide +kernel
theorem dX1_giveBackAt_5 : decode cX1_giveBackAt 5 = .ok (.ifCond .ne 5, 3) := by decide +kernel
theorem dX1_giveBackAt_8 : decode cX1_giveBackAt 8 = .ok (.iconst (-1), 1) := by decide +kernel
theorem dX1_giveBackAt_9 : decode cX1_giveBackAt 9 = .ok (.ireturn, 1) := by decide +kernel
theorem dX1_giveBackAt_10 : decode cX1_giveBackAt 10 = .ok (.aload_n 0, 1) := by decide +kernel
theorem dX1_giveBackAt_11 : decode cX1_giveBackAt 11 = .ok (.iload_n 1, 1) := by decide +kernel
theorem dX1_giveBackAt_12 : decode cX1_giveBackAt 12 = .ok (.invokevirtual 148, 3) := by decide +kernel
theorem dX1_giveBackAt_15 : decode cX1_giveBackAt 15 = .ok (.ifCond .ne 6, 3) := by decide +kernel
theorem dX1_giveBackAt_18 : decode cX1_giveBackAt 18 = .ok (.bipush (-5), 2) := by decide +kernel
theorem dX1_giveBackAt_20 : decode cX1_giveBackAt 20 = .ok (.ireturn, 1) := by decide +kernel
theorem dX1_giveBackAt_21 : decode cX1_giveBackAt 21 = .ok (.aload_n 0, 1) := by decide +kernel
theorem dX1_giveBackAt_22 : decode cX1_giveBackAt 22 = .ok (.iload_n 1, 1) := by decide +kernel
theorem dX1_giveBackAt_23 : decode cX1_giveBackAt 23 = .ok (.invokevirtual 86, 3) := by decide +kernel
theorem dX1_giveBackAt_26 : decode cX1_giveBackAt 26 = .ok (.ifCond .eq 15, 3) := by decide +kernel
theorem dX1_giveBackAt_29 : decode cX1_giveBackAt 29 = .ok (.aload_n 0, 1) := by decide +kernel
theorem dX1_giveBackAt_30 : decode cX1_giveBackAt 30 = .ok (.getfield 22, 3) := by decide +kernel
theorem dX1_giveBackAt_33 : decode cX1_giveBackAt 33 = .ok (.iload_n 1, 1) := by decide +kernel
theorem dX1_giveBackAt_34 : decode cX1_giveBackAt 34 = .ok (.invokestatic 80, 3) := by decide +kernel
theorem dX1_giveBackAt_37 : decode cX1_giveBackAt 37 = .ok (.baload, 1) := by decide +kernel
theorem dX1_giveBackAt_38 : decode cX1_giveBackAt 38 = .ok (.ifCond .eq 6, 3) := by decide +kernel
theorem dX1_giveBackAt_41 : decode cX1_giveBackAt 41 = .ok (.bipush (-4), 2) := by decide +kernel
theorem dX1_giveBackAt_43 : decode cX1_giveBackAt 43 = .ok (.ireturn, 1) := by decide +kernel
theorem dX1_giveBackAt_44 : decode cX1_giveBackAt 44 = .ok (.aload_n 0, 1) := by decide +kernel
theorem dX1_giveBackAt_45 : decode cX1_giveBackAt 45 = .ok (.getfield 35, 3) := by decide +kernel
theorem dX1_giveBackAt_48 : decode cX1_giveBackAt 48 = .ok (.iload_n 1, 1) := by decide +kernel
theorem dX1_giveBackAt_49 : decode cX1_giveBackAt 49 = .ok (.iaload, 1) := by decide +kernel
theorem dX1_giveBackAt_50 : decode cX1_giveBackAt 50 = .ok (.istore_n 2, 1) := by decide +kernel
theorem dX1_giveBackAt_51 : decode cX1_giveBackAt 51 = .ok (.aload_n 0, 1) := by decide +kernel
theorem dX1_giveBackAt_52 : decode cX1_giveBackAt 52 = .ok (.iload_n 1, 1) := by decide +kernel
theorem dX1_giveBackAt_53 : decode cX1_giveBackAt 53 = .ok (.invokevirtual 108, 3) := by decide +kernel
theorem dX1_giveBackAt_56 : decode cX1_giveBackAt 56 = .ok (.aload_n 0, 1) := by decide +kernel
theorem dX1_giveBackAt_57 : decode cX1_giveBackAt 57 = .ok (.iload_n 1, 1) := by decide +kernel
theorem dX1_giveBackAt_58 : decode cX1_giveBackAt 58 = .ok (.invokevirtual 136, 3) := by decide +kernel
theorem dX1_giveBackAt_61 : decode cX1_giveBackAt 61 = .ok (.aload_n 0, 1) := by decide +kernel
theorem dX1_giveBackAt_62 : decode cX1_giveBackAt 62 = .ok (.iload_n 1, 1) := by decide +kernel
theorem dX1_giveBackAt_63 : decode cX1_giveBackAt 63 = .ok (.invokevirtual 124, 3) := by decide +kernel
theorem dX1_giveBackAt_66 : decode cX1_giveBackAt 66 = .ok (.aload_n 0, 1) := by decide +kernel
theorem dX1_giveBackAt_67 : decode cX1_giveBackAt 67 = .ok (.iload_n 1, 1) := by decide +kernel
theorem dX1_giveBackAt_68 : decode cX1_giveBackAt 68 = .ok (.iload_n 1, 1) := by decide +kernel
theorem dX1_giveBackAt_69 : decode cX1_giveBackAt 69 = .ok (.invokevirtual 121, 3) := by decide +kernel
theorem dX1_giveBackAt_72 : decode cX1_giveBackAt 72 = .ok (.iload_n 2, 1) := by decide +kernel
theorem dX1_giveBackAt_73 : decode cX1_giveBackAt 73 = .ok (.ireturn, 1) := by decide +kernel
theorem dX1_vacate_0 : decode cX1_vacate 0 = .ok (.aload_n 0, 1) := by decide +kernel
theorem dX1_vacate_1 : decode cX1_vacate 1 = .ok (.getfield 50, 3) := by decide +kernel
theorem dX1_vacate_4 : decode cX1_vacate 4 = .ok (.istore_n 2, 1) := by decide +kernel
theorem dX1_vacate_5 : decode cX1_vacate 5 = .ok (.aload_n 0, 1) := by decide +kernel
theorem dX1_vacate_6 : decode cX1_vacate 6 = .ok (.getfield 22, 3) := by decide +kernel
theorem dX1_vacate_9 : decode cX1_vacate 9 = .ok (.iload_n 1, 1) := by decide +kernel
theorem dX1_vacate_10 : decode cX1_vacate 10 = .ok (.iconst 1, 1) := by decide +kernel
theorem dX1_vacate_11 : decode cX1_vacate 11 = .ok (.bastore, 1) := by decide +kernel
theorem dX1_vacate_12 : decode cX1_vacate 12 = .ok (.iconst 0, 1) := by decide +kernel
theorem dX1_vacate_13 : decode cX1_vacate 13 = .ok (.istore_n 3, 1) := by decide +kernel
theorem dX1_vacate_14 : decode cX1_vacate 14 = .ok (.iload_n 3, 1) := by decide +kernel
theorem dX1_vacate_15 : decode cX1_vacate 15 = .ok (.bipush 64, 2) := by decide +kernel
theorem dX1_vacate_17 : decode cX1_vacate 17 = .ok (.if_icmp .ge 43, 3) := by decide +kernel
theorem dX1_vacate_20 : decode cX1_vacate 20 = .ok (.aload_n 0, 1) := by decide +kernel
theorem dX1_vacate_21 : decode cX1_vacate 21 = .ok (.iload_n 3, 1) := by decide +kernel
theorem dX1_vacate_22 : decode cX1_vacate 22 = .ok (.invokevirtual 69, 3) := by decide +kernel
theorem dX1_vacate_25 : decode cX1_vacate 25 = .ok (.ifCond .eq 29, 3) := by decide +kernel
theorem dX1_vacate_28 : decode cX1_vacate 28 = .ok (.aload_n 0, 1) := by decide +kernel
theorem dX1_vacate_29 : decode cX1_vacate 29 = .ok (.iload_n 3, 1) := by decide +kernel
theorem dX1_vacate_30 : decode cX1_vacate 30 = .ok (.invokevirtual 83, 3) := by decide +kernel
theorem dX1_vacate_33 : decode cX1_vacate 33 = .ok (.ifCond .ne 21, 3) := by decide +kernel
theorem dX1_vacate_36 : decode cX1_vacate 36 = .ok (.aload_n 0, 1) := by decide +kernel
theorem dX1_vacate_37 : decode cX1_vacate 37 = .ok (.getfield 35, 3) := by decide +kernel
theorem dX1_vacate_40 : decode cX1_vacate 40 = .ok (.iload_n 3, 1) := by decide +kernel
theorem dX1_vacate_41 : decode cX1_vacate 41 = .ok (.iaload, 1) := by decide +kernel
theorem dX1_vacate_42 : decode cX1_vacate 42 = .ok (.invokestatic 80, 3) := by decide +kernel
theorem dX1_vacate_45 : decode cX1_vacate 45 = .ok (.iload_n 1, 1) := by decide +kernel
theorem dX1_vacate_46 : decode cX1_vacate 46 = .ok (.if_icmp .ne 8, 3) := by decide +kernel
theorem dX1_vacate_49 : decode cX1_vacate 49 = .ok (.aload_n 0, 1) := by decide +kernel
theorem dX1_vacate_50 : decode cX1_vacate 50 = .ok (.iload_n 3, 1) := by decide +kernel
theorem dX1_vacate_51 : decode cX1_vacate 51 = .ok (.invokevirtual 151, 3) := by decide +kernel
theorem dX1_vacate_54 : decode cX1_vacate 54 = .ok (.iinc 3 1, 3) := by decide +kernel
theorem dX1_vacate_57 : decode cX1_vacate 57 = .ok (.goto (-43), 3) := by decide +kernel
theorem dX1_vacate_60 : decode cX1_vacate 60 = .ok (.aload_n 0, 1) := by decide +kernel
theorem dX1_vacate_61 : decode cX1_vacate 61 = .ok (.getfield 50, 3) := by decide +kernel
theorem dX1_vacate_64 : decode cX1_vacate 64 = .ok (.iload_n 2, 1) := by decide +kernel
theorem dX1_vacate_65 : decode cX1_vacate 65 = .ok (.isub, 1) := by decide +kernel
theorem dX1_vacate_66 : decode cX1_vacate 66 = .ok (.ireturn, 1) := by decide +kernel
theorem dX1_moveAway_0 : decode cX1_moveAway 0 = .ok (.aload_n 0, 1) := by decide +kernel
theorem dX1_moveAway_1 : decode cX1_moveAway 1 = .ok (.iload_n 1, 1) := by decide +kernel
theorem dX1_moveAway_2 : decode cX1_moveAway 2 = .ok (.invokevirtual 118, 3) := by decide +kernel
theorem dX1_moveAway_5 : decode cX1_moveAway 5 = .ok (.istore_n 2, 1) := by decide +kernel
theorem dX1_moveAway_6 : decode cX1_moveAway 6 = .ok (.iload_n 2, 1) := by decide +kernel
theorem dX1_moveAway_7 : decode cX1_moveAway 7 = .ok (.bipush (-5), 2) := by decide +kernel
theorem dX1_moveAway_9 : decode cX1_moveAway 9 = .ok (.if_icmp .ne 11, 3) := by decide +kernel
theorem dX1_moveAway_12 : decode cX1_moveAway 12 = .ok (.aload_n 0, 1) := by decide +kernel
theorem dX1_moveAway_13 : decode cX1_moveAway 13 = .ok (.iload_n 1, 1) := by decide +kernel
theorem dX1_moveAway_14 : decode cX1_moveAway 14 = .ok (.invokevirtual 139, 3) := by decide +kernel
theorem dX1_moveAway_17 : decode cX1_moveAway 17 = .ok (.goto 14, 3) := by decide +kernel
theorem dX1_moveAway_20 : decode cX1_moveAway 20 = .ok (.aload_n 0, 1) := by decide +kernel
theorem dX1_moveAway_21 : decode cX1_moveAway 21 = .ok (.iload_n 1, 1) := by decide +kernel
theorem dX1_moveAway_22 : decode cX1_moveAway 22 = .ok (.iload_n 2, 1) := by decide +kernel
theorem dX1_moveAway_23 : decode cX1_moveAway 23 = .ok (.invokevirtual 121, 3) := by decide +kernel
theorem dX1_moveAway_26 : decode cX1_moveAway 26 = .ok (.aload_n 0, 1) := by decide +kernel
theorem dX1_moveAway_27 : decode cX1_moveAway 27 = .ok (.iload_n 2, 1) := by decide +kernel
theorem dX1_moveAway_28 : decode cX1_moveAway 28 = .ok (.invokevirtual 124, 3) := by decide +kernel
theorem dX1_moveAway_31 : decode cX1_moveAway 31 = .ok (.return_, 1) := by decide +kernel
theorem dX1_tellAddress_0 : decode cX1_tellAddress 0 = .ok (.iload_n 2, 1) := by decide +kernel
theorem dX1_tellAddress_1 : decode cX1_tellAddress 1 = .ok (.tableswitch 112 0 5 #[39, 59, 66, 80, 86, 105], 39) := by decide +kernel
theorem dX1_tellAddress_40 : decode cX1_tellAddress 40 = .ok (.aload_n 0, 1) := by decide +kernel
theorem dX1_tellAddress_41 : decode cX1_tellAddress 41 = .ok (.iload_n 1, 1) := by decide +kernel
theorem dX1_tellAddress_42 : decode cX1_tellAddress 42 = .ok (.invokevirtual 83, 3) := by decide +kernel
theorem dX1_tellAddress_45 : decode cX1_tellAddress 45 = .ok (.ifCond .eq 8, 3) := by decide +kernel
theorem dX1_tellAddress_48 : decode cX1_tellAddress 48 = .ok (.bipush (-5), 2) := by decide +kernel
theorem dX1_tellAddress_50 : decode cX1_tellAddress 50 = .ok (.goto 9, 3) := by decide +kernel
theorem dX1_tellAddress_53 : decode cX1_tellAddress 53 = .ok (.aload_n 0, 1) := by decide +kernel
theorem dX1_tellAddress_54 : decode cX1_tellAddress 54 = .ok (.getfield 29, 3) := by decide +kernel
theorem dX1_tellAddress_57 : decode cX1_tellAddress 57 = .ok (.iload_n 1, 1) := by decide +kernel
theorem dX1_tellAddress_58 : decode cX1_tellAddress 58 = .ok (.iaload, 1) := by decide +kernel
theorem dX1_tellAddress_59 : decode cX1_tellAddress 59 = .ok (.ireturn, 1) := by decide +kernel
theorem dX1_tellAddress_60 : decode cX1_tellAddress 60 = .ok (.aload_n 0, 1) := by decide +kernel
theorem dX1_tellAddress_61 : decode cX1_tellAddress 61 = .ok (.getfield 35, 3) := by decide +kernel
theorem dX1_tellAddress_64 : decode cX1_tellAddress 64 = .ok (.iload_n 1, 1) := by decide +kernel
theorem dX1_tellAddress_65 : decode cX1_tellAddress 65 = .ok (.iaload, 1) := by decide +kernel
theorem dX1_tellAddress_66 : decode cX1_tellAddress 66 = .ok (.ireturn, 1) := by decide +kernel
theorem dX1_tellAddress_67 : decode cX1_tellAddress 67 = .ok (.aload_n 0, 1) := by decide +kernel
theorem dX1_tellAddress_68 : decode cX1_tellAddress 68 = .ok (.iload_n 1, 1) := by decide +kernel
theorem dX1_tellAddress_69 : decode cX1_tellAddress 69 = .ok (.invokevirtual 148, 3) := by decide +kernel
theorem dX1_tellAddress_72 : decode cX1_tellAddress 72 = .ok (.ifCond .eq 7, 3) := by decide +kernel
theorem dX1_tellAddress_75 : decode cX1_tellAddress 75 = .ok (.iconst 1, 1) := by decide +kernel
theorem dX1_tellAddress_76 : decode cX1_tellAddress 76 = .ok (.goto 4, 3) := by decide +kernel
theorem dX1_tellAddress_79 : decode cX1_tellAddress 79 = .ok (.iconst 0, 1) := by decide +kernel
theorem dX1_tellAddress_80 : decode cX1_tellAddress 80 = .ok (.ireturn, 1) := by decide +kernel
theorem dX1_tellAddress_81 : decode cX1_tellAddress 81 = .ok (.aload_n 0, 1) := by decide +kernel
theorem dX1_tellAddress_82 : decode cX1_tellAddress 82 = .ok (.iload_n 1, 1) := by decide +kernel
theorem dX1_tellAddress_83 : decode cX1_tellAddress 83 = .ok (.invokevirtual 118, 3) := by decide +kernel
theorem dX1_tellAddress_86 : decode cX1_tellAddress 86 = .ok (.ireturn, 1) := by decide +kernel
theorem dX1_tellAddress_87 : decode cX1_tellAddress 87 = .ok (.aload_n 0, 1) := by decide +kernel
theorem dX1_tellAddress_88 : decode cX1_tellAddress 88 = .ok (.iload_n 1, 1) := by decide +kernel
theorem dX1_tellAddress_89 : decode cX1_tellAddress 89 = .ok (.invokevirtual 83, 3) := by decide +kernel
theorem dX1_tellAddress_92 : decode cX1_tellAddress 92 = .ok (.ifCond .eq 8, 3) := by decide +kernel
theorem dX1_tellAddress_95 : decode cX1_tellAddress 95 = .ok (.bipush (-5), 2) := by decide +kernel
theorem dX1_tellAddress_97 : decode cX1_tellAddress 97 = .ok (.goto 8, 3) := by decide +kernel
theorem dX1_tellAddress_100 : decode cX1_tellAddress 100 = .ok (.aload_n 0, 1) := by decide +kernel
theorem dX1_tellAddress_101 : decode cX1_tellAddress 101 = .ok (.iload_n 1, 1) := by decide +kernel
theorem dX1_tellAddress_102 : decode cX1_tellAddress 102 = .ok (.invokevirtual 145, 3) := by decide +kernel
theorem dX1_tellAddress_105 : decode cX1_tellAddress 105 = .ok (.ireturn, 1) := by decide +kernel
theorem dX1_tellAddress_106 : decode cX1_tellAddress 106 = .ok (.aload_n 0, 1) := by decide +kernel
theorem dX1_tellAddress_107 : decode cX1_tellAddress 107 = .ok (.getfield 32, 3) := by decide +kernel
theorem dX1_tellAddress_110 : decode cX1_tellAddress 110 = .ok (.iload_n 1, 1) := by decide +kernel
theorem dX1_tellAddress_111 : decode cX1_tellAddress 111 = .ok (.iaload, 1) := by decide +kernel
theorem dX1_tellAddress_112 : decode cX1_tellAddress 112 = .ok (.ireturn, 1) := by decide +kernel
theorem dX1_tellAddress_113 : decode cX1_tellAddress 113 = .ok (.bipush (-2), 2) := by decide +kernel
theorem dX1_tellAddress_115 : decode cX1_tellAddress 115 = .ok (.ireturn, 1) := by decide +kernel
theorem dX1_tellSector_0 : decode cX1_tellSector 0 = .ok (.iload_n 2, 1) := by decide +kernel
theorem dX1_tellSector_1 : decode cX1_tellSector 1 = .ok (.tableswitch 83 0 4 #[35, 42, 48, 62, 69], 35) := by decide +kernel
theorem dX1_tellSector_36 : decode cX1_tellSector 36 = .ok (.aload_n 0, 1) := by decide +kernel
theorem dX1_tellSector_37 : decode cX1_tellSector 37 = .ok (.getfield 26, 3) := by decide +kernel
theorem dX1_tellSector_40 : decode cX1_tellSector 40 = .ok (.iload_n 1, 1) := by decide +kernel
theorem dX1_tellSector_41 : decode cX1_tellSector 41 = .ok (.iaload, 1) := by decide +kernel
theorem dX1_tellSector_42 : decode cX1_tellSector 42 = .ok (.ireturn, 1) := by decide +kernel
theorem dX1_tellSector_43 : decode cX1_tellSector 43 = .ok (.aload_n 0, 1) := by decide +kernel
theorem dX1_tellSector_44 : decode cX1_tellSector 44 = .ok (.iload_n 1, 1) := by decide +kernel
theorem dX1_tellSector_45 : decode cX1_tellSector 45 = .ok (.invokevirtual 154, 3) := by decide +kernel
theorem dX1_tellSector_48 : decode cX1_tellSector 48 = .ok (.ireturn, 1) := by decide +kernel
theorem dX1_tellSector_49 : decode cX1_tellSector 49 = .ok (.aload_n 0, 1) := by decide +kernel
theorem dX1_tellSector_50 : decode cX1_tellSector 50 = .ok (.iload_n 1, 1) := by decide +kernel
end
section
theorem dX1_tellSector_51 : decode cX1_tellSector 51 = .ok (.invokevirtual 69, 3) := by decide +kernel
theorem dX1_tellSector_54 : decode cX1_tellSector 54 = .ok (.ifCond .eq 7, 3) := by decide +kernel
theorem dX1_tellSector_57 : decode cX1_tellSector 57 = .ok (.iconst 0, 1) := by decide +kernel
theorem dX1_tellSector_58 : decode cX1_tellSector 58 = .ok (.goto 4, 3) := by decide +kernel
theorem dX1_tellSector_61 : decode cX1_tellSector 61 = .ok (.iconst 1, 1) := by decide +kernel
theorem dX1_tellSector_62 : decode cX1_tellSector 62 = .ok (.ireturn, 1) := by decide +kernel
theorem dX1_tellSector_63 : decode cX1_tellSector 63 = .ok (.aload_n 0, 1) := by decide +kernel
theorem dX1_tellSector_64 : decode cX1_tellSector 64 = .ok (.getfield 38, 3) := by decide +kernel
theorem dX1_tellSector_67 : decode cX1_tellSector 67 = .ok (.iload_n 1, 1) := by decide +kernel
theorem dX1_tellSector_68 : decode cX1_tellSector 68 = .ok (.iaload, 1) := by decide +kernel
theorem dX1_tellSector_69 : decode cX1_tellSector 69 = .ok (.ireturn, 1) := by decide +kernel
theorem dX1_tellSector_70 : decode cX1_tellSector 70 = .ok (.aload_n 0, 1) := by decide +kernel
theorem dX1_tellSector_71 : decode cX1_tellSector 71 = .ok (.iload_n 1, 1) := by decide +kernel
theorem dX1_tellSector_72 : decode cX1_tellSector 72 = .ok (.invokevirtual 92, 3) := by decide +kernel
theorem dX1_tellSector_75 : decode cX1_tellSector 75 = .ok (.ifCond .eq 7, 3) := by decide +kernel
theorem dX1_tellSector_78 : decode cX1_tellSector 78 = .ok (.iconst 1, 1) := by decide +kernel
theorem dX1_tellSector_79 : decode cX1_tellSector 79 = .ok (.goto 4, 3) := by decide +kernel
theorem dX1_tellSector_82 : decode cX1_tellSector 82 = .ok (.iconst 0, 1) := by decide +kernel
theorem dX1_tellSector_83 : decode cX1_tellSector 83 = .ok (.ireturn, 1) := by decide +kernel
theorem dX1_tellSector_84 : decode cX1_tellSector 84 = .ok (.bipush (-2), 2) := by decide +kernel
theorem dX1_tellSector_86 : decode cX1_tellSector 86 = .ok (.ireturn, 1) := by decide +kernel
theorem dX1_tellHead_0 : decode cX1_tellHead 0 = .ok (.iload_n 2, 1) := by decide +kernel
theorem dX1_tellHead_1 : decode cX1_tellHead 1 = .ok (.tableswitch 136 0 9 #[55, 62, 69, 75, 90, 100, 110, 116, 122, 129], 55) := by decide +kernel
theorem dX1_tellHead_56 : decode cX1_tellHead 56 = .ok (.aload_n 0, 1) := by decide +kernel
theorem dX1_tellHead_57 : decode cX1_tellHead 57 = .ok (.getfield 15, 3) := by decide +kernel
theorem dX1_tellHead_60 : decode cX1_tellHead 60 = .ok (.iload_n 1, 1) := by decide +kernel
theorem dX1_tellHead_61 : decode cX1_tellHead 61 = .ok (.iaload, 1) := by decide +kernel
theorem dX1_tellHead_62 : decode cX1_tellHead 62 = .ok (.ireturn, 1) := by decide +kernel
theorem dX1_tellHead_63 : decode cX1_tellHead 63 = .ok (.aload_n 0, 1) := by decide +kernel
theorem dX1_tellHead_64 : decode cX1_tellHead 64 = .ok (.getfield 19, 3) := by decide +kernel
theorem dX1_tellHead_67 : decode cX1_tellHead 67 = .ok (.iload_n 1, 1) := by decide +kernel
theorem dX1_tellHead_68 : decode cX1_tellHead 68 = .ok (.iaload, 1) := by decide +kernel
theorem dX1_tellHead_69 : decode cX1_tellHead 69 = .ok (.ireturn, 1) := by decide +kernel
theorem dX1_tellHead_70 : decode cX1_tellHead 70 = .ok (.aload_n 0, 1) := by decide +kernel
theorem dX1_tellHead_71 : decode cX1_tellHead 71 = .ok (.iload_n 1, 1) := by decide +kernel
theorem dX1_tellHead_72 : decode cX1_tellHead 72 = .ok (.invokevirtual 98, 3) := by decide +kernel
theorem dX1_tellHead_75 : decode cX1_tellHead 75 = .ok (.ireturn, 1) := by decide +kernel
theorem dX1_tellHead_76 : decode cX1_tellHead 76 = .ok (.aload_n 0, 1) := by decide +kernel
theorem dX1_tellHead_77 : decode cX1_tellHead 77 = .ok (.getfield 22, 3) := by decide +kernel
theorem dX1_tellHead_80 : decode cX1_tellHead 80 = .ok (.iload_n 1, 1) := by decide +kernel
theorem dX1_tellHead_81 : decode cX1_tellHead 81 = .ok (.baload, 1) := by decide +kernel
theorem dX1_tellHead_82 : decode cX1_tellHead 82 = .ok (.ifCond .eq 7, 3) := by decide +kernel
theorem dX1_tellHead_85 : decode cX1_tellHead 85 = .ok (.iconst 1, 1) := by decide +kernel
theorem dX1_tellHead_86 : decode cX1_tellHead 86 = .ok (.goto 4, 3) := by decide +kernel
theorem dX1_tellHead_89 : decode cX1_tellHead 89 = .ok (.iconst 0, 1) := by decide +kernel
theorem dX1_tellHead_90 : decode cX1_tellHead 90 = .ok (.ireturn, 1) := by decide +kernel
theorem dX1_tellHead_91 : decode cX1_tellHead 91 = .ok (.aload_n 0, 1) := by decide +kernel
theorem dX1_tellHead_92 : decode cX1_tellHead 92 = .ok (.aload_n 0, 1) := by decide +kernel
theorem dX1_tellHead_93 : decode cX1_tellHead 93 = .ok (.getfield 38, 3) := by decide +kernel
theorem dX1_tellHead_96 : decode cX1_tellHead 96 = .ok (.iload_n 1, 1) := by decide +kernel
theorem dX1_tellHead_97 : decode cX1_tellHead 97 = .ok (.invokevirtual 157, 3) := by decide +kernel
theorem dX1_tellHead_100 : decode cX1_tellHead 100 = .ok (.ireturn, 1) := by decide +kernel
theorem dX1_tellHead_101 : decode cX1_tellHead 101 = .ok (.aload_n 0, 1) := by decide +kernel
theorem dX1_tellHead_102 : decode cX1_tellHead 102 = .ok (.aload_n 0, 1) := by decide +kernel
theorem dX1_tellHead_103 : decode cX1_tellHead 103 = .ok (.getfield 35, 3) := by decide +kernel
theorem dX1_tellHead_106 : decode cX1_tellHead 106 = .ok (.iload_n 1, 1) := by decide +kernel
theorem dX1_tellHead_107 : decode cX1_tellHead 107 = .ok (.invokevirtual 157, 3) := by decide +kernel
theorem dX1_tellHead_110 : decode cX1_tellHead 110 = .ok (.ireturn, 1) := by decide +kernel
theorem dX1_tellHead_111 : decode cX1_tellHead 111 = .ok (.aload_n 0, 1) := by decide +kernel
theorem dX1_tellHead_112 : decode cX1_tellHead 112 = .ok (.iload_n 1, 1) := by decide +kernel
theorem dX1_tellHead_113 : decode cX1_tellHead 113 = .ok (.invokevirtual 133, 3) := by decide +kernel
theorem dX1_tellHead_116 : decode cX1_tellHead 116 = .ok (.ireturn, 1) := by decide +kernel
theorem dX1_tellHead_117 : decode cX1_tellHead 117 = .ok (.aload_n 0, 1) := by decide +kernel
theorem dX1_tellHead_118 : decode cX1_tellHead 118 = .ok (.iload_n 1, 1) := by decide +kernel
theorem dX1_tellHead_119 : decode cX1_tellHead 119 = .ok (.invokevirtual 105, 3) := by decide +kernel
theorem dX1_tellHead_122 : decode cX1_tellHead 122 = .ok (.ireturn, 1) := by decide +kernel
theorem dX1_tellHead_123 : decode cX1_tellHead 123 = .ok (.aload_n 0, 1) := by decide +kernel
theorem dX1_tellHead_124 : decode cX1_tellHead 124 = .ok (.iload_n 1, 1) := by decide +kernel
theorem dX1_tellHead_125 : decode cX1_tellHead 125 = .ok (.iconst 1, 1) := by decide +kernel
theorem dX1_tellHead_126 : decode cX1_tellHead 126 = .ok (.invokevirtual 161, 3) := by decide +kernel
theorem dX1_tellHead_129 : decode cX1_tellHead 129 = .ok (.ireturn, 1) := by decide +kernel
theorem dX1_tellHead_130 : decode cX1_tellHead 130 = .ok (.aload_n 0, 1) := by decide +kernel
theorem dX1_tellHead_131 : decode cX1_tellHead 131 = .ok (.iload_n 1, 1) := by decide +kernel
theorem dX1_tellHead_132 : decode cX1_tellHead 132 = .ok (.iconst 2, 1) := by decide +kernel
theorem dX1_tellHead_133 : decode cX1_tellHead 133 = .ok (.invokevirtual 161, 3) := by decide +kernel
theorem dX1_tellHead_136 : decode cX1_tellHead 136 = .ok (.ireturn, 1) := by decide +kernel
theorem dX1_tellHead_137 : decode cX1_tellHead 137 = .ok (.bipush (-2), 2) := by decide +kernel
theorem dX1_tellHead_139 : decode cX1_tellHead 139 = .ok (.ireturn, 1) := by decide +kernel
theorem dX1_tellWhole_0 : decode cX1_tellWhole 0 = .ok (.iload_n 1, 1) := by decide +kernel
theorem dX1_tellWhole_1 : decode cX1_tellWhole 1 = .ok (.tableswitch 136 0 11 #[63, 68, 77, 84, 89, 95, 103, 111, 116, 121, 126, 131], 63) := by decide +kernel
theorem dX1_tellWhole_64 : decode cX1_tellWhole 64 = .ok (.aload_n 0, 1) := by decide +kernel
theorem dX1_tellWhole_65 : decode cX1_tellWhole 65 = .ok (.getfield 9, 3) := by decide +kernel
theorem dX1_tellWhole_68 : decode cX1_tellWhole 68 = .ok (.ireturn, 1) := by decide +kernel
theorem dX1_tellWhole_69 : decode cX1_tellWhole 69 = .ok (.bipush 64, 2) := by decide +kernel
theorem dX1_tellWhole_71 : decode cX1_tellWhole 71 = .ok (.aload_n 0, 1) := by decide +kernel
theorem dX1_tellWhole_72 : decode cX1_tellWhole 72 = .ok (.iconst 1, 1) := by decide +kernel
theorem dX1_tellWhole_73 : decode cX1_tellWhole 73 = .ok (.invokevirtual 164, 3) := by decide +kernel
theorem dX1_tellWhole_76 : decode cX1_tellWhole 76 = .ok (.isub, 1) := by decide +kernel
theorem dX1_tellWhole_77 : decode cX1_tellWhole 77 = .ok (.ireturn, 1) := by decide +kernel
theorem dX1_tellWhole_78 : decode cX1_tellWhole 78 = .ok (.aload_n 0, 1) := by decide +kernel
theorem dX1_tellWhole_79 : decode cX1_tellWhole 79 = .ok (.bipush 6, 2) := by decide +kernel
theorem dX1_tellWhole_81 : decode cX1_tellWhole 81 = .ok (.invokevirtual 164, 3) := by decide +kernel
theorem dX1_tellWhole_84 : decode cX1_tellWhole 84 = .ok (.ireturn, 1) := by decide +kernel
theorem dX1_tellWhole_85 : decode cX1_tellWhole 85 = .ok (.aload_n 0, 1) := by decide +kernel
theorem dX1_tellWhole_86 : decode cX1_tellWhole 86 = .ok (.invokevirtual 167, 3) := by decide +kernel
theorem dX1_tellWhole_89 : decode cX1_tellWhole 89 = .ok (.ireturn, 1) := by decide +kernel
theorem dX1_tellWhole_90 : decode cX1_tellWhole 90 = .ok (.aload_n 0, 1) := by decide +kernel
theorem dX1_tellWhole_91 : decode cX1_tellWhole 91 = .ok (.iconst 2, 1) := by decide +kernel
theorem dX1_tellWhole_92 : decode cX1_tellWhole 92 = .ok (.invokevirtual 164, 3) := by decide +kernel
theorem dX1_tellWhole_95 : decode cX1_tellWhole 95 = .ok (.ireturn, 1) := by decide +kernel
theorem dX1_tellWhole_96 : decode cX1_tellWhole 96 = .ok (.aload_n 0, 1) := by decide +kernel
theorem dX1_tellWhole_97 : decode cX1_tellWhole 97 = .ok (.getfield 41, 3) := by decide +kernel
theorem dX1_tellWhole_100 : decode cX1_tellWhole 100 = .ok (.invokestatic 76, 3) := by decide +kernel
theorem dX1_tellWhole_103 : decode cX1_tellWhole 103 = .ok (.ireturn, 1) := by decide +kernel
theorem dX1_tellWhole_104 : decode cX1_tellWhole 104 = .ok (.aload_n 0, 1) := by decide +kernel
theorem dX1_tellWhole_105 : decode cX1_tellWhole 105 = .ok (.getfield 41, 3) := by decide +kernel
theorem dX1_tellWhole_108 : decode cX1_tellWhole 108 = .ok (.invokestatic 80, 3) := by decide +kernel
theorem dX1_tellWhole_111 : decode cX1_tellWhole 111 = .ok (.ireturn, 1) := by decide +kernel
theorem dX1_tellWhole_112 : decode cX1_tellWhole 112 = .ok (.aload_n 0, 1) := by decide +kernel
theorem dX1_tellWhole_113 : decode cX1_tellWhole 113 = .ok (.getfield 44, 3) := by decide +kernel
theorem dX1_tellWhole_116 : decode cX1_tellWhole 116 = .ok (.ireturn, 1) := by decide +kernel
theorem dX1_tellWhole_117 : decode cX1_tellWhole 117 = .ok (.aload_n 0, 1) := by decide +kernel
theorem dX1_tellWhole_118 : decode cX1_tellWhole 118 = .ok (.getfield 47, 3) := by decide +kernel
theorem dX1_tellWhole_121 : decode cX1_tellWhole 121 = .ok (.ireturn, 1) := by decide +kernel
theorem dX1_tellWhole_122 : decode cX1_tellWhole 122 = .ok (.aload_n 0, 1) := by decide +kernel
theorem dX1_tellWhole_123 : decode cX1_tellWhole 123 = .ok (.getfield 50, 3) := by decide +kernel
theorem dX1_tellWhole_126 : decode cX1_tellWhole 126 = .ok (.ireturn, 1) := by decide +kernel
theorem dX1_tellWhole_127 : decode cX1_tellWhole 127 = .ok (.aload_n 0, 1) := by decide +kernel
theorem dX1_tellWhole_128 : decode cX1_tellWhole 128 = .ok (.getfield 53, 3) := by decide +kernel
theorem dX1_tellWhole_131 : decode cX1_tellWhole 131 = .ok (.ireturn, 1) := by decide +kernel
theorem dX1_tellWhole_132 : decode cX1_tellWhole 132 = .ok (.aload_n 0, 1) := by decide +kernel
theorem dX1_tellWhole_133 : decode cX1_tellWhole 133 = .ok (.getfield 56, 3) := by decide +kernel
theorem dX1_tellWhole_136 : decode cX1_tellWhole 136 = .ok (.ireturn, 1) := by decide +kernel
theorem dX1_tellWhole_137 : decode cX1_tellWhole 137 = .ok (.bipush (-2), 2) := by decide +kernel
theorem dX1_tellWhole_139 : decode cX1_tellWhole 139 = .ok (.ireturn, 1) := by decide +kernel
theorem dX1_readsUntilChange_0 : decode cX1_readsUntilChange 0 = .ok (.aload_n 0, 1) := by decide +kernel
theorem dX1_readsUntilChange_1 : decode cX1_readsUntilChange 1 = .ok (.iload_n 1, 1) := by decide +kernel
theorem dX1_readsUntilChange_2 : decode cX1_readsUntilChange 2 = .ok (.invokevirtual 69, 3) := by decide +kernel
theorem dX1_readsUntilChange_5 : decode cX1_readsUntilChange 5 = .ok (.ifCond .ne 5, 3) := by decide +kernel
theorem dX1_readsUntilChange_8 : decode cX1_readsUntilChange 8 = .ok (.iconst (-1), 1) := by decide +kernel
theorem dX1_readsUntilChange_9 : decode cX1_readsUntilChange 9 = .ok (.ireturn, 1) := by decide +kernel
theorem dX1_readsUntilChange_10 : decode cX1_readsUntilChange 10 = .ok (.aload_n 0, 1) := by decide +kernel
theorem dX1_readsUntilChange_11 : decode cX1_readsUntilChange 11 = .ok (.iload_n 1, 1) := by decide +kernel
theorem dX1_readsUntilChange_12 : decode cX1_readsUntilChange 12 = .ok (.invokevirtual 83, 3) := by decide +kernel
theorem dX1_readsUntilChange_15 : decode cX1_readsUntilChange 15 = .ok (.ifCond .eq 6, 3) := by decide +kernel
theorem dX1_readsUntilChange_18 : decode cX1_readsUntilChange 18 = .ok (.bipush (-4), 2) := by decide +kernel
theorem dX1_readsUntilChange_20 : decode cX1_readsUntilChange 20 = .ok (.ireturn, 1) := by decide +kernel
theorem dX1_readsUntilChange_21 : decode cX1_readsUntilChange 21 = .ok (.aload_n 0, 1) := by decide +kernel
theorem dX1_readsUntilChange_22 : decode cX1_readsUntilChange 22 = .ok (.getfield 35, 3) := by decide +kernel
theorem dX1_readsUntilChange_25 : decode cX1_readsUntilChange 25 = .ok (.iload_n 1, 1) := by decide +kernel
theorem dX1_readsUntilChange_26 : decode cX1_readsUntilChange 26 = .ok (.iaload, 1) := by decide +kernel
theorem dX1_readsUntilChange_27 : decode cX1_readsUntilChange 27 = .ok (.istore_n 2, 1) := by decide +kernel
theorem dX1_readsUntilChange_28 : decode cX1_readsUntilChange 28 = .ok (.aload_n 0, 1) := by decide +kernel
theorem dX1_readsUntilChange_29 : decode cX1_readsUntilChange 29 = .ok (.iload_n 1, 1) := by decide +kernel
theorem dX1_readsUntilChange_30 : decode cX1_readsUntilChange 30 = .ok (.invokevirtual 118, 3) := by decide +kernel
theorem dX1_readsUntilChange_33 : decode cX1_readsUntilChange 33 = .ok (.bipush (-5), 2) := by decide +kernel
theorem dX1_readsUntilChange_35 : decode cX1_readsUntilChange 35 = .ok (.if_icmp .eq 10, 3) := by decide +kernel
theorem dX1_readsUntilChange_38 : decode cX1_readsUntilChange 38 = .ok (.aload_n 0, 1) := by decide +kernel
theorem dX1_readsUntilChange_39 : decode cX1_readsUntilChange 39 = .ok (.getfield 9, 3) := by decide +kernel
theorem dX1_readsUntilChange_42 : decode cX1_readsUntilChange 42 = .ok (.goto 9, 3) := by decide +kernel
theorem dX1_readsUntilChange_45 : decode cX1_readsUntilChange 45 = .ok (.iconst 2, 1) := by decide +kernel
theorem dX1_readsUntilChange_46 : decode cX1_readsUntilChange 46 = .ok (.aload_n 0, 1) := by decide +kernel
theorem dX1_readsUntilChange_47 : decode cX1_readsUntilChange 47 = .ok (.getfield 9, 3) := by decide +kernel
theorem dX1_readsUntilChange_50 : decode cX1_readsUntilChange 50 = .ok (.imul, 1) := by decide +kernel
theorem dX1_readsUntilChange_51 : decode cX1_readsUntilChange 51 = .ok (.istore_n 3, 1) := by decide +kernel
theorem dX1_readsUntilChange_52 : decode cX1_readsUntilChange 52 = .ok (.aload_n 0, 1) := by decide +kernel
theorem dX1_readsUntilChange_53 : decode cX1_readsUntilChange 53 = .ok (.getfield 26, 3) := by decide +kernel
theorem dX1_readsUntilChange_56 : decode cX1_readsUntilChange 56 = .ok (.iload_n 2, 1) := by decide +kernel
theorem dX1_readsUntilChange_57 : decode cX1_readsUntilChange 57 = .ok (.iaload, 1) := by decide +kernel
theorem dX1_readsUntilChange_58 : decode cX1_readsUntilChange 58 = .ok (.istore 4, 2) := by decide +kernel
theorem dX1_readsUntilChange_60 : decode cX1_readsUntilChange 60 = .ok (.iconst 1, 1) := by decide +kernel
theorem dX1_readsUntilChange_61 : decode cX1_readsUntilChange 61 = .ok (.istore 5, 2) := by decide +kernel
theorem dX1_readsUntilChange_63 : decode cX1_readsUntilChange 63 = .ok (.iload 5, 2) := by decide +kernel
theorem dX1_readsUntilChange_65 : decode cX1_readsUntilChange 65 = .ok (.sipush 2000, 3) := by decide +kernel
theorem dX1_readsUntilChange_68 : decode cX1_readsUntilChange 68 = .ok (.if_icmp .gt 32, 3) := by decide +kernel
theorem dX1_readsUntilChange_71 : decode cX1_readsUntilChange 71 = .ok (.iload 4, 2) := by decide +kernel
theorem dX1_readsUntilChange_73 : decode cX1_readsUntilChange 73 = .ok (.aload_n 0, 1) := by decide +kernel
theorem dX1_readsUntilChange_74 : decode cX1_readsUntilChange 74 = .ok (.getfield 15, 3) := by decide +kernel
theorem dX1_readsUntilChange_77 : decode cX1_readsUntilChange 77 = .ok (.iload_n 2, 1) := by decide +kernel
theorem dX1_readsUntilChange_78 : decode cX1_readsUntilChange 78 = .ok (.invokestatic 80, 3) := by decide +kernel
theorem dX1_readsUntilChange_81 : decode cX1_readsUntilChange 81 = .ok (.iaload, 1) := by decide +kernel
theorem dX1_readsUntilChange_82 : decode cX1_readsUntilChange 82 = .ok (.iadd, 1) := by decide +kernel
theorem dX1_readsUntilChange_83 : decode cX1_readsUntilChange 83 = .ok (.istore 4, 2) := by decide +kernel
theorem dX1_readsUntilChange_85 : decode cX1_readsUntilChange 85 = .ok (.iload 4, 2) := by decide +kernel
theorem dX1_readsUntilChange_87 : decode cX1_readsUntilChange 87 = .ok (.iload_n 3, 1) := by decide +kernel
theorem dX1_readsUntilChange_88 : decode cX1_readsUntilChange 88 = .ok (.if_icmp .lt 6, 3) := by decide +kernel
theorem dX1_readsUntilChange_91 : decode cX1_readsUntilChange 91 = .ok (.iload 5, 2) := by decide +kernel
theorem dX1_readsUntilChange_93 : decode cX1_readsUntilChange 93 = .ok (.ireturn, 1) := by decide +kernel
theorem dX1_readsUntilChange_94 : decode cX1_readsUntilChange 94 = .ok (.iinc 5 1, 3) := by decide +kernel
theorem dX1_readsUntilChange_97 : decode cX1_readsUntilChange 97 = .ok (.goto (-34), 3) := by decide +kernel
theorem dX1_readsUntilChange_100 : decode cX1_readsUntilChange 100 = .ok (.bipush (-5), 2) := by decide +kernel
theorem dX1_readsUntilChange_102 : decode cX1_readsUntilChange 102 = .ok (.ireturn, 1) := by decide +kernel
theorem dX1_addressOfRank_0 : decode cX1_addressOfRank 0 = .ok (.iconst 0, 1) := by decide +kernel
theorem dX1_addressOfRank_1 : decode cX1_addressOfRank 1 = .ok (.istore_n 2, 1) := by decide +kernel
theorem dX1_addressOfRank_2 : decode cX1_addressOfRank 2 = .ok (.iload_n 2, 1) := by decide +kernel
theorem dX1_addressOfRank_3 : decode cX1_addressOfRank 3 = .ok (.bipush 64, 2) := by decide +kernel
theorem dX1_addressOfRank_5 : decode cX1_addressOfRank 5 = .ok (.if_icmp .ge 28, 3) := by decide +kernel
theorem dX1_addressOfRank_8 : decode cX1_addressOfRank 8 = .ok (.aload_n 0, 1) := by decide +kernel
theorem dX1_addressOfRank_9 : decode cX1_addressOfRank 9 = .ok (.iload_n 2, 1) := by decide +kernel
theorem dX1_addressOfRank_10 : decode cX1_addressOfRank 10 = .ok (.invokevirtual 171, 3) := by decide +kernel
theorem dX1_addressOfRank_13 : decode cX1_addressOfRank 13 = .ok (.ifCond .eq 14, 3) := by decide +kernel
theorem dX1_addressOfRank_16 : decode cX1_addressOfRank 16 = .ok (.aload_n 0, 1) := by decide +kernel
theorem dX1_addressOfRank_17 : decode cX1_addressOfRank 17 = .ok (.iload_n 2, 1) := by decide +kernel
theorem dX1_addressOfRank_18 : decode cX1_addressOfRank 18 = .ok (.invokevirtual 174, 3) := by decide +kernel
theorem dX1_addressOfRank_21 : decode cX1_addressOfRank 21 = .ok (.iload_n 1, 1) := by decide +kernel
theorem dX1_addressOfRank_22 : decode cX1_addressOfRank 22 = .ok (.if_icmp .ne 5, 3) := by decide +kernel
theorem dX1_addressOfRank_25 : decode cX1_addressOfRank 25 = .ok (.iload_n 2, 1) := by decide +kernel
theorem dX1_addressOfRank_26 : decode cX1_addressOfRank 26 = .ok (.ireturn, 1) := by decide +kernel
theorem dX1_addressOfRank_27 : decode cX1_addressOfRank 27 = .ok (.iinc 2 1, 3) := by decide +kernel
theorem dX1_addressOfRank_30 : decode cX1_addressOfRank 30 = .ok (.goto (-28), 3) := by decide +kernel
theorem dX1_addressOfRank_33 : decode cX1_addressOfRank 33 = .ok (.bipush (-5), 2) := by decide +kernel
theorem dX1_addressOfRank_35 : decode cX1_addressOfRank 35 = .ok (.ireturn, 1) := by decide +kernel
theorem dX1_hasRank_0 : decode cX1_hasRank 0 = .ok (.aload_n 0, 1) := by decide +kernel
theorem dX1_hasRank_1 : decode cX1_hasRank 1 = .ok (.iload_n 1, 1) := by decide +kernel
theorem dX1_hasRank_2 : decode cX1_hasRank 2 = .ok (.invokevirtual 69, 3) := by decide +kernel
theorem dX1_hasRank_5 : decode cX1_hasRank 5 = .ok (.ifCond .eq 15, 3) := by decide +kernel
theorem dX1_hasRank_8 : decode cX1_hasRank 8 = .ok (.aload_n 0, 1) := by decide +kernel
theorem dX1_hasRank_9 : decode cX1_hasRank 9 = .ok (.iload_n 1, 1) := by decide +kernel
theorem dX1_hasRank_10 : decode cX1_hasRank 10 = .ok (.invokevirtual 83, 3) := by decide +kernel
theorem dX1_hasRank_13 : decode cX1_hasRank 13 = .ok (.ifCond .ne 7, 3) := by decide +kernel
theorem dX1_hasRank_16 : decode cX1_hasRank 16 = .ok (.iconst 1, 1) := by decide +kernel
theorem dX1_hasRank_17 : decode cX1_hasRank 17 = .ok (.goto 4, 3) := by decide +kernel
theorem dX1_hasRank_20 : decode cX1_hasRank 20 = .ok (.iconst 0, 1) := by decide +kernel
theorem dX1_hasRank_21 : decode cX1_hasRank 21 = .ok (.ireturn, 1) := by decide +kernel
theorem dX1_rankOf_0 : decode cX1_rankOf 0 = .ok (.aload_n 0, 1) := by decide +kernel
theorem dX1_rankOf_1 : decode cX1_rankOf 1 = .ok (.getfield 26, 3) := by decide +kernel
theorem dX1_rankOf_4 : decode cX1_rankOf 4 = .ok (.aload_n 0, 1) := by decide +kernel
theorem dX1_rankOf_5 : decode cX1_rankOf 5 = .ok (.getfield 35, 3) := by decide +kernel
theorem dX1_rankOf_8 : decode cX1_rankOf 8 = .ok (.iload_n 1, 1) := by decide +kernel
theorem dX1_rankOf_9 : decode cX1_rankOf 9 = .ok (.iaload, 1) := by decide +kernel
theorem dX1_rankOf_10 : decode cX1_rankOf 10 = .ok (.iaload, 1) := by decide +kernel
theorem dX1_rankOf_11 : decode cX1_rankOf 11 = .ok (.istore_n 2, 1) := by decide +kernel
theorem dX1_rankOf_12 : decode cX1_rankOf 12 = .ok (.iconst 0, 1) := by decide +kernel
theorem dX1_rankOf_13 : decode cX1_rankOf 13 = .ok (.istore_n 3, 1) := by decide +kernel
theorem dX1_rankOf_14 : decode cX1_rankOf 14 = .ok (.iconst 0, 1) := by decide +kernel
theorem dX1_rankOf_15 : decode cX1_rankOf 15 = .ok (.istore 4, 2) := by decide +kernel
theorem dX1_rankOf_17 : decode cX1_rankOf 17 = .ok (.iload 4, 2) := by decide +kernel
theorem dX1_rankOf_19 : decode cX1_rankOf 19 = .ok (.bipush 64, 2) := by decide +kernel
theorem dX1_rankOf_21 : decode cX1_rankOf 21 = .ok (.if_icmp .ge 53, 3) := by decide +kernel
theorem dX1_rankOf_24 : decode cX1_rankOf 24 = .ok (.aload_n 0, 1) := by decide +kernel
theorem dX1_rankOf_25 : decode cX1_rankOf 25 = .ok (.iload 4, 2) := by decide +kernel
theorem dX1_rankOf_27 : decode cX1_rankOf 27 = .ok (.invokevirtual 171, 3) := by decide +kernel
theorem dX1_rankOf_30 : decode cX1_rankOf 30 = .ok (.ifCond .eq 38, 3) := by decide +kernel
theorem dX1_rankOf_33 : decode cX1_rankOf 33 = .ok (.aload_n 0, 1) := by decide +kernel
theorem dX1_rankOf_34 : decode cX1_rankOf 34 = .ok (.getfield 26, 3) := by decide +kernel
theorem dX1_rankOf_37 : decode cX1_rankOf 37 = .ok (.aload_n 0, 1) := by decide +kernel
theorem dX1_rankOf_38 : decode cX1_rankOf 38 = .ok (.getfield 35, 3) := by decide +kernel
theorem dX1_rankOf_41 : decode cX1_rankOf 41 = .ok (.iload 4, 2) := by decide +kernel
theorem dX1_rankOf_43 : decode cX1_rankOf 43 = .ok (.iaload, 1) := by decide +kernel
theorem dX1_rankOf_44 : decode cX1_rankOf 44 = .ok (.iaload, 1) := by decide +kernel
theorem dX1_rankOf_45 : decode cX1_rankOf 45 = .ok (.istore 5, 2) := by decide +kernel
theorem dX1_rankOf_47 : decode cX1_rankOf 47 = .ok (.iload 5, 2) := by decide +kernel
theorem dX1_rankOf_49 : decode cX1_rankOf 49 = .ok (.iload_n 2, 1) := by decide +kernel
theorem dX1_rankOf_50 : decode cX1_rankOf 50 = .ok (.if_icmp .gt 15, 3) := by decide +kernel
theorem dX1_rankOf_53 : decode cX1_rankOf 53 = .ok (.iload 5, 2) := by decide +kernel
theorem dX1_rankOf_55 : decode cX1_rankOf 55 = .ok (.iload_n 2, 1) := by decide +kernel
theorem dX1_rankOf_56 : decode cX1_rankOf 56 = .ok (.if_icmp .ne 12, 3) := by decide +kernel
theorem dX1_rankOf_59 : decode cX1_rankOf 59 = .ok (.iload 4, 2) := by decide +kernel
theorem dX1_rankOf_61 : decode cX1_rankOf 61 = .ok (.iload_n 1, 1) := by decide +kernel
theorem dX1_rankOf_62 : decode cX1_rankOf 62 = .ok (.if_icmp .ge 6, 3) := by decide +kernel
theorem dX1_rankOf_65 : decode cX1_rankOf 65 = .ok (.iinc 3 1, 3) := by decide +kernel
theorem dX1_rankOf_68 : decode cX1_rankOf 68 = .ok (.iinc 4 1, 3) := by decide +kernel
theorem dX1_rankOf_71 : decode cX1_rankOf 71 = .ok (.goto (-54), 3) := by decide +kernel
theorem dX1_rankOf_74 : decode cX1_rankOf 74 = .ok (.iload_n 3, 1) := by decide +kernel
theorem dX1_rankOf_75 : decode cX1_rankOf 75 = .ok (.ireturn, 1) := by decide +kernel
theorem dX1_leadingElsewhere_0 : decode cX1_leadingElsewhere 0 = .ok (.iconst 0, 1) := by decide +kernel
theorem dX1_leadingElsewhere_1 : decode cX1_leadingElsewhere 1 = .ok (.istore_n 3, 1) := by decide +kernel
theorem dX1_leadingElsewhere_2 : decode cX1_leadingElsewhere 2 = .ok (.iconst 0, 1) := by decide +kernel
theorem dX1_leadingElsewhere_3 : decode cX1_leadingElsewhere 3 = .ok (.istore 4, 2) := by decide +kernel
theorem dX1_leadingElsewhere_5 : decode cX1_leadingElsewhere 5 = .ok (.iload 4, 2) := by decide +kernel
theorem dX1_leadingElsewhere_7 : decode cX1_leadingElsewhere 7 = .ok (.bipush 16, 2) := by decide +kernel
theorem dX1_leadingElsewhere_9 : decode cX1_leadingElsewhere 9 = .ok (.if_icmp .ge 39, 3) := by decide +kernel
theorem dX1_leadingElsewhere_12 : decode cX1_leadingElsewhere 12 = .ok (.aload_n 1, 1) := by decide +kernel
theorem dX1_leadingElsewhere_13 : decode cX1_leadingElsewhere 13 = .ok (.iload_n 2, 1) := by decide +kernel
theorem dX1_leadingElsewhere_14 : decode cX1_leadingElsewhere 14 = .ok (.bipush 16, 2) := by decide +kernel
theorem dX1_leadingElsewhere_16 : decode cX1_leadingElsewhere 16 = .ok (.imul, 1) := by decide +kernel
theorem dX1_leadingElsewhere_17 : decode cX1_leadingElsewhere 17 = .ok (.iload 4, 2) := by decide +kernel
theorem dX1_leadingElsewhere_19 : decode cX1_leadingElsewhere 19 = .ok (.iadd, 1) := by decide +kernel
theorem dX1_leadingElsewhere_20 : decode cX1_leadingElsewhere 20 = .ok (.iaload, 1) := by decide +kernel
theorem dX1_leadingElsewhere_21 : decode cX1_leadingElsewhere 21 = .ok (.istore 5, 2) := by decide +kernel
theorem dX1_leadingElsewhere_23 : decode cX1_leadingElsewhere 23 = .ok (.iload 5, 2) := by decide +kernel
theorem dX1_leadingElsewhere_25 : decode cX1_leadingElsewhere 25 = .ok (.bipush (-5), 2) := by decide +kernel
theorem dX1_leadingElsewhere_27 : decode cX1_leadingElsewhere 27 = .ok (.if_icmp .eq 15, 3) := by decide +kernel
theorem dX1_leadingElsewhere_30 : decode cX1_leadingElsewhere 30 = .ok (.iload 5, 2) := by decide +kernel
theorem dX1_leadingElsewhere_32 : decode cX1_leadingElsewhere 32 = .ok (.invokestatic 80, 3) := by decide +kernel
theorem dX1_leadingElsewhere_35 : decode cX1_leadingElsewhere 35 = .ok (.iload_n 2, 1) := by decide +kernel
theorem dX1_leadingElsewhere_36 : decode cX1_leadingElsewhere 36 = .ok (.if_icmp .eq 6, 3) := by decide +kernel
theorem dX1_leadingElsewhere_39 : decode cX1_leadingElsewhere 39 = .ok (.iinc 3 1, 3) := by decide +kernel
theorem dX1_leadingElsewhere_42 : decode cX1_leadingElsewhere 42 = .ok (.iinc 4 1, 3) := by decide +kernel
theorem dX1_leadingElsewhere_45 : decode cX1_leadingElsewhere 45 = .ok (.goto (-40), 3) := by decide +kernel
theorem dX1_leadingElsewhere_48 : decode cX1_leadingElsewhere 48 = .ok (.iload_n 3, 1) := by decide +kernel
theorem dX1_leadingElsewhere_49 : decode cX1_leadingElsewhere 49 = .ok (.ireturn, 1) := by decide +kernel
theorem dX1_lostOf_0 : decode cX1_lostOf 0 = .ok (.iconst 0, 1) := by decide +kernel
theorem dX1_lostOf_1 : decode cX1_lostOf 1 = .ok (.istore_n 2, 1) := by decide +kernel
theorem dX1_lostOf_2 : decode cX1_lostOf 2 = .ok (.iconst 0, 1) := by decide +kernel
theorem dX1_lostOf_3 : decode cX1_lostOf 3 = .ok (.istore_n 3, 1) := by decide +kernel
theorem dX1_lostOf_4 : decode cX1_lostOf 4 = .ok (.iload_n 3, 1) := by decide +kernel
theorem dX1_lostOf_5 : decode cX1_lostOf 5 = .ok (.bipush 16, 2) := by decide +kernel
theorem dX1_lostOf_7 : decode cX1_lostOf 7 = .ok (.aload_n 0, 1) := by decide +kernel
theorem dX1_lostOf_8 : decode cX1_lostOf 8 = .ok (.getfield 19, 3) := by decide +kernel
theorem dX1_lostOf_11 : decode cX1_lostOf 11 = .ok (.iload_n 1, 1) := by decide +kernel
theorem dX1_lostOf_12 : decode cX1_lostOf 12 = .ok (.iaload, 1) := by decide +kernel
theorem dX1_lostOf_13 : decode cX1_lostOf 13 = .ok (.isub, 1) := by decide +kernel
theorem dX1_lostOf_14 : decode cX1_lostOf 14 = .ok (.if_icmp .ge 25, 3) := by decide +kernel
theorem dX1_lostOf_17 : decode cX1_lostOf 17 = .ok (.aload_n 0, 1) := by decide +kernel
theorem dX1_lostOf_18 : decode cX1_lostOf 18 = .ok (.iload_n 1, 1) := by decide +kernel
theorem dX1_lostOf_19 : decode cX1_lostOf 19 = .ok (.bipush 16, 2) := by decide +kernel
theorem dX1_lostOf_21 : decode cX1_lostOf 21 = .ok (.imul, 1) := by decide +kernel
theorem dX1_lostOf_22 : decode cX1_lostOf 22 = .ok (.iload_n 3, 1) := by decide +kernel
theorem dX1_lostOf_23 : decode cX1_lostOf 23 = .ok (.iadd, 1) := by decide +kernel
theorem dX1_lostOf_24 : decode cX1_lostOf 24 = .ok (.invokevirtual 83, 3) := by decide +kernel
theorem dX1_lostOf_27 : decode cX1_lostOf 27 = .ok (.ifCond .eq 6, 3) := by decide +kernel
theorem dX1_lostOf_30 : decode cX1_lostOf 30 = .ok (.iinc 2 1, 3) := by decide +kernel
theorem dX1_lostOf_33 : decode cX1_lostOf 33 = .ok (.iinc 3 1, 3) := by decide +kernel
theorem dX1_lostOf_36 : decode cX1_lostOf 36 = .ok (.goto (-32), 3) := by decide +kernel
theorem dX1_lostOf_39 : decode cX1_lostOf 39 = .ok (.iload_n 2, 1) := by decide +kernel
theorem dX1_lostOf_40 : decode cX1_lostOf 40 = .ok (.ireturn, 1) := by decide +kernel
theorem dX1_wearOf_0 : decode cX1_wearOf 0 = .ok (.iconst 0, 1) := by decide +kernel
theorem dX1_wearOf_1 : decode cX1_wearOf 1 = .ok (.istore_n 2, 1) := by decide +kernel
theorem dX1_wearOf_2 : decode cX1_wearOf 2 = .ok (.iconst 0, 1) := by decide +kernel
theorem dX1_wearOf_3 : decode cX1_wearOf 3 = .ok (.istore_n 3, 1) := by decide +kernel
theorem dX1_wearOf_4 : decode cX1_wearOf 4 = .ok (.iload_n 3, 1) := by decide +kernel
theorem dX1_wearOf_5 : decode cX1_wearOf 5 = .ok (.bipush 16, 2) := by decide +kernel
theorem dX1_wearOf_7 : decode cX1_wearOf 7 = .ok (.if_icmp .ge 23, 3) := by decide +kernel
theorem dX1_wearOf_10 : decode cX1_wearOf 10 = .ok (.iload_n 2, 1) := by decide +kernel
theorem dX1_wearOf_11 : decode cX1_wearOf 11 = .ok (.aload_n 0, 1) := by decide +kernel
theorem dX1_wearOf_12 : decode cX1_wearOf 12 = .ok (.getfield 26, 3) := by decide +kernel
theorem dX1_wearOf_15 : decode cX1_wearOf 15 = .ok (.iload_n 1, 1) := by decide +kernel
theorem dX1_wearOf_16 : decode cX1_wearOf 16 = .ok (.bipush 16, 2) := by decide +kernel
theorem dX1_wearOf_18 : decode cX1_wearOf 18 = .ok (.imul, 1) := by decide +kernel
theorem dX1_wearOf_19 : decode cX1_wearOf 19 = .ok (.iload_n 3, 1) := by decide +kernel
theorem dX1_wearOf_20 : decode cX1_wearOf 20 = .ok (.iadd, 1) := by decide +kernel
theorem dX1_wearOf_21 : decode cX1_wearOf 21 = .ok (.iaload, 1) := by decide +kernel
theorem dX1_wearOf_22 : decode cX1_wearOf 22 = .ok (.iadd, 1) := by decide +kernel
theorem dX1_wearOf_23 : decode cX1_wearOf 23 = .ok (.istore_n 2, 1) := by decide +kernel
theorem dX1_wearOf_24 : decode cX1_wearOf 24 = .ok (.iinc 3 1, 3) := by decide +kernel
theorem dX1_wearOf_27 : decode cX1_wearOf 27 = .ok (.goto (-23), 3) := by decide +kernel
theorem dX1_wearOf_30 : decode cX1_wearOf 30 = .ok (.iload_n 2, 1) := by decide +kernel
theorem dX1_wearOf_31 : decode cX1_wearOf 31 = .ok (.ireturn, 1) := by decide +kernel
theorem dX1_gradedOf_0 : decode cX1_gradedOf 0 = .ok (.iconst 0, 1) := by decide +kernel
theorem dX1_gradedOf_1 : decode cX1_gradedOf 1 = .ok (.istore_n 3, 1) := by decide +kernel
theorem dX1_gradedOf_2 : decode cX1_gradedOf 2 = .ok (.iconst 0, 1) := by decide +kernel
theorem dX1_gradedOf_3 : decode cX1_gradedOf 3 = .ok (.istore 4, 2) := by decide +kernel
theorem dX1_gradedOf_5 : decode cX1_gradedOf 5 = .ok (.iload 4, 2) := by decide +kernel
theorem dX1_gradedOf_7 : decode cX1_gradedOf 7 = .ok (.bipush 16, 2) := by decide +kernel
theorem dX1_gradedOf_9 : decode cX1_gradedOf 9 = .ok (.if_icmp .ge 27, 3) := by decide +kernel
theorem dX1_gradedOf_12 : decode cX1_gradedOf 12 = .ok (.aload_n 0, 1) := by decide +kernel
theorem dX1_gradedOf_13 : decode cX1_gradedOf 13 = .ok (.iload_n 1, 1) := by decide +kernel
theorem dX1_gradedOf_14 : decode cX1_gradedOf 14 = .ok (.bipush 16, 2) := by decide +kernel
theorem dX1_gradedOf_16 : decode cX1_gradedOf 16 = .ok (.imul, 1) := by decide +kernel
theorem dX1_gradedOf_17 : decode cX1_gradedOf 17 = .ok (.iload 4, 2) := by decide +kernel
theorem dX1_gradedOf_19 : decode cX1_gradedOf 19 = .ok (.iadd, 1) := by decide +kernel
theorem dX1_gradedOf_20 : decode cX1_gradedOf 20 = .ok (.invokevirtual 154, 3) := by decide +kernel
theorem dX1_gradedOf_23 : decode cX1_gradedOf 23 = .ok (.iload_n 2, 1) := by decide +kernel
theorem dX1_gradedOf_24 : decode cX1_gradedOf 24 = .ok (.if_icmp .ne 6, 3) := by decide +kernel
theorem dX1_gradedOf_27 : decode cX1_gradedOf 27 = .ok (.iinc 3 1, 3) := by decide +kernel
theorem dX1_gradedOf_30 : decode cX1_gradedOf 30 = .ok (.iinc 4 1, 3) := by decide +kernel
theorem dX1_gradedOf_33 : decode cX1_gradedOf 33 = .ok (.goto (-28), 3) := by decide +kernel
theorem dX1_gradedOf_36 : decode cX1_gradedOf 36 = .ok (.iload_n 3, 1) := by decide +kernel
theorem dX1_gradedOf_37 : decode cX1_gradedOf 37 = .ok (.ireturn, 1) := by decide +kernel
theorem dX1_overHeads_0 : decode cX1_overHeads 0 = .ok (.iconst 0, 1) := by decide +kernel
theorem dX1_overHeads_1 : decode cX1_overHeads 1 = .ok (.istore_n 2, 1) := by decide +kernel
theorem dX1_overHeads_2 : decode cX1_overHeads 2 = .ok (.iconst 0, 1) := by decide +kernel
theorem dX1_overHeads_3 : decode cX1_overHeads 3 = .ok (.istore_n 3, 1) := by decide +kernel
theorem dX1_overHeads_4 : decode cX1_overHeads 4 = .ok (.iload_n 3, 1) := by decide +kernel
theorem dX1_overHeads_5 : decode cX1_overHeads 5 = .ok (.iconst 4, 1) := by decide +kernel
theorem dX1_overHeads_6 : decode cX1_overHeads 6 = .ok (.if_icmp .ge 18, 3) := by decide +kernel
theorem dX1_overHeads_9 : decode cX1_overHeads 9 = .ok (.iload_n 2, 1) := by decide +kernel
theorem dX1_overHeads_10 : decode cX1_overHeads 10 = .ok (.aload_n 0, 1) := by decide +kernel
theorem dX1_overHeads_11 : decode cX1_overHeads 11 = .ok (.iload_n 3, 1) := by decide +kernel
theorem dX1_overHeads_12 : decode cX1_overHeads 12 = .ok (.iload_n 1, 1) := by decide +kernel
theorem dX1_overHeads_13 : decode cX1_overHeads 13 = .ok (.invokevirtual 177, 3) := by decide +kernel
theorem dX1_overHeads_16 : decode cX1_overHeads 16 = .ok (.iadd, 1) := by decide +kernel
theorem dX1_overHeads_17 : decode cX1_overHeads 17 = .ok (.istore_n 2, 1) := by decide +kernel
theorem dX1_overHeads_18 : decode cX1_overHeads 18 = .ok (.iinc 3 1, 3) := by decide +kernel
theorem dX1_overHeads_21 : decode cX1_overHeads 21 = .ok (.goto (-17), 3) := by decide +kernel
theorem dX1_overHeads_24 : decode cX1_overHeads 24 = .ok (.iload_n 2, 1) := by decide +kernel
theorem dX1_overHeads_25 : decode cX1_overHeads 25 = .ok (.ireturn, 1) := by decide +kernel
theorem dX1_longWayCount_0 : decode cX1_longWayCount 0 = .ok (.iconst 0, 1) := by decide +kernel
theorem dX1_longWayCount_1 : decode cX1_longWayCount 1 = .ok (.istore_n 1, 1) := by decide +kernel
theorem dX1_longWayCount_2 : decode cX1_longWayCount 2 = .ok (.iconst 0, 1) := by decide +kernel
theorem dX1_longWayCount_3 : decode cX1_longWayCount 3 = .ok (.istore_n 2, 1) := by decide +kernel
theorem dX1_longWayCount_4 : decode cX1_longWayCount 4 = .ok (.iload_n 2, 1) := by decide +kernel
theorem dX1_longWayCount_5 : decode cX1_longWayCount 5 = .ok (.bipush 64, 2) := by decide +kernel
theorem dX1_longWayCount_7 : decode cX1_longWayCount 7 = .ok (.if_icmp .ge 28, 3) := by decide +kernel
theorem dX1_longWayCount_10 : decode cX1_longWayCount 10 = .ok (.aload_n 0, 1) := by decide +kernel
theorem dX1_longWayCount_11 : decode cX1_longWayCount 11 = .ok (.iload_n 2, 1) := by decide +kernel
theorem dX1_longWayCount_12 : decode cX1_longWayCount 12 = .ok (.invokevirtual 69, 3) := by decide +kernel
theorem dX1_longWayCount_15 : decode cX1_longWayCount 15 = .ok (.ifCond .eq 14, 3) := by decide +kernel
theorem dX1_longWayCount_18 : decode cX1_longWayCount 18 = .ok (.aload_n 0, 1) := by decide +kernel
theorem dX1_longWayCount_19 : decode cX1_longWayCount 19 = .ok (.iload_n 2, 1) := by decide +kernel
theorem dX1_longWayCount_20 : decode cX1_longWayCount 20 = .ok (.invokevirtual 148, 3) := by decide +kernel
theorem dX1_longWayCount_23 : decode cX1_longWayCount 23 = .ok (.ifCond .eq 6, 3) := by decide +kernel
theorem dX1_longWayCount_26 : decode cX1_longWayCount 26 = .ok (.iinc 1 1, 3) := by decide +kernel
theorem dX1_longWayCount_29 : decode cX1_longWayCount 29 = .ok (.iinc 2 1, 3) := by decide +kernel
theorem dX1_longWayCount_32 : decode cX1_longWayCount 32 = .ok (.goto (-28), 3) := by decide +kernel
theorem dX1_longWayCount_35 : decode cX1_longWayCount 35 = .ok (.iload_n 1, 1) := by decide +kernel
theorem dX1_longWayCount_36 : decode cX1_longWayCount 36 = .ok (.ireturn, 1) := by decide +kernel
theorem dX2_init_0 : decode cX2_init 0 = .ok (.aload_n 0, 1) := by decide +kernel
theorem dX2_init_1 : decode cX2_init 1 = .ok (.invokespecial 3, 3) := by decide +kernel
theorem dX2_init_4 : decode cX2_init 4 = .ok (.aload_n 0, 1) := by decide +kernel
theorem dX2_init_5 : decode cX2_init 5 = .ok (.iconst 4, 1) := by decide +kernel
theorem dX2_init_6 : decode cX2_init 6 = .ok (.anewarray 9, 3) := by decide +kernel
theorem dX2_init_9 : decode cX2_init 9 = .ok (.putfield 11, 3) := by decide +kernel
theorem dX2_init_12 : decode cX2_init 12 = .ok (.aload_n 0, 1) := by decide +kernel
theorem dX2_init_13 : decode cX2_init 13 = .ok (.iconst 0, 1) := by decide +kernel
theorem dX2_init_14 : decode cX2_init 14 = .ok (.putfield 17, 3) := by decide +kernel
theorem dX2_init_17 : decode cX2_init 17 = .ok (.aload_n 0, 1) := by decide +kernel
theorem dX2_init_18 : decode cX2_init 18 = .ok (.iconst 0, 1) := by decide +kernel
theorem dX2_init_19 : decode cX2_init 19 = .ok (.putfield 21, 3) := by decide +kernel
theorem dX2_init_22 : decode cX2_init 22 = .ok (.iconst 0, 1) := by decide +kernel
theorem dX2_init_23 : decode cX2_init 23 = .ok (.istore_n 1, 1) := by decide +kernel
theorem dX2_init_24 : decode cX2_init 24 = .ok (.iload_n 1, 1) := by decide +kernel
theorem dX2_init_25 : decode cX2_init 25 = .ok (.iconst 4, 1) := by decide +kernel
theorem dX2_init_26 : decode cX2_init 26 = .ok (.if_icmp .ge 22, 3) := by decide +kernel
theorem dX2_init_29 : decode cX2_init 29 = .ok (.aload_n 0, 1) := by decide +kernel
theorem dX2_init_30 : decode cX2_init 30 = .ok (.getfield 11, 3) := by decide +kernel
theorem dX2_init_33 : decode cX2_init 33 = .ok (.iload_n 1, 1) := by decide +kernel
theorem dX2_init_34 : decode cX2_init 34 = .ok (.new 9, 3) := by decide +kernel
theorem dX2_init_37 : decode cX2_init 37 = .ok (.dup, 1) := by decide +kernel
theorem dX2_init_38 : decode cX2_init 38 = .ok (.invokespecial 24, 3) := by decide +kernel
theorem dX2_init_41 : decode cX2_init 41 = .ok (.aastore, 1) := by decide +kernel
theorem dX2_init_42 : decode cX2_init 42 = .ok (.iinc 1 1, 3) := by decide +kernel
theorem dX2_init_45 : decode cX2_init 45 = .ok (.goto (-21), 3) := by decide +kernel
theorem dX2_init_48 : decode cX2_init 48 = .ok (.return_, 1) := by decide +kernel
theorem dX2_states_0 : decode cX2_states 0 = .ok (.aload_n 0, 1) := by decide +kernel
theorem dX2_states_1 : decode cX2_states 1 = .ok (.getfield 21, 3) := by decide +kernel
theorem dX2_states_4 : decode cX2_states 4 = .ok (.ireturn, 1) := by decide +kernel
theorem dX2_record_0 : decode cX2_record 0 = .ok (.aload_n 0, 1) := by decide +kernel
theorem dX2_record_1 : decode cX2_record 1 = .ok (.getfield 21, 3) := by decide +kernel
theorem dX2_record_4 : decode cX2_record 4 = .ok (.iconst 4, 1) := by decide +kernel
theorem dX2_record_5 : decode cX2_record 5 = .ok (.if_icmp .ne 25, 3) := by decide +kernel
theorem dX2_record_8 : decode cX2_record 8 = .ok (.aload_n 0, 1) := by decide +kernel
theorem dX2_record_9 : decode cX2_record 9 = .ok (.aload_n 0, 1) := by decide +kernel
theorem dX2_record_10 : decode cX2_record 10 = .ok (.getfield 17, 3) := by decide +kernel
theorem dX2_record_13 : decode cX2_record 13 = .ok (.iconst 1, 1) := by decide +kernel
theorem dX2_record_14 : decode cX2_record 14 = .ok (.iadd, 1) := by decide +kernel
theorem dX2_record_15 : decode cX2_record 15 = .ok (.iconst 4, 1) := by decide +kernel
theorem dX2_record_16 : decode cX2_record 16 = .ok (.irem, 1) := by decide +kernel
theorem dX2_record_17 : decode cX2_record 17 = .ok (.putfield 17, 3) := by decide +kernel
theorem dX2_record_20 : decode cX2_record 20 = .ok (.aload_n 0, 1) := by decide +kernel
theorem dX2_record_21 : decode cX2_record 21 = .ok (.dup, 1) := by decide +kernel
theorem dX2_record_22 : decode cX2_record 22 = .ok (.getfield 21, 3) := by decide +kernel
theorem dX2_record_25 : decode cX2_record 25 = .ok (.iconst 1, 1) := by decide +kernel
theorem dX2_record_26 : decode cX2_record 26 = .ok (.isub, 1) := by decide +kernel
theorem dX2_record_27 : decode cX2_record 27 = .ok (.putfield 21, 3) := by decide +kernel
theorem dX2_record_30 : decode cX2_record 30 = .ok (.aload_n 0, 1) := by decide +kernel
theorem dX2_record_31 : decode cX2_record 31 = .ok (.getfield 11, 3) := by decide +kernel
theorem dX2_record_34 : decode cX2_record 34 = .ok (.aload_n 0, 1) := by decide +kernel
theorem dX2_record_35 : decode cX2_record 35 = .ok (.getfield 17, 3) := by decide +kernel
theorem dX2_record_38 : decode cX2_record 38 = .ok (.aload_n 0, 1) := by decide +kernel
theorem dX2_record_39 : decode cX2_record 39 = .ok (.getfield 21, 3) := by decide +kernel
theorem dX2_record_42 : decode cX2_record 42 = .ok (.iadd, 1) := by decide +kernel
theorem dX2_record_43 : decode cX2_record 43 = .ok (.iconst 4, 1) := by decide +kernel
theorem dX2_record_44 : decode cX2_record 44 = .ok (.irem, 1) := by decide +kernel
theorem dX2_record_45 : decode cX2_record 45 = .ok (.aaload, 1) := by decide +kernel
theorem dX2_record_46 : decode cX2_record 46 = .ok (.aload_n 1, 1) := by decide +kernel
theorem dX2_record_47 : decode cX2_record 47 = .ok (.invokevirtual 25, 3) := by decide +kernel
theorem dX2_record_50 : decode cX2_record 50 = .ok (.aload_n 0, 1) := by decide +kernel
theorem dX2_record_51 : decode cX2_record 51 = .ok (.dup, 1) := by decide +kernel
theorem dX2_record_52 : decode cX2_record 52 = .ok (.getfield 21, 3) := by decide +kernel
theorem dX2_record_55 : decode cX2_record 55 = .ok (.iconst 1, 1) := by decide +kernel
theorem dX2_record_56 : decode cX2_record 56 = .ok (.iadd, 1) := by decide +kernel
theorem dX2_record_57 : decode cX2_record 57 = .ok (.putfield 21, 3) := by decide +kernel
theorem dX2_record_60 : decode cX2_record 60 = .ok (.return_, 1) := by decide +kernel
theorem dX2_takeBack_0 : decode cX2_takeBack 0 = .ok (.aload_n 0, 1) := by decide +kernel
theorem dX2_takeBack_1 : decode cX2_takeBack 1 = .ok (.getfield 21, 3) := by decide +kernel
theorem dX2_takeBack_4 : decode cX2_takeBack 4 = .ok (.ifCond .le 33, 3) := by decide +kernel
theorem dX2_takeBack_7 : decode cX2_takeBack 7 = .ok (.aload_n 0, 1) := by decide +kernel
theorem dX2_takeBack_8 : decode cX2_takeBack 8 = .ok (.dup, 1) := by decide +kernel
theorem dX2_takeBack_9 : decode cX2_takeBack 9 = .ok (.getfield 21, 3) := by decide +kernel
theorem dX2_takeBack_12 : decode cX2_takeBack 12 = .ok (.iconst 1, 1) := by decide +kernel
theorem dX2_takeBack_13 : decode cX2_takeBack 13 = .ok (.isub, 1) := by decide +kernel
theorem dX2_takeBack_14 : decode cX2_takeBack 14 = .ok (.putfield 21, 3) := by decide +kernel
theorem dX2_takeBack_17 : decode cX2_takeBack 17 = .ok (.aload_n 1, 1) := by decide +kernel
theorem dX2_takeBack_18 : decode cX2_takeBack 18 = .ok (.aload_n 0, 1) := by decide +kernel
theorem dX2_takeBack_19 : decode cX2_takeBack 19 = .ok (.getfield 11, 3) := by decide +kernel
theorem dX2_takeBack_22 : decode cX2_takeBack 22 = .ok (.aload_n 0, 1) := by decide +kernel
theorem dX2_takeBack_23 : decode cX2_takeBack 23 = .ok (.getfield 17, 3) := by decide +kernel
theorem dX2_takeBack_26 : decode cX2_takeBack 26 = .ok (.aload_n 0, 1) := by decide +kernel
theorem dX2_takeBack_27 : decode cX2_takeBack 27 = .ok (.getfield 21, 3) := by decide +kernel
theorem dX2_takeBack_30 : decode cX2_takeBack 30 = .ok (.iadd, 1) := by decide +kernel
theorem dX2_takeBack_31 : decode cX2_takeBack 31 = .ok (.iconst 4, 1) := by decide +kernel
theorem dX2_takeBack_32 : decode cX2_takeBack 32 = .ok (.irem, 1) := by decide +kernel
theorem dX2_takeBack_33 : decode cX2_takeBack 33 = .ok (.aaload, 1) := by decide +kernel
theorem dX2_takeBack_34 : decode cX2_takeBack 34 = .ok (.invokevirtual 25, 3) := by decide +kernel
theorem dX2_takeBack_37 : decode cX2_takeBack 37 = .ok (.return_, 1) := by decide +kernel
theorem dX3_init_0 : decode cX3_init 0 = .ok (.aload_n 0, 1) := by decide +kernel
theorem dX3_init_1 : decode cX3_init 1 = .ok (.invokespecial 3, 3) := by decide +kernel
theorem dX3_init_4 : decode cX3_init 4 = .ok (.aload_n 0, 1) := by decide +kernel
theorem dX3_init_5 : decode cX3_init 5 = .ok (.new 9, 3) := by decide +kernel
theorem dX3_init_8 : decode cX3_init 8 = .ok (.dup, 1) := by decide +kernel
theorem dX3_init_9 : decode cX3_init 9 = .ok (.invokespecial 11, 3) := by decide +kernel
theorem dX3_init_12 : decode cX3_init 12 = .ok (.putfield 12, 3) := by decide +kernel
theorem dX3_init_15 : decode cX3_init 15 = .ok (.aload_n 0, 1) := by decide +kernel
theorem dX3_init_16 : decode cX3_init 16 = .ok (.new 9, 3) := by decide +kernel
theorem dX3_init_19 : decode cX3_init 19 = .ok (.dup, 1) := by decide +kernel
theorem dX3_init_20 : decode cX3_init 20 = .ok (.invokespecial 11, 3) := by decide +kernel
theorem dX3_init_23 : decode cX3_init 23 = .ok (.putfield 16, 3) := by decide +kernel
theorem dX3_init_26 : decode cX3_init 26 = .ok (.aload_n 0, 1) := by decide +kernel
theorem dX3_init_27 : decode cX3_init 27 = .ok (.new 9, 3) := by decide +kernel
theorem dX3_init_30 : decode cX3_init 30 = .ok (.dup, 1) := by decide +kernel
theorem dX3_init_31 : decode cX3_init 31 = .ok (.invokespecial 11, 3) := by decide +kernel
theorem dX3_init_34 : decode cX3_init 34 = .ok (.putfield 19, 3) := by decide +kernel
theorem dX3_init_37 : decode cX3_init 37 = .ok (.aload_n 0, 1) := by decide +kernel
theorem dX3_init_38 : decode cX3_init 38 = .ok (.new 22, 3) := by decide +kernel
theorem dX3_init_41 : decode cX3_init 41 = .ok (.dup, 1) := by decide +kernel
theorem dX3_init_42 : decode cX3_init 42 = .ok (.invokespecial 24, 3) := by decide +kernel
theorem dX3_init_45 : decode cX3_init 45 = .ok (.putfield 25, 3) := by decide +kernel
theorem dX3_init_48 : decode cX3_init 48 = .ok (.aload_n 0, 1) := by decide +kernel
theorem dX3_init_49 : decode cX3_init 49 = .ok (.new 29, 3) := by decide +kernel
theorem dX3_init_52 : decode cX3_init 52 = .ok (.dup, 1) := by decide +kernel
theorem dX3_init_53 : decode cX3_init 53 = .ok (.invokespecial 31, 3) := by decide +kernel
theorem dX3_init_56 : decode cX3_init 56 = .ok (.putfield 32, 3) := by decide +kernel
theorem dX3_init_59 : decode cX3_init 59 = .ok (.aload_n 0, 1) := by decide +kernel
theorem dX3_init_60 : decode cX3_init 60 = .ok (.iconst 0, 1) := by decide +kernel
theorem dX3_init_61 : decode cX3_init 61 = .ok (.putfield 36, 3) := by decide +kernel
theorem dX3_init_64 : decode cX3_init 64 = .ok (.return_, 1) := by decide +kernel
theorem dX3_setLimit_0 : decode cX3_setLimit 0 = .ok (.aload_n 0, 1) := by decide +kernel
theorem dX3_setLimit_1 : decode cX3_setLimit 1 = .ok (.invokevirtual 40, 3) := by decide +kernel
theorem dX3_setLimit_4 : decode cX3_setLimit 4 = .ok (.aload_n 0, 1) := by decide +kernel
theorem dX3_setLimit_5 : decode cX3_setLimit 5 = .ok (.aload_n 0, 1) := by decide +kernel
theorem dX3_setLimit_6 : decode cX3_setLimit 6 = .ok (.getfield 16, 3) := by decide +kernel
theorem dX3_setLimit_9 : decode cX3_setLimit 9 = .ok (.iload_n 1, 1) := by decide +kernel
theorem dX3_setLimit_10 : decode cX3_setLimit 10 = .ok (.invokevirtual 43, 3) := by decide +kernel
theorem dX3_setLimit_13 : decode cX3_setLimit 13 = .ok (.invokevirtual 47, 3) := by decide +kernel
theorem dX3_setLimit_16 : decode cX3_setLimit 16 = .ok (.ireturn, 1) := by decide +kernel
theorem dX3_read_0 : decode cX3_read 0 = .ok (.aload_n 0, 1) := by decide +kernel
theorem dX3_read_1 : decode cX3_read 1 = .ok (.invokevirtual 40, 3) := by decide +kernel
theorem dX3_read_4 : decode cX3_read 4 = .ok (.aload_n 0, 1) := by decide +kernel
theorem dX3_read_5 : decode cX3_read 5 = .ok (.aload_n 0, 1) := by decide +kernel
theorem dX3_read_6 : decode cX3_read 6 = .ok (.getfield 16, 3) := by decide +kernel
theorem dX3_read_9 : decode cX3_read 9 = .ok (.iload_n 1, 1) := by decide +kernel
theorem dX3_read_10 : decode cX3_read 10 = .ok (.invokevirtual 61, 3) := by decide +kernel
theorem dX3_read_13 : decode cX3_read 13 = .ok (.invokevirtual 47, 3) := by decide +kernel
theorem dX3_read_16 : decode cX3_read 16 = .ok (.ireturn, 1) := by decide +kernel
theorem dX3_write_0 : decode cX3_write 0 = .ok (.aload_n 0, 1) := by decide +kernel
theorem dX3_write_1 : decode cX3_write 1 = .ok (.invokevirtual 40, 3) := by decide +kernel
theorem dX3_write_4 : decode cX3_write 4 = .ok (.aload_n 0, 1) := by decide +kernel
theorem dX3_write_5 : decode cX3_write 5 = .ok (.aload_n 0, 1) := by decide +kernel
theorem dX3_write_6 : decode cX3_write 6 = .ok (.getfield 16, 3) := by decide +kernel
theorem dX3_write_9 : decode cX3_write 9 = .ok (.iload_n 1, 1) := by decide +kernel
theorem dX3_write_10 : decode cX3_write 10 = .ok (.iload_n 2, 1) := by decide +kernel
theorem dX3_write_11 : decode cX3_write 11 = .ok (.invokevirtual 64, 3) := by decide +kernel
theorem dX3_write_14 : decode cX3_write 14 = .ok (.invokevirtual 47, 3) := by decide +kernel
theorem dX3_write_17 : decode cX3_write 17 = .ok (.ireturn, 1) := by decide +kernel
theorem dX3_copy_0 : decode cX3_copy 0 = .ok (.aload_n 0, 1) := by decide +kernel
theorem dX3_copy_1 : decode cX3_copy 1 = .ok (.getfield 12, 3) := by decide +kernel
theorem dX3_copy_4 : decode cX3_copy 4 = .ok (.iload_n 1, 1) := by decide +kernel
theorem dX3_copy_5 : decode cX3_copy 5 = .ok (.invokevirtual 67, 3) := by decide +kernel
theorem dX3_copy_8 : decode cX3_copy 8 = .ok (.ifCond .eq 14, 3) := by decide +kernel
theorem dX3_copy_11 : decode cX3_copy 11 = .ok (.aload_n 0, 1) := by decide +kernel
theorem dX3_copy_12 : decode cX3_copy 12 = .ok (.getfield 12, 3) := by decide +kernel
theorem dX3_copy_15 : decode cX3_copy 15 = .ok (.iload_n 2, 1) := by decide +kernel
theorem dX3_copy_16 : decode cX3_copy 16 = .ok (.invokevirtual 67, 3) := by decide +kernel
theorem dX3_copy_19 : decode cX3_copy 19 = .ok (.ifCond .ne 5, 3) := by decide +kernel
theorem dX3_copy_22 : decode cX3_copy 22 = .ok (.iconst (-1), 1) := by decide +kernel
theorem dX3_copy_23 : decode cX3_copy 23 = .ok (.ireturn, 1) := by decide +kernel
theorem dX3_copy_24 : decode cX3_copy 24 = .ok (.iload_n 3, 1) := by decide +kernel
theorem dX3_copy_25 : decode cX3_copy 25 = .ok (.iconst 1, 1) := by decide +kernel
theorem dX3_copy_26 : decode cX3_copy 26 = .ok (.if_icmp .lt 9, 3) := by decide +kernel
theorem dX3_copy_29 : decode cX3_copy 29 = .ok (.iload_n 3, 1) := by decide +kernel
theorem dX3_copy_30 : decode cX3_copy 30 = .ok (.bipush 16, 2) := by decide +kernel
theorem dX3_copy_32 : decode cX3_copy 32 = .ok (.if_icmp .le 6, 3) := by decide +kernel
theorem dX3_copy_35 : decode cX3_copy 35 = .ok (.bipush (-2), 2) := by decide +kernel
theorem dX3_copy_37 : decode cX3_copy 37 = .ok (.ireturn, 1) := by decide +kernel
theorem dX3_copy_38 : decode cX3_copy 38 = .ok (.aload_n 0, 1) := by decide +kernel
theorem dX3_copy_39 : decode cX3_copy 39 = .ok (.invokevirtual 40, 3) := by decide +kernel
theorem dX3_copy_42 : decode cX3_copy 42 = .ok (.aload_n 0, 1) := by decide +kernel
theorem dX3_copy_43 : decode cX3_copy 43 = .ok (.getfield 16, 3) := by decide +kernel
theorem dX3_copy_46 : decode cX3_copy 46 = .ok (.iload_n 1, 1) := by decide +kernel
theorem dX3_copy_47 : decode cX3_copy 47 = .ok (.iload_n 2, 1) := by decide +kernel
theorem dX3_copy_48 : decode cX3_copy 48 = .ok (.iload_n 3, 1) := by decide +kernel
theorem dX3_copy_49 : decode cX3_copy 49 = .ok (.invokevirtual 70, 3) := by decide +kernel
theorem dX3_copy_52 : decode cX3_copy 52 = .ok (.istore 4, 2) := by decide +kernel
theorem dX3_copy_54 : decode cX3_copy 54 = .ok (.iload 4, 2) := by decide +kernel
theorem dX3_copy_56 : decode cX3_copy 56 = .ok (.ifCond .ne 6, 3) := by decide +kernel
theorem dX3_copy_59 : decode cX3_copy 59 = .ok (.bipush (-5), 2) := by decide +kernel
theorem dX3_copy_61 : decode cX3_copy 61 = .ok (.ireturn, 1) := by decide +kernel
theorem dX3_copy_62 : decode cX3_copy 62 = .ok (.iload 4, 2) := by decide +kernel
theorem dX3_copy_64 : decode cX3_copy 64 = .ok (.iload_n 3, 1) := by decide +kernel
theorem dX3_copy_65 : decode cX3_copy 65 = .ok (.if_icmp .ge 19, 3) := by decide +kernel
theorem dX3_copy_68 : decode cX3_copy 68 = .ok (.aload_n 0, 1) := by decide +kernel
theorem dX3_copy_69 : decode cX3_copy 69 = .ok (.invokevirtual 40, 3) := by decide +kernel
theorem dX3_copy_72 : decode cX3_copy 72 = .ok (.aload_n 0, 1) := by decide +kernel
theorem dX3_copy_73 : decode cX3_copy 73 = .ok (.getfield 16, 3) := by decide +kernel
theorem dX3_copy_76 : decode cX3_copy 76 = .ok (.iload_n 1, 1) := by decide +kernel
theorem dX3_copy_77 : decode cX3_copy 77 = .ok (.iload_n 2, 1) := by decide +kernel
theorem dX3_copy_78 : decode cX3_copy 78 = .ok (.iload 4, 2) := by decide +kernel
theorem dX3_copy_80 : decode cX3_copy 80 = .ok (.invokevirtual 70, 3) := by decide +kernel
theorem dX3_copy_83 : decode cX3_copy 83 = .ok (.pop, 1) := by decide +kernel
theorem dX3_copy_84 : decode cX3_copy 84 = .ok (.aload_n 0, 1) := by decide +kernel
theorem dX3_copy_85 : decode cX3_copy 85 = .ok (.iload 4, 2) := by decide +kernel
theorem dX3_copy_87 : decode cX3_copy 87 = .ok (.invokevirtual 47, 3) := by decide +kernel
theorem dX3_copy_90 : decode cX3_copy 90 = .ok (.ireturn, 1) := by decide +kernel
theorem dX3_test_0 : decode cX3_test 0 = .ok (.iload_n 1, 1) := by decide +kernel
theorem dX3_test_1 : decode cX3_test 1 = .ok (.invokestatic 50, 3) := by decide +kernel
theorem dX3_test_4 : decode cX3_test 4 = .ok (.ifCond .ne 5, 3) := by decide +kernel
theorem dX3_test_7 : decode cX3_test 7 = .ok (.iconst (-1), 1) := by decide +kernel
theorem dX3_test_8 : decode cX3_test 8 = .ok (.ireturn, 1) := by decide +kernel
theorem dX3_test_9 : decode cX3_test 9 = .ok (.aload_n 0, 1) := by decide +kernel
theorem dX3_test_10 : decode cX3_test 10 = .ok (.invokevirtual 40, 3) := by decide +kernel
theorem dX3_test_13 : decode cX3_test 13 = .ok (.aload_n 0, 1) := by decide +kernel
theorem dX3_test_14 : decode cX3_test 14 = .ok (.aload_n 0, 1) := by decide +kernel
theorem dX3_test_15 : decode cX3_test 15 = .ok (.getfield 16, 3) := by decide +kernel
theorem dX3_test_18 : decode cX3_test 18 = .ok (.iload_n 1, 1) := by decide +kernel
theorem dX3_test_19 : decode cX3_test 19 = .ok (.invokevirtual 74, 3) := by decide +kernel
theorem dX3_test_22 : decode cX3_test 22 = .ok (.invokevirtual 47, 3) := by decide +kernel
theorem dX3_test_25 : decode cX3_test 25 = .ok (.ireturn, 1) := by decide +kernel
theorem dX3_perform_0 : decode cX3_perform 0 = .ok (.aload_n 0, 1) := by decide +kernel
theorem dX3_perform_1 : decode cX3_perform 1 = .ok (.getfield 32, 3) := by decide +kernel
theorem dX3_perform_4 : decode cX3_perform 4 = .ok (.invokevirtual 77, 3) := by decide +kernel
theorem dX3_perform_7 : decode cX3_perform 7 = .ok (.istore_n 1, 1) := by decide +kernel
theorem dX3_perform_8 : decode cX3_perform 8 = .ok (.iload_n 1, 1) := by decide +kernel
theorem dX3_perform_9 : decode cX3_perform 9 = .ok (.bipush (-5), 2) := by decide +kernel
theorem dX3_perform_11 : decode cX3_perform 11 = .ok (.if_icmp .eq 8, 3) := by decide +kernel
theorem dX3_perform_14 : decode cX3_perform 14 = .ok (.bipush (-100), 2) := by decide +kernel
theorem dX3_perform_16 : decode cX3_perform 16 = .ok (.iload_n 1, 1) := by decide +kernel
theorem dX3_perform_17 : decode cX3_perform 17 = .ok (.isub, 1) := by decide +kernel
theorem dX3_perform_18 : decode cX3_perform 18 = .ok (.ireturn, 1) := by decide +kernel
theorem dX3_perform_19 : decode cX3_perform 19 = .ok (.aload_n 0, 1) := by decide +kernel
theorem dX3_perform_20 : decode cX3_perform 20 = .ok (.invokevirtual 40, 3) := by decide +kernel
theorem dX3_perform_23 : decode cX3_perform 23 = .ok (.iconst 0, 1) := by decide +kernel
theorem dX3_perform_24 : decode cX3_perform 24 = .ok (.istore_n 2, 1) := by decide +kernel
theorem dX3_perform_25 : decode cX3_perform 25 = .ok (.iload_n 2, 1) := by decide +kernel
theorem dX3_perform_26 : decode cX3_perform 26 = .ok (.aload_n 0, 1) := by decide +kernel
theorem dX3_perform_27 : decode cX3_perform 27 = .ok (.getfield 32, 3) := by decide +kernel
theorem dX3_perform_30 : decode cX3_perform 30 = .ok (.invokevirtual 81, 3) := by decide +kernel
theorem dX3_perform_33 : decode cX3_perform 33 = .ok (.if_icmp .ge 66, 3) := by decide +kernel
theorem dX3_perform_36 : decode cX3_perform 36 = .ok (.aload_n 0, 1) := by decide +kernel
theorem dX3_perform_37 : decode cX3_perform 37 = .ok (.getfield 32, 3) := by decide +kernel
theorem dX3_perform_40 : decode cX3_perform 40 = .ok (.iload_n 2, 1) := by decide +kernel
theorem dX3_perform_41 : decode cX3_perform 41 = .ok (.invokevirtual 84, 3) := by decide +kernel
theorem dX3_perform_44 : decode cX3_perform 44 = .ok (.istore_n 3, 1) := by decide +kernel
theorem dX3_perform_45 : decode cX3_perform 45 = .ok (.aload_n 0, 1) := by decide +kernel
theorem dX3_perform_46 : decode cX3_perform 46 = .ok (.getfield 32, 3) := by decide +kernel
theorem dX3_perform_49 : decode cX3_perform 49 = .ok (.iload_n 2, 1) := by decide +kernel
theorem dX3_perform_50 : decode cX3_perform 50 = .ok (.invokevirtual 87, 3) := by decide +kernel
theorem dX3_perform_53 : decode cX3_perform 53 = .ok (.istore 4, 2) := by decide +kernel
theorem dX3_perform_55 : decode cX3_perform 55 = .ok (.iload 4, 2) := by decide +kernel
theorem dX3_perform_57 : decode cX3_perform 57 = .ok (.bipush (-5), 2) := by decide +kernel
theorem dX3_perform_59 : decode cX3_perform 59 = .ok (.if_icmp .ne 14, 3) := by decide +kernel
theorem dX3_perform_62 : decode cX3_perform 62 = .ok (.aload_n 0, 1) := by decide +kernel
theorem dX3_perform_63 : decode cX3_perform 63 = .ok (.getfield 16, 3) := by decide +kernel
theorem dX3_perform_66 : decode cX3_perform 66 = .ok (.iload_n 3, 1) := by decide +kernel
theorem dX3_perform_67 : decode cX3_perform 67 = .ok (.invokevirtual 61, 3) := by decide +kernel
theorem dX3_perform_70 : decode cX3_perform 70 = .ok (.goto 13, 3) := by decide +kernel
theorem dX3_perform_73 : decode cX3_perform 73 = .ok (.aload_n 0, 1) := by decide +kernel
theorem dX3_perform_74 : decode cX3_perform 74 = .ok (.getfield 16, 3) := by decide +kernel
theorem dX3_perform_77 : decode cX3_perform 77 = .ok (.iload_n 3, 1) := by decide +kernel
theorem dX3_perform_78 : decode cX3_perform 78 = .ok (.iload 4, 2) := by decide +kernel
theorem dX3_perform_80 : decode cX3_perform 80 = .ok (.invokevirtual 64, 3) := by decide +kernel
theorem dX3_perform_83 : decode cX3_perform 83 = .ok (.istore 5, 2) := by decide +kernel
theorem dX3_perform_85 : decode cX3_perform 85 = .ok (.iload 5, 2) := by decide +kernel
theorem dX3_perform_87 : decode cX3_perform 87 = .ok (.ifCond .ge 6, 3) := by decide +kernel
theorem dX3_perform_90 : decode cX3_perform 90 = .ok (.iload 5, 2) := by decide +kernel
theorem dX3_perform_92 : decode cX3_perform 92 = .ok (.ireturn, 1) := by decide +kernel
theorem dX3_perform_93 : decode cX3_perform 93 = .ok (.iinc 2 1, 3) := by decide +kernel
theorem dX3_perform_96 : decode cX3_perform 96 = .ok (.goto (-71), 3) := by decide +kernel
theorem dX3_perform_99 : decode cX3_perform 99 = .ok (.aload_n 0, 1) := by decide +kernel
theorem dX3_perform_100 : decode cX3_perform 100 = .ok (.aload_n 0, 1) := by decide +kernel
theorem dX3_perform_101 : decode cX3_perform 101 = .ok (.getfield 32, 3) := by decide +kernel
theorem dX3_perform_104 : decode cX3_perform 104 = .ok (.invokevirtual 81, 3) := by decide +kernel
theorem dX3_perform_107 : decode cX3_perform 107 = .ok (.invokevirtual 47, 3) := by decide +kernel
theorem dX3_perform_110 : decode cX3_perform 110 = .ok (.ireturn, 1) := by decide +kernel
theorem dX3_giveBack_0 : decode cX3_giveBack 0 = .ok (.aload_n 0, 1) := by decide +kernel
theorem dX3_giveBack_1 : decode cX3_giveBack 1 = .ok (.invokevirtual 40, 3) := by decide +kernel
theorem dX3_giveBack_4 : decode cX3_giveBack 4 = .ok (.aload_n 0, 1) := by decide +kernel
theorem dX3_giveBack_5 : decode cX3_giveBack 5 = .ok (.aload_n 0, 1) := by decide +kernel
theorem dX3_giveBack_6 : decode cX3_giveBack 6 = .ok (.getfield 16, 3) := by decide +kernel
theorem dX3_giveBack_9 : decode cX3_giveBack 9 = .ok (.iload_n 1, 1) := by decide +kernel
theorem dX3_giveBack_10 : decode cX3_giveBack 10 = .ok (.invokevirtual 90, 3) := by decide +kernel
theorem dX3_giveBack_13 : decode cX3_giveBack 13 = .ok (.invokevirtual 47, 3) := by decide +kernel
theorem dX3_giveBack_16 : decode cX3_giveBack 16 = .ok (.ireturn, 1) := by decide +kernel
theorem dX3_giveUp_0 : decode cX3_giveUp 0 = .ok (.iload_n 1, 1) := by decide +kernel
theorem dX3_giveUp_1 : decode cX3_giveUp 1 = .ok (.invokestatic 50, 3) := by decide +kernel
theorem dX3_giveUp_4 : decode cX3_giveUp 4 = .ok (.ifCond .ne 5, 3) := by decide +kernel
theorem dX3_giveUp_7 : decode cX3_giveUp 7 = .ok (.iconst (-1), 1) := by decide +kernel
theorem dX3_giveUp_8 : decode cX3_giveUp 8 = .ok (.ireturn, 1) := by decide +kernel
theorem dX3_giveUp_9 : decode cX3_giveUp 9 = .ok (.aload_n 0, 1) := by decide +kernel
theorem dX3_giveUp_10 : decode cX3_giveUp 10 = .ok (.getfield 12, 3) := by decide +kernel
theorem dX3_giveUp_13 : decode cX3_giveUp 13 = .ok (.iload_n 1, 1) := by decide +kernel
theorem dX3_giveUp_14 : decode cX3_giveUp 14 = .ok (.invokevirtual 93, 3) := by decide +kernel
theorem dX3_giveUp_17 : decode cX3_giveUp 17 = .ok (.ifCond .eq 6, 3) := by decide +kernel
theorem dX3_giveUp_20 : decode cX3_giveUp 20 = .ok (.bipush (-4), 2) := by decide +kernel
theorem dX3_giveUp_22 : decode cX3_giveUp 22 = .ok (.ireturn, 1) := by decide +kernel
theorem dX3_giveUp_23 : decode cX3_giveUp 23 = .ok (.aload_n 0, 1) := by decide +kernel
theorem dX3_giveUp_24 : decode cX3_giveUp 24 = .ok (.getfield 12, 3) := by decide +kernel
theorem dX3_giveUp_27 : decode cX3_giveUp 27 = .ok (.iload_n 1, 1) := by decide +kernel
theorem dX3_giveUp_28 : decode cX3_giveUp 28 = .ok (.invokevirtual 96, 3) := by decide +kernel
theorem dX3_giveUp_31 : decode cX3_giveUp 31 = .ok (.ifCond .eq 6, 3) := by decide +kernel
theorem dX3_giveUp_34 : decode cX3_giveUp 34 = .ok (.bipush (-5), 2) := by decide +kernel
theorem dX3_giveUp_36 : decode cX3_giveUp 36 = .ok (.ireturn, 1) := by decide +kernel
theorem dX3_giveUp_37 : decode cX3_giveUp 37 = .ok (.aload_n 0, 1) := by decide +kernel
theorem dX3_giveUp_38 : decode cX3_giveUp 38 = .ok (.invokevirtual 40, 3) := by decide +kernel
theorem dX3_giveUp_41 : decode cX3_giveUp 41 = .ok (.aload_n 0, 1) := by decide +kernel
theorem dX3_giveUp_42 : decode cX3_giveUp 42 = .ok (.aload_n 0, 1) := by decide +kernel
theorem dX3_giveUp_43 : decode cX3_giveUp 43 = .ok (.getfield 16, 3) := by decide +kernel
theorem dX3_giveUp_46 : decode cX3_giveUp 46 = .ok (.iload_n 1, 1) := by decide +kernel
theorem dX3_giveUp_47 : decode cX3_giveUp 47 = .ok (.invokevirtual 99, 3) := by decide +kernel
theorem dX3_giveUp_50 : decode cX3_giveUp 50 = .ok (.invokevirtual 47, 3) := by decide +kernel
theorem dX3_giveUp_53 : decode cX3_giveUp 53 = .ok (.ireturn, 1) := by decide +kernel
theorem dX3_undo_0 : decode cX3_undo 0 = .ok (.aload_n 0, 1) := by decide +kernel
theorem dX3_undo_1 : decode cX3_undo 1 = .ok (.getfield 25, 3) := by decide +kernel
theorem dX3_undo_4 : decode cX3_undo 4 = .ok (.invokevirtual 108, 3) := by decide +kernel
theorem dX3_undo_7 : decode cX3_undo 7 = .ok (.ifCond .ne 6, 3) := by decide +kernel
theorem dX3_undo_10 : decode cX3_undo 10 = .ok (.bipush (-5), 2) := by decide +kernel
theorem dX3_undo_12 : decode cX3_undo 12 = .ok (.ireturn, 1) := by decide +kernel
theorem dX3_undo_13 : decode cX3_undo 13 = .ok (.aload_n 0, 1) := by decide +kernel
theorem dX3_undo_14 : decode cX3_undo 14 = .ok (.getfield 25, 3) := by decide +kernel
theorem dX3_undo_17 : decode cX3_undo 17 = .ok (.aload_n 0, 1) := by decide +kernel
theorem dX3_undo_18 : decode cX3_undo 18 = .ok (.getfield 12, 3) := by decide +kernel
theorem dX3_undo_21 : decode cX3_undo 21 = .ok (.invokevirtual 111, 3) := by decide +kernel
theorem dX3_undo_24 : decode cX3_undo 24 = .ok (.aload_n 0, 1) := by decide +kernel
theorem dX3_undo_25 : decode cX3_undo 25 = .ok (.getfield 25, 3) := by decide +kernel
theorem dX3_undo_28 : decode cX3_undo 28 = .ok (.invokevirtual 108, 3) := by decide +kernel
theorem dX3_undo_31 : decode cX3_undo 31 = .ok (.ireturn, 1) := by decide +kernel
theorem dX3_restore_0 : decode cX3_restore 0 = .ok (.aload_n 0, 1) := by decide +kernel
theorem dX3_restore_1 : decode cX3_restore 1 = .ok (.getfield 36, 3) := by decide +kernel
theorem dX3_restore_4 : decode cX3_restore 4 = .ok (.ifCond .ne 6, 3) := by decide +kernel
theorem dX3_restore_7 : decode cX3_restore 7 = .ok (.bipush (-5), 2) := by decide +kernel
theorem dX3_restore_9 : decode cX3_restore 9 = .ok (.ireturn, 1) := by decide +kernel
theorem dX3_restore_10 : decode cX3_restore 10 = .ok (.aload_n 0, 1) := by decide +kernel
theorem dX3_restore_11 : decode cX3_restore 11 = .ok (.getfield 16, 3) := by decide +kernel
theorem dX3_restore_14 : decode cX3_restore 14 = .ok (.aload_n 0, 1) := by decide +kernel
theorem dX3_restore_15 : decode cX3_restore 15 = .ok (.getfield 19, 3) := by decide +kernel
theorem dX3_restore_18 : decode cX3_restore 18 = .ok (.invokevirtual 115, 3) := by decide +kernel
theorem dX3_restore_21 : decode cX3_restore 21 = .ok (.aload_n 0, 1) := by decide +kernel
theorem dX3_restore_22 : decode cX3_restore 22 = .ok (.aload_n 0, 1) := by decide +kernel
theorem dX3_restore_23 : decode cX3_restore 23 = .ok (.getfield 16, 3) := by decide +kernel
theorem dX3_restore_26 : decode cX3_restore 26 = .ok (.invokevirtual 118, 3) := by decide +kernel
theorem dX3_restore_29 : decode cX3_restore 29 = .ok (.invokevirtual 47, 3) := by decide +kernel
theorem dX3_restore_32 : decode cX3_restore 32 = .ok (.ireturn, 1) := by decide +kernel
theorem dX3_address_0 : decode cX3_address 0 = .ok (.aload_n 0, 1) := by decide +kernel
theorem dX3_address_1 : decode cX3_address 1 = .ok (.getfield 12, 3) := by decide +kernel
theorem dX3_address_4 : decode cX3_address 4 = .ok (.iload_n 1, 1) := by decide +kernel
theorem dX3_address_5 : decode cX3_address 5 = .ok (.invokevirtual 67, 3) := by decide +kernel
theorem dX3_address_8 : decode cX3_address 8 = .ok (.ifCond .eq 15, 3) := by decide +kernel
theorem dX3_address_11 : decode cX3_address 11 = .ok (.aload_n 0, 1) := by decide +kernel
theorem dX3_address_12 : decode cX3_address 12 = .ok (.getfield 12, 3) := by decide +kernel
theorem dX3_address_15 : decode cX3_address 15 = .ok (.iload_n 1, 1) := by decide +kernel
theorem dX3_address_16 : decode cX3_address 16 = .ok (.iload_n 2, 1) := by decide +kernel
theorem dX3_address_17 : decode cX3_address 17 = .ok (.invokevirtual 121, 3) := by decide +kernel
theorem dX3_address_20 : decode cX3_address 20 = .ok (.goto 4, 3) := by decide +kernel
theorem dX3_address_23 : decode cX3_address 23 = .ok (.iconst (-1), 1) := by decide +kernel
theorem dX3_address_24 : decode cX3_address 24 = .ok (.ireturn, 1) := by decide +kernel
theorem dX3_sector_0 : decode cX3_sector 0 = .ok (.iload_n 1, 1) := by decide +kernel
theorem dX3_sector_1 : decode cX3_sector 1 = .ok (.invokestatic 124, 3) := by decide +kernel
theorem dX3_sector_4 : decode cX3_sector 4 = .ok (.ifCond .eq 15, 3) := by decide +kernel
theorem dX3_sector_7 : decode cX3_sector 7 = .ok (.aload_n 0, 1) := by decide +kernel
theorem dX3_sector_8 : decode cX3_sector 8 = .ok (.getfield 12, 3) := by decide +kernel
theorem dX3_sector_11 : decode cX3_sector 11 = .ok (.iload_n 1, 1) := by decide +kernel
theorem dX3_sector_12 : decode cX3_sector 12 = .ok (.iload_n 2, 1) := by decide +kernel
theorem dX3_sector_13 : decode cX3_sector 13 = .ok (.invokevirtual 127, 3) := by decide +kernel
theorem dX3_sector_16 : decode cX3_sector 16 = .ok (.goto 4, 3) := by decide +kernel
theorem dX3_sector_19 : decode cX3_sector 19 = .ok (.iconst (-1), 1) := by decide +kernel
theorem dX3_sector_20 : decode cX3_sector 20 = .ok (.ireturn, 1) := by decide +kernel
theorem dX3_head_0 : decode cX3_head 0 = .ok (.iload_n 1, 1) := by decide +kernel
theorem dX3_head_1 : decode cX3_head 1 = .ok (.invokestatic 50, 3) := by decide +kernel
theorem dX3_head_4 : decode cX3_head 4 = .ok (.ifCond .eq 15, 3) := by decide +kernel
theorem dX3_head_7 : decode cX3_head 7 = .ok (.aload_n 0, 1) := by decide +kernel
theorem dX3_head_8 : decode cX3_head 8 = .ok (.getfield 12, 3) := by decide +kernel
theorem dX3_head_11 : decode cX3_head 11 = .ok (.iload_n 1, 1) := by decide +kernel
theorem dX3_head_12 : decode cX3_head 12 = .ok (.iload_n 2, 1) := by decide +kernel
theorem dX3_head_13 : decode cX3_head 13 = .ok (.invokevirtual 130, 3) := by decide +kernel
theorem dX3_head_16 : decode cX3_head 16 = .ok (.goto 4, 3) := by decide +kernel
theorem dX3_head_19 : decode cX3_head 19 = .ok (.iconst (-1), 1) := by decide +kernel
theorem dX3_head_20 : decode cX3_head 20 = .ok (.ireturn, 1) := by decide +kernel
theorem dX3_readsLeft_0 : decode cX3_readsLeft 0 = .ok (.aload_n 0, 1) := by decide +kernel
theorem dX3_readsLeft_1 : decode cX3_readsLeft 1 = .ok (.getfield 12, 3) := by decide +kernel
theorem dX3_readsLeft_4 : decode cX3_readsLeft 4 = .ok (.iload_n 1, 1) := by decide +kernel
theorem dX3_readsLeft_5 : decode cX3_readsLeft 5 = .ok (.invokevirtual 133, 3) := by decide +kernel
theorem dX3_readsLeft_8 : decode cX3_readsLeft 8 = .ok (.ireturn, 1) := by decide +kernel
theorem dX3_wouldLose_0 : decode cX3_wouldLose 0 = .ok (.iload_n 1, 1) := by decide +kernel
theorem dX3_wouldLose_1 : decode cX3_wouldLose 1 = .ok (.invokestatic 50, 3) := by decide +kernel
theorem dX3_wouldLose_4 : decode cX3_wouldLose 4 = .ok (.ifCond .ne 5, 3) := by decide +kernel
theorem dX3_wouldLose_7 : decode cX3_wouldLose 7 = .ok (.iconst (-1), 1) := by decide +kernel
theorem dX3_wouldLose_8 : decode cX3_wouldLose 8 = .ok (.ireturn, 1) := by decide +kernel
theorem dX3_wouldLose_9 : decode cX3_wouldLose 9 = .ok (.aload_n 0, 1) := by decide +kernel
theorem dX3_wouldLose_10 : decode cX3_wouldLose 10 = .ok (.getfield 12, 3) := by decide +kernel
theorem dX3_wouldLose_13 : decode cX3_wouldLose 13 = .ok (.iload_n 1, 1) := by decide +kernel
theorem dX3_wouldLose_14 : decode cX3_wouldLose 14 = .ok (.invokevirtual 96, 3) := by decide +kernel
theorem dX3_wouldLose_17 : decode cX3_wouldLose 17 = .ok (.ifCond .eq 6, 3) := by decide +kernel
theorem dX3_wouldLose_20 : decode cX3_wouldLose 20 = .ok (.bipush (-5), 2) := by decide +kernel
theorem dX3_wouldLose_22 : decode cX3_wouldLose 22 = .ok (.ireturn, 1) := by decide +kernel
theorem dX3_wouldLose_23 : decode cX3_wouldLose 23 = .ok (.aload_n 0, 1) := by decide +kernel
theorem dX3_wouldLose_24 : decode cX3_wouldLose 24 = .ok (.invokevirtual 40, 3) := by decide +kernel
theorem dX3_wouldLose_27 : decode cX3_wouldLose 27 = .ok (.aload_n 0, 1) := by decide +kernel
theorem dX3_wouldLose_28 : decode cX3_wouldLose 28 = .ok (.getfield 16, 3) := by decide +kernel
theorem dX3_wouldLose_31 : decode cX3_wouldLose 31 = .ok (.iload_n 1, 1) := by decide +kernel
theorem dX3_wouldLose_32 : decode cX3_wouldLose 32 = .ok (.invokevirtual 99, 3) := by decide +kernel
theorem dX3_wouldLose_35 : decode cX3_wouldLose 35 = .ok (.ireturn, 1) := by decide +kernel
theorem dX3_worst_0 : decode cX3_worst 0 = .ok (.iload_n 1, 1) := by decide +kernel
theorem dX3_worst_1 : decode cX3_worst 1 = .ok (.ifCond .ge 8, 3) := by decide +kernel
theorem dX3_worst_4 : decode cX3_worst 4 = .ok (.bipush (-2), 2) := by decide +kernel
theorem dX3_worst_6 : decode cX3_worst 6 = .ok (.goto 11, 3) := by decide +kernel
theorem dX3_worst_9 : decode cX3_worst 9 = .ok (.aload_n 0, 1) := by decide +kernel
theorem dX3_worst_10 : decode cX3_worst 10 = .ok (.getfield 12, 3) := by decide +kernel
theorem dX3_worst_13 : decode cX3_worst 13 = .ok (.iload_n 1, 1) := by decide +kernel
theorem dX3_worst_14 : decode cX3_worst 14 = .ok (.invokevirtual 136, 3) := by decide +kernel
theorem dX3_worst_17 : decode cX3_worst 17 = .ok (.ireturn, 1) := by decide +kernel
theorem dX3_count_0 : decode cX3_count 0 = .ok (.iload_n 1, 1) := by decide +kernel
theorem dX3_count_1 : decode cX3_count 1 = .ok (.lookupswitch 43 #[(12, 27), (13, 35)], 27) := by decide +kernel
theorem dX3_count_28 : decode cX3_count 28 = .ok (.aload_n 0, 1) := by decide +kernel
theorem dX3_count_29 : decode cX3_count 29 = .ok (.getfield 25, 3) := by decide +kernel
theorem dX3_count_32 : decode cX3_count 32 = .ok (.invokevirtual 108, 3) := by decide +kernel
theorem dX3_count_35 : decode cX3_count 35 = .ok (.ireturn, 1) := by decide +kernel
theorem dX3_count_36 : decode cX3_count 36 = .ok (.aload_n 0, 1) := by decide +kernel
theorem dX3_count_37 : decode cX3_count 37 = .ok (.getfield 32, 3) := by decide +kernel
theorem dX3_count_40 : decode cX3_count 40 = .ok (.invokevirtual 139, 3) := by decide +kernel
theorem dX3_count_43 : decode cX3_count 43 = .ok (.ireturn, 1) := by decide +kernel
theorem dX3_count_44 : decode cX3_count 44 = .ok (.aload_n 0, 1) := by decide +kernel
theorem dX3_count_45 : decode cX3_count 45 = .ok (.getfield 12, 3) := by decide +kernel
theorem dX3_count_48 : decode cX3_count 48 = .ok (.iload_n 1, 1) := by decide +kernel
theorem dX3_count_49 : decode cX3_count 49 = .ok (.invokevirtual 142, 3) := by decide +kernel
theorem dX3_count_52 : decode cX3_count 52 = .ok (.ireturn, 1) := by decide +kernel
theorem dX3_startTrial_0 : decode cX3_startTrial 0 = .ok (.aload_n 0, 1) := by decide +kernel
theorem dX3_startTrial_1 : decode cX3_startTrial 1 = .ok (.getfield 16, 3) := by decide +kernel
theorem dX3_startTrial_4 : decode cX3_startTrial 4 = .ok (.aload_n 0, 1) := by decide +kernel
theorem dX3_startTrial_5 : decode cX3_startTrial 5 = .ok (.getfield 12, 3) := by decide +kernel
theorem dX3_startTrial_8 : decode cX3_startTrial 8 = .ok (.invokevirtual 115, 3) := by decide +kernel
theorem dX3_startTrial_11 : decode cX3_startTrial 11 = .ok (.return_, 1) := by decide +kernel
theorem dX3_settle_0 : decode cX3_settle 0 = .ok (.iload_n 1, 1) := by decide +kernel
theorem dX3_settle_1 : decode cX3_settle 1 = .ok (.ifCond .lt 25, 3) := by decide +kernel
theorem dX3_settle_4 : decode cX3_settle 4 = .ok (.aload_n 0, 1) := by decide +kernel
theorem dX3_settle_5 : decode cX3_settle 5 = .ok (.getfield 25, 3) := by decide +kernel
theorem dX3_settle_8 : decode cX3_settle 8 = .ok (.aload_n 0, 1) := by decide +kernel
theorem dX3_settle_9 : decode cX3_settle 9 = .ok (.getfield 12, 3) := by decide +kernel
theorem dX3_settle_12 : decode cX3_settle 12 = .ok (.invokevirtual 145, 3) := by decide +kernel
theorem dX3_settle_15 : decode cX3_settle 15 = .ok (.aload_n 0, 1) := by decide +kernel
theorem dX3_settle_16 : decode cX3_settle 16 = .ok (.getfield 12, 3) := by decide +kernel
theorem dX3_settle_19 : decode cX3_settle 19 = .ok (.aload_n 0, 1) := by decide +kernel
theorem dX3_settle_20 : decode cX3_settle 20 = .ok (.getfield 16, 3) := by decide +kernel
theorem dX3_settle_23 : decode cX3_settle 23 = .ok (.invokevirtual 115, 3) := by decide +kernel
theorem dX3_settle_26 : decode cX3_settle 26 = .ok (.iload_n 1, 1) := by decide +kernel
theorem dX3_settle_27 : decode cX3_settle 27 = .ok (.ireturn, 1) := by decide +kernel
theorem dX3_isHead_0 : decode cX3_isHead 0 = .ok (.iload_n 0, 1) := by decide +kernel
theorem dX3_isHead_1 : decode cX3_isHead 1 = .ok (.ifCond .lt 12, 3) := by decide +kernel
theorem dX3_isHead_4 : decode cX3_isHead 4 = .ok (.iload_n 0, 1) := by decide +kernel
theorem dX3_isHead_5 : decode cX3_isHead 5 = .ok (.iconst 4, 1) := by decide +kernel
theorem dX3_isHead_6 : decode cX3_isHead 6 = .ok (.if_icmp .ge 7, 3) := by decide +kernel
theorem dX3_isHead_9 : decode cX3_isHead 9 = .ok (.iconst 1, 1) := by decide +kernel
theorem dX3_isHead_10 : decode cX3_isHead 10 = .ok (.goto 4, 3) := by decide +kernel
theorem dX3_isHead_13 : decode cX3_isHead 13 = .ok (.iconst 0, 1) := by decide +kernel
theorem dX3_isHead_14 : decode cX3_isHead 14 = .ok (.ireturn, 1) := by decide +kernel
theorem dX3_isSector_0 : decode cX3_isSector 0 = .ok (.iload_n 0, 1) := by decide +kernel
theorem dX3_isSector_1 : decode cX3_isSector 1 = .ok (.ifCond .lt 13, 3) := by decide +kernel
theorem dX3_isSector_4 : decode cX3_isSector 4 = .ok (.iload_n 0, 1) := by decide +kernel
theorem dX3_isSector_5 : decode cX3_isSector 5 = .ok (.bipush 64, 2) := by decide +kernel
theorem dX3_isSector_7 : decode cX3_isSector 7 = .ok (.if_icmp .ge 7, 3) := by decide +kernel
theorem dX3_isSector_10 : decode cX3_isSector 10 = .ok (.iconst 1, 1) := by decide +kernel
theorem dX3_isSector_11 : decode cX3_isSector 11 = .ok (.goto 4, 3) := by decide +kernel
theorem dX3_isSector_14 : decode cX3_isSector 14 = .ok (.iconst 0, 1) := by decide +kernel
theorem dX3_isSector_15 : decode cX3_isSector 15 = .ok (.ireturn, 1) := by decide +kernel
theorem dX3_headOf_0 : decode cX3_headOf 0 = .ok (.iload_n 0, 1) := by decide +kernel
theorem dX3_headOf_1 : decode cX3_headOf 1 = .ok (.bipush 16, 2) := by decide +kernel
theorem dX3_headOf_3 : decode cX3_headOf 3 = .ok (.idiv, 1) := by decide +kernel
theorem dX3_headOf_4 : decode cX3_headOf 4 = .ok (.ireturn, 1) := by decide +kernel
theorem dX3_placeOf_0 : decode cX3_placeOf 0 = .ok (.iload_n 0, 1) := by decide +kernel
theorem dX3_placeOf_1 : decode cX3_placeOf 1 = .ok (.bipush 16, 2) := by decide +kernel
theorem dX3_placeOf_3 : decode cX3_placeOf 3 = .ok (.irem, 1) := by decide +kernel
theorem dX3_placeOf_4 : decode cX3_placeOf 4 = .ok (.ireturn, 1) := by decide +kernel
theorem dX3_stepsBetween_0 : decode cX3_stepsBetween 0 = .ok (.iload_n 0, 1) := by decide +kernel
theorem dX3_stepsBetween_1 : decode cX3_stepsBetween 1 = .ok (.invokestatic 148, 3) := by decide +kernel
theorem dX3_stepsBetween_4 : decode cX3_stepsBetween 4 = .ok (.iload_n 1, 1) := by decide +kernel
theorem dX3_stepsBetween_5 : decode cX3_stepsBetween 5 = .ok (.invokestatic 148, 3) := by decide +kernel
theorem dX3_stepsBetween_8 : decode cX3_stepsBetween 8 = .ok (.isub, 1) := by decide +kernel
theorem dX3_stepsBetween_9 : decode cX3_stepsBetween 9 = .ok (.invokestatic 151, 3) := by decide +kernel
theorem dX3_stepsBetween_12 : decode cX3_stepsBetween 12 = .ok (.istore_n 2, 1) := by decide +kernel
theorem dX3_stepsBetween_13 : decode cX3_stepsBetween 13 = .ok (.iload_n 0, 1) := by decide +kernel
theorem dX3_stepsBetween_14 : decode cX3_stepsBetween 14 = .ok (.invokestatic 156, 3) := by decide +kernel
theorem dX3_stepsBetween_17 : decode cX3_stepsBetween 17 = .ok (.iload_n 1, 1) := by decide +kernel
theorem dX3_stepsBetween_18 : decode cX3_stepsBetween 18 = .ok (.invokestatic 156, 3) := by decide +kernel
theorem dX3_stepsBetween_21 : decode cX3_stepsBetween 21 = .ok (.if_icmp .ne 7, 3) := by decide +kernel
theorem dX3_stepsBetween_24 : decode cX3_stepsBetween 24 = .ok (.iload_n 2, 1) := by decide +kernel
theorem dX3_stepsBetween_25 : decode cX3_stepsBetween 25 = .ok (.goto 6, 3) := by decide +kernel
theorem dX3_stepsBetween_28 : decode cX3_stepsBetween 28 = .ok (.iload_n 2, 1) := by decide +kernel
theorem dX3_stepsBetween_29 : decode cX3_stepsBetween 29 = .ok (.iconst 2, 1) := by decide +kernel
theorem dX3_stepsBetween_30 : decode cX3_stepsBetween 30 = .ok (.iadd, 1) := by decide +kernel
theorem dX3_stepsBetween_31 : decode cX3_stepsBetween 31 = .ok (.ireturn, 1) := by decide +kernel
theorem dJ9_abs_0f7a4_0 : decode cJ9_abs_0f7a4 0 = .ok (.iload_n 0, 1) := by decide +kernel
theorem dJ9_abs_0f7a4_1 : decode cJ9_abs_0f7a4 1 = .ok (.ifCond .ge 8, 3) := by decide +kernel
theorem dJ9_abs_0f7a4_4 : decode cJ9_abs_0f7a4 4 = .ok (.iload_n 0, 1) := by decide +kernel
theorem dJ9_abs_0f7a4_5 : decode cJ9_abs_0f7a4 5 = .ok (.ineg, 1) := by decide +kernel
theorem dJ9_abs_0f7a4_6 : decode cJ9_abs_0f7a4 6 = .ok (.goto 4, 3) := by decide +kernel
theorem dJ9_abs_0f7a4_9 : decode cJ9_abs_0f7a4 9 = .ok (.iload_n 0, 1) := by decide +kernel
theorem dJ9_abs_0f7a4_10 : decode cJ9_abs_0f7a4 10 = .ok (.ireturn, 1) := by decide +kernel
theorem dL_cell_0 : decode cL_cell 0 = .ok (.iload_n 1, 1) := by decide +kernel
theorem dL_cell_1 : decode cL_cell 1 = .ok (.aload_n 0, 1) := by decide +kernel
theorem dL_cell_2 : decode cL_cell 2 = .ok (.arraylength, 1) := by decide +kernel
theorem dL_cell_3 : decode cL_cell 3 = .ok (.if_icmp .ge 9, 3) := by decide +kernel
theorem dL_cell_6 : decode cL_cell 6 = .ok (.aload_n 0, 1) := by decide +kernel
theorem dL_cell_7 : decode cL_cell 7 = .ok (.iload_n 1, 1) := by decide +kernel
theorem dL_cell_8 : decode cL_cell 8 = .ok (.iaload, 1) := by decide +kernel
theorem dL_cell_9 : decode cL_cell 9 = .ok (.goto 11, 3) := by decide +kernel
theorem dL_cell_12 : decode cL_cell 12 = .ok (.ldc 7, 2) := by decide +kernel
theorem dL_cell_14 : decode cL_cell 14 = .ok (.iload_n 1, 1) := by decide +kernel
theorem dL_cell_15 : decode cL_cell 15 = .ok (.imul, 1) := by decide +kernel
theorem dL_cell_16 : decode cL_cell 16 = .ok (.sipush 1543, 3) := by decide +kernel
theorem dL_cell_19 : decode cL_cell 19 = .ok (.iadd, 1) := by decide +kernel
theorem dL_cell_20 : decode cL_cell 20 = .ok (.ireturn, 1) := by decide +kernel
theorem dL_low_0 : decode cL_low 0 = .ok (.iload_n 0, 1) := by decide +kernel
theorem dL_low_1 : decode cL_low 1 = .ok (.ldc 8, 2) := by decide +kernel
theorem dL_low_3 : decode cL_low 3 = .ok (.iand, 1) := by decide +kernel
theorem dL_low_4 : decode cL_low 4 = .ok (.iload_n 1, 1) := by decide +kernel
theorem dL_low_5 : decode cL_low 5 = .ok (.irem, 1) := by decide +kernel
theorem dL_low_6 : decode cL_low 6 = .ok (.ireturn, 1) := by decide +kernel
theorem dL_digest_0 : decode cL_digest 0 = .ok (.ldc2_w 9, 3) := by decide +kernel
theorem dL_digest_3 : decode cL_digest 3 = .ok (.lstore_n 1, 1) := by decide +kernel
theorem dL_digest_4 : decode cL_digest 4 = .ok (.iconst 0, 1) := by decide +kernel
theorem dL_digest_5 : decode cL_digest 5 = .ok (.istore_n 3, 1) := by decide +kernel
theorem dL_digest_6 : decode cL_digest 6 = .ok (.iload_n 3, 1) := by decide +kernel
theorem dL_digest_7 : decode cL_digest 7 = .ok (.bipush 12, 2) := by decide +kernel
theorem dL_digest_9 : decode cL_digest 9 = .ok (.if_icmp .ge 22, 3) := by decide +kernel
theorem dL_digest_12 : decode cL_digest 12 = .ok (.ldc2_w 11, 3) := by decide +kernel
theorem dL_digest_15 : decode cL_digest 15 = .ok (.lload_n 1, 1) := by decide +kernel
theorem dL_digest_16 : decode cL_digest 16 = .ok (.lmul, 1) := by decide +kernel
theorem dL_digest_17 : decode cL_digest 17 = .ok (.aload_n 0, 1) := by decide +kernel
theorem dL_digest_18 : decode cL_digest 18 = .ok (.iload_n 3, 1) := by decide +kernel
theorem dL_digest_19 : decode cL_digest 19 = .ok (.invokevirtual 13, 3) := by decide +kernel
theorem dL_digest_22 : decode cL_digest 22 = .ok (.i2l, 1) := by decide +kernel
theorem dL_digest_23 : decode cL_digest 23 = .ok (.ladd, 1) := by decide +kernel
theorem dL_digest_24 : decode cL_digest 24 = .ok (.lstore_n 1, 1) := by decide +kernel
theorem dL_digest_25 : decode cL_digest 25 = .ok (.iinc 3 1, 3) := by decide +kernel
theorem dL_digest_28 : decode cL_digest 28 = .ok (.goto (-22), 3) := by decide +kernel
theorem dL_digest_31 : decode cL_digest 31 = .ok (.iconst 0, 1) := by decide +kernel
theorem dL_digest_32 : decode cL_digest 32 = .ok (.istore_n 3, 1) := by decide +kernel
theorem dL_digest_33 : decode cL_digest 33 = .ok (.iload_n 3, 1) := by decide +kernel
theorem dL_digest_34 : decode cL_digest 34 = .ok (.bipush 64, 2) := by decide +kernel
theorem dL_digest_36 : decode cL_digest 36 = .ok (.if_icmp .ge 73, 3) := by decide +kernel
theorem dL_digest_39 : decode cL_digest 39 = .ok (.ldc2_w 11, 3) := by decide +kernel
theorem dL_digest_42 : decode cL_digest 42 = .ok (.lload_n 1, 1) := by decide +kernel
theorem dL_digest_43 : decode cL_digest 43 = .ok (.lmul, 1) := by decide +kernel
theorem dL_digest_44 : decode cL_digest 44 = .ok (.ldc2_w 19, 3) := by decide +kernel
theorem dL_digest_47 : decode cL_digest 47 = .ok (.aload_n 0, 1) := by decide +kernel
theorem dL_digest_48 : decode cL_digest 48 = .ok (.iload_n 3, 1) := by decide +kernel
theorem dL_digest_49 : decode cL_digest 49 = .ok (.iconst 0, 1) := by decide +kernel
theorem dL_digest_50 : decode cL_digest 50 = .ok (.invokevirtual 21, 3) := by decide +kernel
theorem dL_digest_53 : decode cL_digest 53 = .ok (.i2l, 1) := by decide +kernel
theorem dL_digest_54 : decode cL_digest 54 = .ok (.lmul, 1) := by decide +kernel
theorem dL_digest_55 : decode cL_digest 55 = .ok (.ladd, 1) := by decide +kernel
theorem dL_digest_56 : decode cL_digest 56 = .ok (.aload_n 0, 1) := by decide +kernel
theorem dL_digest_57 : decode cL_digest 57 = .ok (.iload_n 3, 1) := by decide +kernel
theorem dL_digest_58 : decode cL_digest 58 = .ok (.iconst 3, 1) := by decide +kernel
theorem dL_digest_59 : decode cL_digest 59 = .ok (.invokevirtual 21, 3) := by decide +kernel
theorem dL_digest_62 : decode cL_digest 62 = .ok (.i2l, 1) := by decide +kernel
theorem dL_digest_63 : decode cL_digest 63 = .ok (.ladd, 1) := by decide +kernel
theorem dL_digest_64 : decode cL_digest 64 = .ok (.lstore_n 1, 1) := by decide +kernel
theorem dL_digest_65 : decode cL_digest 65 = .ok (.ldc2_w 11, 3) := by decide +kernel
theorem dL_digest_68 : decode cL_digest 68 = .ok (.lload_n 1, 1) := by decide +kernel
theorem dL_digest_69 : decode cL_digest 69 = .ok (.lmul, 1) := by decide +kernel
theorem dL_digest_70 : decode cL_digest 70 = .ok (.ldc2_w 25, 3) := by decide +kernel
theorem dL_digest_73 : decode cL_digest 73 = .ok (.aload_n 0, 1) := by decide +kernel
theorem dL_digest_74 : decode cL_digest 74 = .ok (.iload_n 3, 1) := by decide +kernel
theorem dL_digest_75 : decode cL_digest 75 = .ok (.iconst 0, 1) := by decide +kernel
theorem dL_digest_76 : decode cL_digest 76 = .ok (.invokevirtual 27, 3) := by decide +kernel
theorem dL_digest_79 : decode cL_digest 79 = .ok (.i2l, 1) := by decide +kernel
theorem dL_digest_80 : decode cL_digest 80 = .ok (.lmul, 1) := by decide +kernel
theorem dL_digest_81 : decode cL_digest 81 = .ok (.ladd, 1) := by decide +kernel
theorem dL_digest_82 : decode cL_digest 82 = .ok (.ldc2_w 19, 3) := by decide +kernel
theorem dL_digest_85 : decode cL_digest 85 = .ok (.aload_n 0, 1) := by decide +kernel
theorem dL_digest_86 : decode cL_digest 86 = .ok (.iload_n 3, 1) := by decide +kernel
theorem dL_digest_87 : decode cL_digest 87 = .ok (.iconst 1, 1) := by decide +kernel
theorem dL_digest_88 : decode cL_digest 88 = .ok (.invokevirtual 27, 3) := by decide +kernel
theorem dL_digest_91 : decode cL_digest 91 = .ok (.i2l, 1) := by decide +kernel
theorem dL_digest_92 : decode cL_digest 92 = .ok (.lmul, 1) := by decide +kernel
theorem dL_digest_93 : decode cL_digest 93 = .ok (.ladd, 1) := by decide +kernel
theorem dL_digest_94 : decode cL_digest 94 = .ok (.aload_n 0, 1) := by decide +kernel
theorem dL_digest_95 : decode cL_digest 95 = .ok (.iload_n 3, 1) := by decide +kernel
theorem dL_digest_96 : decode cL_digest 96 = .ok (.iconst 5, 1) := by decide +kernel
theorem dL_digest_97 : decode cL_digest 97 = .ok (.invokevirtual 27, 3) := by decide +kernel
theorem dL_digest_100 : decode cL_digest 100 = .ok (.i2l, 1) := by decide +kernel
theorem dL_digest_101 : decode cL_digest 101 = .ok (.ladd, 1) := by decide +kernel
theorem dL_digest_102 : decode cL_digest 102 = .ok (.lstore_n 1, 1) := by decide +kernel
theorem dL_digest_103 : decode cL_digest 103 = .ok (.iinc 3 1, 3) := by decide +kernel
theorem dL_digest_106 : decode cL_digest 106 = .ok (.goto (-73), 3) := by decide +kernel
theorem dL_digest_109 : decode cL_digest 109 = .ok (.iconst 0, 1) := by decide +kernel
theorem dL_digest_110 : decode cL_digest 110 = .ok (.istore_n 3, 1) := by decide +kernel
theorem dL_digest_111 : decode cL_digest 111 = .ok (.iload_n 3, 1) := by decide +kernel
theorem dL_digest_112 : decode cL_digest 112 = .ok (.iconst 4, 1) := by decide +kernel
theorem dL_digest_113 : decode cL_digest 113 = .ok (.if_icmp .ge 47, 3) := by decide +kernel
theorem dL_digest_116 : decode cL_digest 116 = .ok (.ldc2_w 11, 3) := by decide +kernel
theorem dL_digest_119 : decode cL_digest 119 = .ok (.lload_n 1, 1) := by decide +kernel
theorem dL_digest_120 : decode cL_digest 120 = .ok (.lmul, 1) := by decide +kernel
theorem dL_digest_121 : decode cL_digest 121 = .ok (.ldc2_w 25, 3) := by decide +kernel
theorem dL_digest_124 : decode cL_digest 124 = .ok (.aload_n 0, 1) := by decide +kernel
theorem dL_digest_125 : decode cL_digest 125 = .ok (.iload_n 3, 1) := by decide +kernel
theorem dL_digest_126 : decode cL_digest 126 = .ok (.iconst 0, 1) := by decide +kernel
theorem dL_digest_127 : decode cL_digest 127 = .ok (.invokevirtual 30, 3) := by decide +kernel
theorem dL_digest_130 : decode cL_digest 130 = .ok (.i2l, 1) := by decide +kernel
theorem dL_digest_131 : decode cL_digest 131 = .ok (.lmul, 1) := by decide +kernel
theorem dL_digest_132 : decode cL_digest 132 = .ok (.ladd, 1) := by decide +kernel
theorem dL_digest_133 : decode cL_digest 133 = .ok (.ldc2_w 19, 3) := by decide +kernel
theorem dL_digest_136 : decode cL_digest 136 = .ok (.aload_n 0, 1) := by decide +kernel
theorem dL_digest_137 : decode cL_digest 137 = .ok (.iload_n 3, 1) := by decide +kernel
theorem dL_digest_138 : decode cL_digest 138 = .ok (.iconst 1, 1) := by decide +kernel
theorem dL_digest_139 : decode cL_digest 139 = .ok (.invokevirtual 30, 3) := by decide +kernel
theorem dL_digest_142 : decode cL_digest 142 = .ok (.i2l, 1) := by decide +kernel
theorem dL_digest_143 : decode cL_digest 143 = .ok (.lmul, 1) := by decide +kernel
theorem dL_digest_144 : decode cL_digest 144 = .ok (.ladd, 1) := by decide +kernel
theorem dL_digest_145 : decode cL_digest 145 = .ok (.aload_n 0, 1) := by decide +kernel
theorem dL_digest_146 : decode cL_digest 146 = .ok (.iload_n 3, 1) := by decide +kernel
theorem dL_digest_147 : decode cL_digest 147 = .ok (.iconst 3, 1) := by decide +kernel
theorem dL_digest_148 : decode cL_digest 148 = .ok (.invokevirtual 30, 3) := by decide +kernel
theorem dL_digest_151 : decode cL_digest 151 = .ok (.i2l, 1) := by decide +kernel
theorem dL_digest_152 : decode cL_digest 152 = .ok (.ladd, 1) := by decide +kernel
theorem dL_digest_153 : decode cL_digest 153 = .ok (.lstore_n 1, 1) := by decide +kernel
theorem dL_digest_154 : decode cL_digest 154 = .ok (.iinc 3 1, 3) := by decide +kernel
theorem dL_digest_157 : decode cL_digest 157 = .ok (.goto (-46), 3) := by decide +kernel
theorem dL_digest_160 : decode cL_digest 160 = .ok (.lload_n 1, 1) := by decide +kernel
theorem dL_digest_161 : decode cL_digest 161 = .ok (.lreturn, 1) := by decide +kernel
theorem dL_sectors_0 : decode cL_sectors 0 = .ok (.aload_n 0, 1) := by decide +kernel
theorem dL_sectors_1 : decode cL_sectors 1 = .ok (.iconst 0, 1) := by decide +kernel
theorem dL_sectors_2 : decode cL_sectors 2 = .ok (.invokevirtual 13, 3) := by decide +kernel
theorem dL_sectors_5 : decode cL_sectors 5 = .ok (.istore_n 1, 1) := by decide +kernel
theorem dL_sectors_6 : decode cL_sectors 6 = .ok (.iconst 0, 1) := by decide +kernel
theorem dL_sectors_7 : decode cL_sectors 7 = .ok (.istore_n 2, 1) := by decide +kernel
theorem dL_sectors_8 : decode cL_sectors 8 = .ok (.iconst 0, 1) := by decide +kernel
theorem dL_sectors_9 : decode cL_sectors 9 = .ok (.istore_n 3, 1) := by decide +kernel
theorem dL_sectors_10 : decode cL_sectors 10 = .ok (.iload_n 3, 1) := by decide +kernel
theorem dL_sectors_11 : decode cL_sectors 11 = .ok (.bipush 64, 2) := by decide +kernel
theorem dL_sectors_13 : decode cL_sectors 13 = .ok (.if_icmp .ge 234, 3) := by decide +kernel
theorem dL_sectors_16 : decode cL_sectors 16 = .ok (.iload_n 3, 1) := by decide +kernel
theorem dL_sectors_17 : decode cL_sectors 17 = .ok (.bipush 16, 2) := by decide +kernel
theorem dL_sectors_19 : decode cL_sectors 19 = .ok (.idiv, 1) := by decide +kernel
theorem dL_sectors_20 : decode cL_sectors 20 = .ok (.istore 4, 2) := by decide +kernel
theorem dL_sectors_22 : decode cL_sectors 22 = .ok (.aload_n 0, 1) := by decide +kernel
theorem dL_sectors_23 : decode cL_sectors 23 = .ok (.iload_n 3, 1) := by decide +kernel
theorem dL_sectors_24 : decode cL_sectors 24 = .ok (.iconst 0, 1) := by decide +kernel
theorem dL_sectors_25 : decode cL_sectors 25 = .ok (.invokevirtual 21, 3) := by decide +kernel
theorem dL_sectors_28 : decode cL_sectors 28 = .ok (.istore 5, 2) := by decide +kernel
theorem dL_sectors_30 : decode cL_sectors 30 = .ok (.iload 5, 2) := by decide +kernel
theorem dL_sectors_32 : decode cL_sectors 32 = .ok (.iload_n 1, 1) := by decide +kernel
theorem dL_sectors_33 : decode cL_sectors 33 = .ok (.if_icmp .ge 7, 3) := by decide +kernel
theorem dL_sectors_36 : decode cL_sectors 36 = .ok (.iconst 0, 1) := by decide +kernel
theorem dL_sectors_37 : decode cL_sectors 37 = .ok (.goto 16, 3) := by decide +kernel
theorem dL_sectors_40 : decode cL_sectors 40 = .ok (.iload 5, 2) := by decide +kernel
theorem dL_sectors_42 : decode cL_sectors 42 = .ok (.iconst 2, 1) := by decide +kernel
theorem dL_sectors_43 : decode cL_sectors 43 = .ok (.iload_n 1, 1) := by decide +kernel
theorem dL_sectors_44 : decode cL_sectors 44 = .ok (.imul, 1) := by decide +kernel
theorem dL_sectors_45 : decode cL_sectors 45 = .ok (.if_icmp .ge 7, 3) := by decide +kernel
theorem dL_sectors_48 : decode cL_sectors 48 = .ok (.iconst 1, 1) := by decide +kernel
theorem dL_sectors_49 : decode cL_sectors 49 = .ok (.goto 4, 3) := by decide +kernel
theorem dL_sectors_52 : decode cL_sectors 52 = .ok (.iconst 2, 1) := by decide +kernel
theorem dL_sectors_53 : decode cL_sectors 53 = .ok (.istore 6, 2) := by decide +kernel
theorem dL_sectors_55 : decode cL_sectors 55 = .ok (.aload_n 0, 1) := by decide +kernel
theorem dL_sectors_56 : decode cL_sectors 56 = .ok (.iload_n 3, 1) := by decide +kernel
theorem dL_sectors_57 : decode cL_sectors 57 = .ok (.iconst 3, 1) := by decide +kernel
theorem dL_sectors_58 : decode cL_sectors 58 = .ok (.invokevirtual 21, 3) := by decide +kernel
theorem dL_sectors_61 : decode cL_sectors 61 = .ok (.istore 7, 2) := by decide +kernel
theorem dL_sectors_63 : decode cL_sectors 63 = .ok (.iload_n 3, 1) := by decide +kernel
theorem dL_sectors_64 : decode cL_sectors 64 = .ok (.bipush 16, 2) := by decide +kernel
theorem dL_sectors_66 : decode cL_sectors 66 = .ok (.irem, 1) := by decide +kernel
theorem dL_sectors_67 : decode cL_sectors 67 = .ok (.bipush 16, 2) := by decide +kernel
theorem dL_sectors_69 : decode cL_sectors 69 = .ok (.aload_n 0, 1) := by decide +kernel
theorem dL_sectors_70 : decode cL_sectors 70 = .ok (.iload 4, 2) := by decide +kernel
theorem dL_sectors_72 : decode cL_sectors 72 = .ok (.iconst 1, 1) := by decide +kernel
theorem dL_sectors_73 : decode cL_sectors 73 = .ok (.invokevirtual 30, 3) := by decide +kernel
theorem dL_sectors_76 : decode cL_sectors 76 = .ok (.isub, 1) := by decide +kernel
theorem dL_sectors_77 : decode cL_sectors 77 = .ok (.if_icmp .lt 7, 3) := by decide +kernel
theorem dL_sectors_80 : decode cL_sectors 80 = .ok (.iconst 1, 1) := by decide +kernel
theorem dL_sectors_81 : decode cL_sectors 81 = .ok (.goto 4, 3) := by decide +kernel
theorem dL_sectors_84 : decode cL_sectors 84 = .ok (.iconst 0, 1) := by decide +kernel
theorem dL_sectors_85 : decode cL_sectors 85 = .ok (.istore 8, 2) := by decide +kernel
theorem dL_sectors_87 : decode cL_sectors 87 = .ok (.iload 8, 2) := by decide +kernel
theorem dL_sectors_89 : decode cL_sectors 89 = .ok (.ifCond .eq 29, 3) := by decide +kernel
theorem dL_sectors_92 : decode cL_sectors 92 = .ok (.iload 7, 2) := by decide +kernel
theorem dL_sectors_94 : decode cL_sectors 94 = .ok (.bipush (-5), 2) := by decide +kernel
theorem dL_sectors_96 : decode cL_sectors 96 = .ok (.if_icmp .ne 22, 3) := by decide +kernel
theorem dL_sectors_99 : decode cL_sectors 99 = .ok (.iload 6, 2) := by decide +kernel
theorem dL_sectors_101 : decode cL_sectors 101 = .ok (.ifCond .ne 17, 3) := by decide +kernel
theorem dL_sectors_104 : decode cL_sectors 104 = .ok (.aload_n 0, 1) := by decide +kernel
theorem dL_sectors_105 : decode cL_sectors 105 = .ok (.iload 4, 2) := by decide +kernel
theorem dL_sectors_107 : decode cL_sectors 107 = .ok (.iconst 3, 1) := by decide +kernel
theorem dL_sectors_108 : decode cL_sectors 108 = .ok (.invokevirtual 30, 3) := by decide +kernel
theorem dL_sectors_111 : decode cL_sectors 111 = .ok (.ifCond .ne 7, 3) := by decide +kernel
theorem dL_sectors_114 : decode cL_sectors 114 = .ok (.iconst 1, 1) := by decide +kernel
theorem dL_sectors_115 : decode cL_sectors 115 = .ok (.goto 4, 3) := by decide +kernel
theorem dL_sectors_118 : decode cL_sectors 118 = .ok (.iconst 0, 1) := by decide +kernel
theorem dL_sectors_119 : decode cL_sectors 119 = .ok (.istore 9, 2) := by decide +kernel
theorem dL_sectors_121 : decode cL_sectors 121 = .ok (.aload_n 0, 1) := by decide +kernel
theorem dL_sectors_122 : decode cL_sectors 122 = .ok (.iload_n 3, 1) := by decide +kernel
theorem dL_sectors_123 : decode cL_sectors 123 = .ok (.iconst 1, 1) := by decide +kernel
theorem dL_sectors_124 : decode cL_sectors 124 = .ok (.invokevirtual 21, 3) := by decide +kernel
theorem dL_sectors_127 : decode cL_sectors 127 = .ok (.iload 6, 2) := by decide +kernel
theorem dL_sectors_129 : decode cL_sectors 129 = .ok (.if_icmp .ne 97, 3) := by decide +kernel
theorem dL_sectors_132 : decode cL_sectors 132 = .ok (.aload_n 0, 1) := by decide +kernel
theorem dL_sectors_133 : decode cL_sectors 133 = .ok (.iload_n 3, 1) := by decide +kernel
theorem dL_sectors_134 : decode cL_sectors 134 = .ok (.iconst 2, 1) := by decide +kernel
theorem dL_sectors_135 : decode cL_sectors 135 = .ok (.invokevirtual 21, 3) := by decide +kernel
theorem dL_sectors_138 : decode cL_sectors 138 = .ok (.iconst 1, 1) := by decide +kernel
theorem dL_sectors_139 : decode cL_sectors 139 = .ok (.if_icmp .ne 7, 3) := by decide +kernel
theorem dL_sectors_142 : decode cL_sectors 142 = .ok (.iconst 1, 1) := by decide +kernel
theorem dL_sectors_143 : decode cL_sectors 143 = .ok (.goto 4, 3) := by decide +kernel
theorem dL_sectors_146 : decode cL_sectors 146 = .ok (.iconst 0, 1) := by decide +kernel
theorem dL_sectors_147 : decode cL_sectors 147 = .ok (.iload 8, 2) := by decide +kernel
theorem dL_sectors_149 : decode cL_sectors 149 = .ok (.if_icmp .ne 77, 3) := by decide +kernel
theorem dL_sectors_152 : decode cL_sectors 152 = .ok (.aload_n 0, 1) := by decide +kernel
theorem dL_sectors_153 : decode cL_sectors 153 = .ok (.iload_n 3, 1) := by decide +kernel
theorem dL_sectors_154 : decode cL_sectors 154 = .ok (.iconst 4, 1) := by decide +kernel
theorem dL_sectors_155 : decode cL_sectors 155 = .ok (.invokevirtual 21, 3) := by decide +kernel
theorem dL_sectors_158 : decode cL_sectors 158 = .ok (.iconst 1, 1) := by decide +kernel
theorem dL_sectors_159 : decode cL_sectors 159 = .ok (.if_icmp .ne 7, 3) := by decide +kernel
theorem dL_sectors_162 : decode cL_sectors 162 = .ok (.iconst 1, 1) := by decide +kernel
theorem dL_sectors_163 : decode cL_sectors 163 = .ok (.goto 4, 3) := by decide +kernel
theorem dL_sectors_166 : decode cL_sectors 166 = .ok (.iconst 0, 1) := by decide +kernel
theorem dL_sectors_167 : decode cL_sectors 167 = .ok (.iload 9, 2) := by decide +kernel
theorem dL_sectors_169 : decode cL_sectors 169 = .ok (.if_icmp .ne 57, 3) := by decide +kernel
theorem dL_sectors_172 : decode cL_sectors 172 = .ok (.iload 7, 2) := by decide +kernel
theorem dL_sectors_174 : decode cL_sectors 174 = .ok (.bipush (-5), 2) := by decide +kernel
theorem dL_sectors_176 : decode cL_sectors 176 = .ok (.if_icmp .eq 14, 3) := by decide +kernel
theorem dL_sectors_179 : decode cL_sectors 179 = .ok (.aload_n 0, 1) := by decide +kernel
theorem dL_sectors_180 : decode cL_sectors 180 = .ok (.iload 7, 2) := by decide +kernel
theorem dL_sectors_182 : decode cL_sectors 182 = .ok (.iconst 1, 1) := by decide +kernel
theorem dL_sectors_183 : decode cL_sectors 183 = .ok (.invokevirtual 27, 3) := by decide +kernel
theorem dL_sectors_186 : decode cL_sectors 186 = .ok (.iload_n 3, 1) := by decide +kernel
theorem dL_sectors_187 : decode cL_sectors 187 = .ok (.if_icmp .ne 39, 3) := by decide +kernel
theorem dL_sectors_190 : decode cL_sectors 190 = .ok (.iload 8, 2) := by decide +kernel
theorem dL_sectors_192 : decode cL_sectors 192 = .ok (.ifCond .ne 16, 3) := by decide +kernel
theorem dL_sectors_195 : decode cL_sectors 195 = .ok (.iload 7, 2) := by decide +kernel
theorem dL_sectors_197 : decode cL_sectors 197 = .ok (.bipush (-5), 2) := by decide +kernel
theorem dL_sectors_199 : decode cL_sectors 199 = .ok (.if_icmp .eq 9, 3) := by decide +kernel
theorem dL_sectors_202 : decode cL_sectors 202 = .ok (.iload 7, 2) := by decide +kernel
theorem dL_sectors_204 : decode cL_sectors 204 = .ok (.iload_n 3, 1) := by decide +kernel
theorem dL_sectors_205 : decode cL_sectors 205 = .ok (.if_icmp .ne 21, 3) := by decide +kernel
theorem dL_sectors_208 : decode cL_sectors 208 = .ok (.aload_n 0, 1) := by decide +kernel
theorem dL_sectors_209 : decode cL_sectors 209 = .ok (.iload 4, 2) := by decide +kernel
theorem dL_sectors_211 : decode cL_sectors 211 = .ok (.iconst 3, 1) := by decide +kernel
theorem dL_sectors_212 : decode cL_sectors 212 = .ok (.invokevirtual 30, 3) := by decide +kernel
theorem dL_sectors_215 : decode cL_sectors 215 = .ok (.iconst 1, 1) := by decide +kernel
theorem dL_sectors_216 : decode cL_sectors 216 = .ok (.if_icmp .ne 12, 3) := by decide +kernel
theorem dL_sectors_219 : decode cL_sectors 219 = .ok (.iload 7, 2) := by decide +kernel
theorem dL_sectors_221 : decode cL_sectors 221 = .ok (.bipush (-5), 2) := by decide +kernel
theorem dL_sectors_223 : decode cL_sectors 223 = .ok (.if_icmp .eq 5, 3) := by decide +kernel
theorem dL_sectors_226 : decode cL_sectors 226 = .ok (.iconst 0, 1) := by decide +kernel
theorem dL_sectors_227 : decode cL_sectors 227 = .ok (.ireturn, 1) := by decide +kernel
theorem dL_sectors_228 : decode cL_sectors 228 = .ok (.iload_n 2, 1) := by decide +kernel
theorem dL_sectors_229 : decode cL_sectors 229 = .ok (.iload 9, 2) := by decide +kernel
theorem dL_sectors_231 : decode cL_sectors 231 = .ok (.ifCond .eq 7, 3) := by decide +kernel
theorem dL_sectors_234 : decode cL_sectors 234 = .ok (.iconst 1, 1) := by decide +kernel
theorem dL_sectors_235 : decode cL_sectors 235 = .ok (.goto 4, 3) := by decide +kernel
theorem dL_sectors_238 : decode cL_sectors 238 = .ok (.iconst 0, 1) := by decide +kernel
theorem dL_sectors_239 : decode cL_sectors 239 = .ok (.iadd, 1) := by decide +kernel
theorem dL_sectors_240 : decode cL_sectors 240 = .ok (.istore_n 2, 1) := by decide +kernel
theorem dL_sectors_241 : decode cL_sectors 241 = .ok (.iinc 3 1, 3) := by decide +kernel
theorem dL_sectors_244 : decode cL_sectors 244 = .ok (.goto (-234), 3) := by decide +kernel
theorem dL_sectors_247 : decode cL_sectors 247 = .ok (.aload_n 0, 1) := by decide +kernel
theorem dL_sectors_248 : decode cL_sectors 248 = .ok (.iconst 4, 1) := by decide +kernel
theorem dL_sectors_249 : decode cL_sectors 249 = .ok (.invokevirtual 13, 3) := by decide +kernel
theorem dL_sectors_252 : decode cL_sectors 252 = .ok (.iload_n 2, 1) := by decide +kernel
theorem dL_sectors_253 : decode cL_sectors 253 = .ok (.if_icmp .ne 29, 3) := by decide +kernel
theorem dL_sectors_256 : decode cL_sectors 256 = .ok (.aload_n 0, 1) := by decide +kernel
theorem dL_sectors_257 : decode cL_sectors 257 = .ok (.bipush 64, 2) := by decide +kernel
theorem dL_sectors_259 : decode cL_sectors 259 = .ok (.iconst 0, 1) := by decide +kernel
theorem dL_sectors_260 : decode cL_sectors 260 = .ok (.invokevirtual 21, 3) := by decide +kernel
theorem dL_sectors_263 : decode cL_sectors 263 = .ok (.iconst (-1), 1) := by decide +kernel
theorem dL_sectors_264 : decode cL_sectors 264 = .ok (.if_icmp .ne 18, 3) := by decide +kernel
theorem dL_sectors_267 : decode cL_sectors 267 = .ok (.aload_n 0, 1) := by decide +kernel
theorem dL_sectors_268 : decode cL_sectors 268 = .ok (.iconst 0, 1) := by decide +kernel
theorem dL_sectors_269 : decode cL_sectors 269 = .ok (.iconst 5, 1) := by decide +kernel
theorem dL_sectors_270 : decode cL_sectors 270 = .ok (.invokevirtual 21, 3) := by decide +kernel
theorem dL_sectors_273 : decode cL_sectors 273 = .ok (.bipush (-2), 2) := by decide +kernel
theorem dL_sectors_275 : decode cL_sectors 275 = .ok (.if_icmp .ne 7, 3) := by decide +kernel
theorem dL_sectors_278 : decode cL_sectors 278 = .ok (.iconst 1, 1) := by decide +kernel
theorem dL_sectors_279 : decode cL_sectors 279 = .ok (.goto 4, 3) := by decide +kernel
theorem dL_sectors_282 : decode cL_sectors 282 = .ok (.iconst 0, 1) := by decide +kernel
theorem dL_sectors_283 : decode cL_sectors 283 = .ok (.ireturn, 1) := by decide +kernel
theorem dL_lends_0 : decode cL_lends 0 = .ok (.iload_n 1, 1) := by decide +kernel
theorem dL_lends_1 : decode cL_lends 1 = .ok (.istore_n 2, 1) := by decide +kernel
theorem dL_lends_2 : decode cL_lends 2 = .ok (.aload_n 0, 1) := by decide +kernel
theorem dL_lends_3 : decode cL_lends 3 = .ok (.iload_n 1, 1) := by decide +kernel
theorem dL_lends_4 : decode cL_lends 4 = .ok (.iconst 2, 1) := by decide +kernel
theorem dL_lends_5 : decode cL_lends 5 = .ok (.invokevirtual 30, 3) := by decide +kernel
theorem dL_lends_8 : decode cL_lends 8 = .ok (.ifCond .ne 39, 3) := by decide +kernel
theorem dL_lends_11 : decode cL_lends 11 = .ok (.iconst 0, 1) := by decide +kernel
theorem dL_lends_12 : decode cL_lends 12 = .ok (.istore_n 2, 1) := by decide +kernel
theorem dL_lends_13 : decode cL_lends 13 = .ok (.iconst 1, 1) := by decide +kernel
theorem dL_lends_14 : decode cL_lends 14 = .ok (.istore_n 3, 1) := by decide +kernel
theorem dL_lends_15 : decode cL_lends 15 = .ok (.iload_n 3, 1) := by decide +kernel
theorem dL_lends_16 : decode cL_lends 16 = .ok (.iconst 4, 1) := by decide +kernel
theorem dL_lends_17 : decode cL_lends 17 = .ok (.if_icmp .ge 30, 3) := by decide +kernel
theorem dL_lends_20 : decode cL_lends 20 = .ok (.aload_n 0, 1) := by decide +kernel
theorem dL_lends_21 : decode cL_lends 21 = .ok (.iload_n 3, 1) := by decide +kernel
theorem dL_lends_22 : decode cL_lends 22 = .ok (.iconst 2, 1) := by decide +kernel
theorem dL_lends_23 : decode cL_lends 23 = .ok (.invokevirtual 30, 3) := by decide +kernel
theorem dL_lends_26 : decode cL_lends 26 = .ok (.aload_n 0, 1) := by decide +kernel
theorem dL_lends_27 : decode cL_lends 27 = .ok (.iload_n 2, 1) := by decide +kernel
theorem dL_lends_28 : decode cL_lends 28 = .ok (.iconst 2, 1) := by decide +kernel
theorem dL_lends_29 : decode cL_lends 29 = .ok (.invokevirtual 30, 3) := by decide +kernel
theorem dL_lends_32 : decode cL_lends 32 = .ok (.if_icmp .le 7, 3) := by decide +kernel
theorem dL_lends_35 : decode cL_lends 35 = .ok (.iload_n 3, 1) := by decide +kernel
theorem dL_lends_36 : decode cL_lends 36 = .ok (.goto 4, 3) := by decide +kernel
theorem dL_lends_39 : decode cL_lends 39 = .ok (.iload_n 2, 1) := by decide +kernel
theorem dL_lends_40 : decode cL_lends 40 = .ok (.istore_n 2, 1) := by decide +kernel
theorem dL_lends_41 : decode cL_lends 41 = .ok (.iinc 3 1, 3) := by decide +kernel
theorem dL_lends_44 : decode cL_lends 44 = .ok (.goto (-29), 3) := by decide +kernel
theorem dL_lends_47 : decode cL_lends 47 = .ok (.iconst 0, 1) := by decide +kernel
theorem dL_lends_48 : decode cL_lends 48 = .ok (.istore_n 3, 1) := by decide +kernel
theorem dL_lends_49 : decode cL_lends 49 = .ok (.iload_n 3, 1) := by decide +kernel
theorem dL_lends_50 : decode cL_lends 50 = .ok (.bipush 16, 2) := by decide +kernel
theorem dL_lends_52 : decode cL_lends 52 = .ok (.if_icmp .ge 31, 3) := by decide +kernel
theorem dL_lends_55 : decode cL_lends 55 = .ok (.aload_n 0, 1) := by decide +kernel
theorem dL_lends_56 : decode cL_lends 56 = .ok (.bipush 16, 2) := by decide +kernel
theorem dL_lends_58 : decode cL_lends 58 = .ok (.iload_n 2, 1) := by decide +kernel
theorem dL_lends_59 : decode cL_lends 59 = .ok (.imul, 1) := by decide +kernel
theorem dL_lends_60 : decode cL_lends 60 = .ok (.iload_n 3, 1) := by decide +kernel
theorem dL_lends_61 : decode cL_lends 61 = .ok (.iadd, 1) := by decide +kernel
theorem dL_lends_62 : decode cL_lends 62 = .ok (.iconst 4, 1) := by decide +kernel
theorem dL_lends_63 : decode cL_lends 63 = .ok (.invokevirtual 21, 3) := by decide +kernel
theorem dL_lends_66 : decode cL_lends 66 = .ok (.iconst 1, 1) := by decide +kernel
end
section
theorem dL_lends_67 : decode cL_lends 67 = .ok (.if_icmp .ne 10, 3) := by decide +kernel
theorem dL_lends_70 : decode cL_lends 70 = .ok (.bipush 16, 2) := by decide +kernel
theorem dL_lends_72 : decode cL_lends 72 = .ok (.iload_n 2, 1) := by decide +kernel
theorem dL_lends_73 : decode cL_lends 73 = .ok (.imul, 1) := by decide +kernel
theorem dL_lends_74 : decode cL_lends 74 = .ok (.iload_n 3, 1) := by decide +kernel
theorem dL_lends_75 : decode cL_lends 75 = .ok (.iadd, 1) := by decide +kernel
theorem dL_lends_76 : decode cL_lends 76 = .ok (.ireturn, 1) := by decide +kernel
theorem dL_lends_77 : decode cL_lends 77 = .ok (.iinc 3 1, 3) := by decide +kernel
theorem dL_lends_80 : decode cL_lends 80 = .ok (.goto (-31), 3) := by decide +kernel
theorem dL_lends_83 : decode cL_lends 83 = .ok (.bipush (-5), 2) := by decide +kernel
theorem dL_lends_85 : decode cL_lends 85 = .ok (.ireturn, 1) := by decide +kernel
theorem dL_addresses_0 : decode cL_addresses 0 = .ok (.iconst 0, 1) := by decide +kernel
theorem dL_addresses_1 : decode cL_addresses 1 = .ok (.istore_n 1, 1) := by decide +kernel
theorem dL_addresses_2 : decode cL_addresses 2 = .ok (.iconst 0, 1) := by decide +kernel
theorem dL_addresses_3 : decode cL_addresses 3 = .ok (.istore_n 2, 1) := by decide +kernel
theorem dL_addresses_4 : decode cL_addresses 4 = .ok (.iconst 0, 1) := by decide +kernel
theorem dL_addresses_5 : decode cL_addresses 5 = .ok (.istore_n 3, 1) := by decide +kernel
theorem dL_addresses_6 : decode cL_addresses 6 = .ok (.iconst 0, 1) := by decide +kernel
theorem dL_addresses_7 : decode cL_addresses 7 = .ok (.istore 4, 2) := by decide +kernel
theorem dL_addresses_9 : decode cL_addresses 9 = .ok (.iload 4, 2) := by decide +kernel
theorem dL_addresses_11 : decode cL_addresses 11 = .ok (.iconst 4, 1) := by decide +kernel
theorem dL_addresses_12 : decode cL_addresses 12 = .ok (.if_icmp .ge 408, 3) := by decide +kernel
theorem dL_addresses_15 : decode cL_addresses 15 = .ok (.aload_n 0, 1) := by decide +kernel
theorem dL_addresses_16 : decode cL_addresses 16 = .ok (.iload 4, 2) := by decide +kernel
theorem dL_addresses_18 : decode cL_addresses 18 = .ok (.invokestatic 33, 3) := by decide +kernel
theorem dL_addresses_21 : decode cL_addresses 21 = .ok (.istore 5, 2) := by decide +kernel
theorem dL_addresses_23 : decode cL_addresses 23 = .ok (.iconst 0, 1) := by decide +kernel
theorem dL_addresses_24 : decode cL_addresses 24 = .ok (.istore 6, 2) := by decide +kernel
theorem dL_addresses_26 : decode cL_addresses 26 = .ok (.iconst 0, 1) := by decide +kernel
theorem dL_addresses_27 : decode cL_addresses 27 = .ok (.istore 7, 2) := by decide +kernel
theorem dL_addresses_29 : decode cL_addresses 29 = .ok (.iconst 0, 1) := by decide +kernel
theorem dL_addresses_30 : decode cL_addresses 30 = .ok (.istore 8, 2) := by decide +kernel
theorem dL_addresses_32 : decode cL_addresses 32 = .ok (.iconst 0, 1) := by decide +kernel
theorem dL_addresses_33 : decode cL_addresses 33 = .ok (.istore 9, 2) := by decide +kernel
theorem dL_addresses_35 : decode cL_addresses 35 = .ok (.iconst 0, 1) := by decide +kernel
theorem dL_addresses_36 : decode cL_addresses 36 = .ok (.istore 10, 2) := by decide +kernel
theorem dL_addresses_38 : decode cL_addresses 38 = .ok (.iconst 0, 1) := by decide +kernel
theorem dL_addresses_39 : decode cL_addresses 39 = .ok (.istore 11, 2) := by decide +kernel
theorem dL_addresses_41 : decode cL_addresses 41 = .ok (.iload 11, 2) := by decide +kernel
theorem dL_addresses_43 : decode cL_addresses 43 = .ok (.bipush 16, 2) := by decide +kernel
theorem dL_addresses_45 : decode cL_addresses 45 = .ok (.if_icmp .ge 298, 3) := by decide +kernel
theorem dL_addresses_48 : decode cL_addresses 48 = .ok (.bipush 16, 2) := by decide +kernel
theorem dL_addresses_50 : decode cL_addresses 50 = .ok (.iload 4, 2) := by decide +kernel
theorem dL_addresses_52 : decode cL_addresses 52 = .ok (.imul, 1) := by decide +kernel
theorem dL_addresses_53 : decode cL_addresses 53 = .ok (.iload 11, 2) := by decide +kernel
theorem dL_addresses_55 : decode cL_addresses 55 = .ok (.iadd, 1) := by decide +kernel
theorem dL_addresses_56 : decode cL_addresses 56 = .ok (.istore 12, 2) := by decide +kernel
theorem dL_addresses_58 : decode cL_addresses 58 = .ok (.iload 8, 2) := by decide +kernel
theorem dL_addresses_60 : decode cL_addresses 60 = .ok (.aload_n 0, 1) := by decide +kernel
theorem dL_addresses_61 : decode cL_addresses 61 = .ok (.iload 12, 2) := by decide +kernel
theorem dL_addresses_63 : decode cL_addresses 63 = .ok (.iconst 0, 1) := by decide +kernel
theorem dL_addresses_64 : decode cL_addresses 64 = .ok (.invokevirtual 21, 3) := by decide +kernel
theorem dL_addresses_67 : decode cL_addresses 67 = .ok (.iadd, 1) := by decide +kernel
theorem dL_addresses_68 : decode cL_addresses 68 = .ok (.istore 8, 2) := by decide +kernel
theorem dL_addresses_70 : decode cL_addresses 70 = .ok (.iload 9, 2) := by decide +kernel
theorem dL_addresses_72 : decode cL_addresses 72 = .ok (.aload_n 0, 1) := by decide +kernel
theorem dL_addresses_73 : decode cL_addresses 73 = .ok (.iload 12, 2) := by decide +kernel
theorem dL_addresses_75 : decode cL_addresses 75 = .ok (.iconst 1, 1) := by decide +kernel
theorem dL_addresses_76 : decode cL_addresses 76 = .ok (.invokevirtual 21, 3) := by decide +kernel
theorem dL_addresses_79 : decode cL_addresses 79 = .ok (.iconst 1, 1) := by decide +kernel
theorem dL_addresses_80 : decode cL_addresses 80 = .ok (.if_icmp .ne 7, 3) := by decide +kernel
theorem dL_addresses_83 : decode cL_addresses 83 = .ok (.iconst 1, 1) := by decide +kernel
theorem dL_addresses_84 : decode cL_addresses 84 = .ok (.goto 4, 3) := by decide +kernel
theorem dL_addresses_87 : decode cL_addresses 87 = .ok (.iconst 0, 1) := by decide +kernel
theorem dL_addresses_88 : decode cL_addresses 88 = .ok (.iadd, 1) := by decide +kernel
theorem dL_addresses_89 : decode cL_addresses 89 = .ok (.istore 9, 2) := by decide +kernel
theorem dL_addresses_91 : decode cL_addresses 91 = .ok (.iload 10, 2) := by decide +kernel
theorem dL_addresses_93 : decode cL_addresses 93 = .ok (.aload_n 0, 1) := by decide +kernel
theorem dL_addresses_94 : decode cL_addresses 94 = .ok (.iload 12, 2) := by decide +kernel
theorem dL_addresses_96 : decode cL_addresses 96 = .ok (.iconst 1, 1) := by decide +kernel
theorem dL_addresses_97 : decode cL_addresses 97 = .ok (.invokevirtual 21, 3) := by decide +kernel
theorem dL_addresses_100 : decode cL_addresses 100 = .ok (.iconst 2, 1) := by decide +kernel
theorem dL_addresses_101 : decode cL_addresses 101 = .ok (.if_icmp .ne 7, 3) := by decide +kernel
theorem dL_addresses_104 : decode cL_addresses 104 = .ok (.iconst 1, 1) := by decide +kernel
theorem dL_addresses_105 : decode cL_addresses 105 = .ok (.goto 4, 3) := by decide +kernel
theorem dL_addresses_108 : decode cL_addresses 108 = .ok (.iconst 0, 1) := by decide +kernel
theorem dL_addresses_109 : decode cL_addresses 109 = .ok (.iadd, 1) := by decide +kernel
theorem dL_addresses_110 : decode cL_addresses 110 = .ok (.istore 10, 2) := by decide +kernel
theorem dL_addresses_112 : decode cL_addresses 112 = .ok (.aload_n 0, 1) := by decide +kernel
theorem dL_addresses_113 : decode cL_addresses 113 = .ok (.iload 12, 2) := by decide +kernel
theorem dL_addresses_115 : decode cL_addresses 115 = .ok (.iconst 2, 1) := by decide +kernel
theorem dL_addresses_116 : decode cL_addresses 116 = .ok (.invokevirtual 21, 3) := by decide +kernel
theorem dL_addresses_119 : decode cL_addresses 119 = .ok (.iconst 1, 1) := by decide +kernel
theorem dL_addresses_120 : decode cL_addresses 120 = .ok (.if_icmp .ne 16, 3) := by decide +kernel
theorem dL_addresses_123 : decode cL_addresses 123 = .ok (.aload_n 0, 1) := by decide +kernel
theorem dL_addresses_124 : decode cL_addresses 124 = .ok (.iload 12, 2) := by decide +kernel
theorem dL_addresses_126 : decode cL_addresses 126 = .ok (.iconst 0, 1) := by decide +kernel
theorem dL_addresses_127 : decode cL_addresses 127 = .ok (.invokevirtual 27, 3) := by decide +kernel
theorem dL_addresses_130 : decode cL_addresses 130 = .ok (.iconst (-1), 1) := by decide +kernel
theorem dL_addresses_131 : decode cL_addresses 131 = .ok (.if_icmp .eq 206, 3) := by decide +kernel
theorem dL_addresses_134 : decode cL_addresses 134 = .ok (.iconst 0, 1) := by decide +kernel
theorem dL_addresses_135 : decode cL_addresses 135 = .ok (.ireturn, 1) := by decide +kernel
theorem dL_addresses_136 : decode cL_addresses 136 = .ok (.aload_n 0, 1) := by decide +kernel
theorem dL_addresses_137 : decode cL_addresses 137 = .ok (.iload 12, 2) := by decide +kernel
theorem dL_addresses_139 : decode cL_addresses 139 = .ok (.iconst 1, 1) := by decide +kernel
theorem dL_addresses_140 : decode cL_addresses 140 = .ok (.invokevirtual 27, 3) := by decide +kernel
theorem dL_addresses_143 : decode cL_addresses 143 = .ok (.istore 13, 2) := by decide +kernel
theorem dL_addresses_145 : decode cL_addresses 145 = .ok (.iinc 1 1, 3) := by decide +kernel
theorem dL_addresses_148 : decode cL_addresses 148 = .ok (.iload 6, 2) := by decide +kernel
theorem dL_addresses_150 : decode cL_addresses 150 = .ok (.iload 13, 2) := by decide +kernel
theorem dL_addresses_152 : decode cL_addresses 152 = .ok (.ifCond .ge 7, 3) := by decide +kernel
theorem dL_addresses_155 : decode cL_addresses 155 = .ok (.iconst 1, 1) := by decide +kernel
theorem dL_addresses_156 : decode cL_addresses 156 = .ok (.goto 4, 3) := by decide +kernel
theorem dL_addresses_159 : decode cL_addresses 159 = .ok (.iconst 0, 1) := by decide +kernel
theorem dL_addresses_160 : decode cL_addresses 160 = .ok (.iadd, 1) := by decide +kernel
theorem dL_addresses_161 : decode cL_addresses 161 = .ok (.istore 6, 2) := by decide +kernel
theorem dL_addresses_163 : decode cL_addresses 163 = .ok (.iload 7, 2) := by decide +kernel
theorem dL_addresses_165 : decode cL_addresses 165 = .ok (.iload 13, 2) := by decide +kernel
theorem dL_addresses_167 : decode cL_addresses 167 = .ok (.ifCond .lt 17, 3) := by decide +kernel
theorem dL_addresses_170 : decode cL_addresses 170 = .ok (.iload 13, 2) := by decide +kernel
theorem dL_addresses_172 : decode cL_addresses 172 = .ok (.bipush 16, 2) := by decide +kernel
theorem dL_addresses_174 : decode cL_addresses 174 = .ok (.idiv, 1) := by decide +kernel
theorem dL_addresses_175 : decode cL_addresses 175 = .ok (.iload 4, 2) := by decide +kernel
theorem dL_addresses_177 : decode cL_addresses 177 = .ok (.if_icmp .eq 7, 3) := by decide +kernel
theorem dL_addresses_180 : decode cL_addresses 180 = .ok (.iconst 1, 1) := by decide +kernel
theorem dL_addresses_181 : decode cL_addresses 181 = .ok (.goto 4, 3) := by decide +kernel
theorem dL_addresses_184 : decode cL_addresses 184 = .ok (.iconst 0, 1) := by decide +kernel
theorem dL_addresses_185 : decode cL_addresses 185 = .ok (.iadd, 1) := by decide +kernel
theorem dL_addresses_186 : decode cL_addresses 186 = .ok (.istore 7, 2) := by decide +kernel
theorem dL_addresses_188 : decode cL_addresses 188 = .ok (.iload_n 3, 1) := by decide +kernel
theorem dL_addresses_189 : decode cL_addresses 189 = .ok (.iload 13, 2) := by decide +kernel
theorem dL_addresses_191 : decode cL_addresses 191 = .ok (.ifCond .lt 14, 3) := by decide +kernel
theorem dL_addresses_194 : decode cL_addresses 194 = .ok (.iload 13, 2) := by decide +kernel
theorem dL_addresses_196 : decode cL_addresses 196 = .ok (.iload 12, 2) := by decide +kernel
theorem dL_addresses_198 : decode cL_addresses 198 = .ok (.if_icmp .eq 7, 3) := by decide +kernel
theorem dL_addresses_201 : decode cL_addresses 201 = .ok (.iconst 1, 1) := by decide +kernel
theorem dL_addresses_202 : decode cL_addresses 202 = .ok (.goto 4, 3) := by decide +kernel
theorem dL_addresses_205 : decode cL_addresses 205 = .ok (.iconst 0, 1) := by decide +kernel
theorem dL_addresses_206 : decode cL_addresses 206 = .ok (.iadd, 1) := by decide +kernel
theorem dL_addresses_207 : decode cL_addresses 207 = .ok (.istore_n 3, 1) := by decide +kernel
theorem dL_addresses_208 : decode cL_addresses 208 = .ok (.iload 13, 2) := by decide +kernel
theorem dL_addresses_210 : decode cL_addresses 210 = .ok (.ifCond .ge 40, 3) := by decide +kernel
theorem dL_addresses_213 : decode cL_addresses 213 = .ok (.aload_n 0, 1) := by decide +kernel
theorem dL_addresses_214 : decode cL_addresses 214 = .ok (.iload 12, 2) := by decide +kernel
theorem dL_addresses_216 : decode cL_addresses 216 = .ok (.iconst 0, 1) := by decide +kernel
theorem dL_addresses_217 : decode cL_addresses 217 = .ok (.invokevirtual 27, 3) := by decide +kernel
theorem dL_addresses_220 : decode cL_addresses 220 = .ok (.bipush (-5), 2) := by decide +kernel
theorem dL_addresses_222 : decode cL_addresses 222 = .ok (.if_icmp .ne 99, 3) := by decide +kernel
theorem dL_addresses_225 : decode cL_addresses 225 = .ok (.aload_n 0, 1) := by decide +kernel
theorem dL_addresses_226 : decode cL_addresses 226 = .ok (.iload 12, 2) := by decide +kernel
theorem dL_addresses_228 : decode cL_addresses 228 = .ok (.iconst 4, 1) := by decide +kernel
theorem dL_addresses_229 : decode cL_addresses 229 = .ok (.invokevirtual 27, 3) := by decide +kernel
theorem dL_addresses_232 : decode cL_addresses 232 = .ok (.bipush (-5), 2) := by decide +kernel
theorem dL_addresses_234 : decode cL_addresses 234 = .ok (.if_icmp .ne 87, 3) := by decide +kernel
theorem dL_addresses_237 : decode cL_addresses 237 = .ok (.aload_n 0, 1) := by decide +kernel
theorem dL_addresses_238 : decode cL_addresses 238 = .ok (.iload 12, 2) := by decide +kernel
theorem dL_addresses_240 : decode cL_addresses 240 = .ok (.iconst 2, 1) := by decide +kernel
theorem dL_addresses_241 : decode cL_addresses 241 = .ok (.invokevirtual 27, 3) := by decide +kernel
theorem dL_addresses_244 : decode cL_addresses 244 = .ok (.ifCond .eq 79, 3) := by decide +kernel
theorem dL_addresses_247 : decode cL_addresses 247 = .ok (.goto 74, 3) := by decide +kernel
theorem dL_addresses_250 : decode cL_addresses 250 = .ok (.aload_n 0, 1) := by decide +kernel
theorem dL_addresses_251 : decode cL_addresses 251 = .ok (.iload 13, 2) := by decide +kernel
theorem dL_addresses_253 : decode cL_addresses 253 = .ok (.iconst 3, 1) := by decide +kernel
theorem dL_addresses_254 : decode cL_addresses 254 = .ok (.invokevirtual 21, 3) := by decide +kernel
theorem dL_addresses_257 : decode cL_addresses 257 = .ok (.iload 12, 2) := by decide +kernel
theorem dL_addresses_259 : decode cL_addresses 259 = .ok (.if_icmp .ne 62, 3) := by decide +kernel
theorem dL_addresses_262 : decode cL_addresses 262 = .ok (.aload_n 0, 1) := by decide +kernel
theorem dL_addresses_263 : decode cL_addresses 263 = .ok (.iload 12, 2) := by decide +kernel
theorem dL_addresses_265 : decode cL_addresses 265 = .ok (.iconst 2, 1) := by decide +kernel
theorem dL_addresses_266 : decode cL_addresses 266 = .ok (.invokevirtual 27, 3) := by decide +kernel
theorem dL_addresses_269 : decode cL_addresses 269 = .ok (.iconst 1, 1) := by decide +kernel
theorem dL_addresses_270 : decode cL_addresses 270 = .ok (.if_icmp .ne 7, 3) := by decide +kernel
theorem dL_addresses_273 : decode cL_addresses 273 = .ok (.iconst 1, 1) := by decide +kernel
theorem dL_addresses_274 : decode cL_addresses 274 = .ok (.goto 4, 3) := by decide +kernel
theorem dL_addresses_277 : decode cL_addresses 277 = .ok (.iconst 0, 1) := by decide +kernel
theorem dL_addresses_278 : decode cL_addresses 278 = .ok (.iload 13, 2) := by decide +kernel
theorem dL_addresses_280 : decode cL_addresses 280 = .ok (.iload 12, 2) := by decide +kernel
theorem dL_addresses_282 : decode cL_addresses 282 = .ok (.if_icmp .eq 7, 3) := by decide +kernel
theorem dL_addresses_285 : decode cL_addresses 285 = .ok (.iconst 1, 1) := by decide +kernel
theorem dL_addresses_286 : decode cL_addresses 286 = .ok (.goto 4, 3) := by decide +kernel
theorem dL_addresses_289 : decode cL_addresses 289 = .ok (.iconst 0, 1) := by decide +kernel
theorem dL_addresses_290 : decode cL_addresses 290 = .ok (.if_icmp .ne 31, 3) := by decide +kernel
theorem dL_addresses_293 : decode cL_addresses 293 = .ok (.aload_n 0, 1) := by decide +kernel
theorem dL_addresses_294 : decode cL_addresses 294 = .ok (.iload 12, 2) := by decide +kernel
theorem dL_addresses_296 : decode cL_addresses 296 = .ok (.iconst 4, 1) := by decide +kernel
theorem dL_addresses_297 : decode cL_addresses 297 = .ok (.invokevirtual 27, 3) := by decide +kernel
theorem dL_addresses_300 : decode cL_addresses 300 = .ok (.aload_n 0, 1) := by decide +kernel
theorem dL_addresses_301 : decode cL_addresses 301 = .ok (.iload 12, 2) := by decide +kernel
theorem dL_addresses_303 : decode cL_addresses 303 = .ok (.iload 13, 2) := by decide +kernel
theorem dL_addresses_305 : decode cL_addresses 305 = .ok (.invokestatic 39, 3) := by decide +kernel
theorem dL_addresses_308 : decode cL_addresses 308 = .ok (.if_icmp .ne 13, 3) := by decide +kernel
theorem dL_addresses_311 : decode cL_addresses 311 = .ok (.aload_n 0, 1) := by decide +kernel
theorem dL_addresses_312 : decode cL_addresses 312 = .ok (.iload 12, 2) := by decide +kernel
theorem dL_addresses_314 : decode cL_addresses 314 = .ok (.iconst 0, 1) := by decide +kernel
theorem dL_addresses_315 : decode cL_addresses 315 = .ok (.invokevirtual 27, 3) := by decide +kernel
theorem dL_addresses_318 : decode cL_addresses 318 = .ok (.ifCond .ge 5, 3) := by decide +kernel
theorem dL_addresses_321 : decode cL_addresses 321 = .ok (.iconst 0, 1) := by decide +kernel
theorem dL_addresses_322 : decode cL_addresses 322 = .ok (.ireturn, 1) := by decide +kernel
theorem dL_addresses_323 : decode cL_addresses 323 = .ok (.aload_n 0, 1) := by decide +kernel
theorem dL_addresses_324 : decode cL_addresses 324 = .ok (.iload 12, 2) := by decide +kernel
theorem dL_addresses_326 : decode cL_addresses 326 = .ok (.iconst 3, 1) := by decide +kernel
theorem dL_addresses_327 : decode cL_addresses 327 = .ok (.invokevirtual 27, 3) := by decide +kernel
theorem dL_addresses_330 : decode cL_addresses 330 = .ok (.iload 5, 2) := by decide +kernel
theorem dL_addresses_332 : decode cL_addresses 332 = .ok (.if_icmp .eq 5, 3) := by decide +kernel
theorem dL_addresses_335 : decode cL_addresses 335 = .ok (.iconst 0, 1) := by decide +kernel
theorem dL_addresses_336 : decode cL_addresses 336 = .ok (.ireturn, 1) := by decide +kernel
theorem dL_addresses_337 : decode cL_addresses 337 = .ok (.iinc 11 1, 3) := by decide +kernel
theorem dL_addresses_340 : decode cL_addresses 340 = .ok (.goto (-299), 3) := by decide +kernel
theorem dL_addresses_343 : decode cL_addresses 343 = .ok (.iload_n 2, 1) := by decide +kernel
theorem dL_addresses_344 : decode cL_addresses 344 = .ok (.iload 6, 2) := by decide +kernel
theorem dL_addresses_346 : decode cL_addresses 346 = .ok (.iadd, 1) := by decide +kernel
theorem dL_addresses_347 : decode cL_addresses 347 = .ok (.istore_n 2, 1) := by decide +kernel
theorem dL_addresses_348 : decode cL_addresses 348 = .ok (.aload_n 0, 1) := by decide +kernel
theorem dL_addresses_349 : decode cL_addresses 349 = .ok (.iload 4, 2) := by decide +kernel
theorem dL_addresses_351 : decode cL_addresses 351 = .ok (.bipush 6, 2) := by decide +kernel
theorem dL_addresses_353 : decode cL_addresses 353 = .ok (.invokevirtual 30, 3) := by decide +kernel
theorem dL_addresses_356 : decode cL_addresses 356 = .ok (.iload 6, 2) := by decide +kernel
theorem dL_addresses_358 : decode cL_addresses 358 = .ok (.if_icmp .ne 54, 3) := by decide +kernel
theorem dL_addresses_361 : decode cL_addresses 361 = .ok (.aload_n 0, 1) := by decide +kernel
theorem dL_addresses_362 : decode cL_addresses 362 = .ok (.iload 4, 2) := by decide +kernel
theorem dL_addresses_364 : decode cL_addresses 364 = .ok (.iconst 5, 1) := by decide +kernel
theorem dL_addresses_365 : decode cL_addresses 365 = .ok (.invokevirtual 30, 3) := by decide +kernel
theorem dL_addresses_368 : decode cL_addresses 368 = .ok (.iload 7, 2) := by decide +kernel
theorem dL_addresses_370 : decode cL_addresses 370 = .ok (.if_icmp .ne 42, 3) := by decide +kernel
theorem dL_addresses_373 : decode cL_addresses 373 = .ok (.aload_n 0, 1) := by decide +kernel
theorem dL_addresses_374 : decode cL_addresses 374 = .ok (.iload 4, 2) := by decide +kernel
theorem dL_addresses_376 : decode cL_addresses 376 = .ok (.bipush 7, 2) := by decide +kernel
theorem dL_addresses_378 : decode cL_addresses 378 = .ok (.invokevirtual 30, 3) := by decide +kernel
theorem dL_addresses_381 : decode cL_addresses 381 = .ok (.iload 8, 2) := by decide +kernel
theorem dL_addresses_383 : decode cL_addresses 383 = .ok (.if_icmp .ne 29, 3) := by decide +kernel
theorem dL_addresses_386 : decode cL_addresses 386 = .ok (.aload_n 0, 1) := by decide +kernel
theorem dL_addresses_387 : decode cL_addresses 387 = .ok (.iload 4, 2) := by decide +kernel
theorem dL_addresses_389 : decode cL_addresses 389 = .ok (.bipush 8, 2) := by decide +kernel
theorem dL_addresses_391 : decode cL_addresses 391 = .ok (.invokevirtual 30, 3) := by decide +kernel
theorem dL_addresses_394 : decode cL_addresses 394 = .ok (.iload 9, 2) := by decide +kernel
theorem dL_addresses_396 : decode cL_addresses 396 = .ok (.if_icmp .ne 16, 3) := by decide +kernel
theorem dL_addresses_399 : decode cL_addresses 399 = .ok (.aload_n 0, 1) := by decide +kernel
theorem dL_addresses_400 : decode cL_addresses 400 = .ok (.iload 4, 2) := by decide +kernel
theorem dL_addresses_402 : decode cL_addresses 402 = .ok (.bipush 9, 2) := by decide +kernel
theorem dL_addresses_404 : decode cL_addresses 404 = .ok (.invokevirtual 30, 3) := by decide +kernel
theorem dL_addresses_407 : decode cL_addresses 407 = .ok (.iload 10, 2) := by decide +kernel
theorem dL_addresses_409 : decode cL_addresses 409 = .ok (.if_icmp .eq 5, 3) := by decide +kernel
theorem dL_addresses_412 : decode cL_addresses 412 = .ok (.iconst 0, 1) := by decide +kernel
theorem dL_addresses_413 : decode cL_addresses 413 = .ok (.ireturn, 1) := by decide +kernel
theorem dL_addresses_414 : decode cL_addresses 414 = .ok (.iinc 4 1, 3) := by decide +kernel
theorem dL_addresses_417 : decode cL_addresses 417 = .ok (.goto (-408), 3) := by decide +kernel
theorem dL_addresses_420 : decode cL_addresses 420 = .ok (.aload_n 0, 1) := by decide +kernel
theorem dL_addresses_421 : decode cL_addresses 421 = .ok (.iconst 1, 1) := by decide +kernel
theorem dL_addresses_422 : decode cL_addresses 422 = .ok (.invokevirtual 13, 3) := by decide +kernel
theorem dL_addresses_425 : decode cL_addresses 425 = .ok (.iload_n 1, 1) := by decide +kernel
theorem dL_addresses_426 : decode cL_addresses 426 = .ok (.if_icmp .ne 25, 3) := by decide +kernel
theorem dL_addresses_429 : decode cL_addresses 429 = .ok (.aload_n 0, 1) := by decide +kernel
theorem dL_addresses_430 : decode cL_addresses 430 = .ok (.iconst 2, 1) := by decide +kernel
theorem dL_addresses_431 : decode cL_addresses 431 = .ok (.invokevirtual 13, 3) := by decide +kernel
theorem dL_addresses_434 : decode cL_addresses 434 = .ok (.iload_n 2, 1) := by decide +kernel
theorem dL_addresses_435 : decode cL_addresses 435 = .ok (.if_icmp .ne 16, 3) := by decide +kernel
theorem dL_addresses_438 : decode cL_addresses 438 = .ok (.aload_n 0, 1) := by decide +kernel
theorem dL_addresses_439 : decode cL_addresses 439 = .ok (.iconst 3, 1) := by decide +kernel
theorem dL_addresses_440 : decode cL_addresses 440 = .ok (.invokevirtual 13, 3) := by decide +kernel
theorem dL_addresses_443 : decode cL_addresses 443 = .ok (.iload_n 3, 1) := by decide +kernel
theorem dL_addresses_444 : decode cL_addresses 444 = .ok (.if_icmp .ne 7, 3) := by decide +kernel
theorem dL_addresses_447 : decode cL_addresses 447 = .ok (.iconst 1, 1) := by decide +kernel
theorem dL_addresses_448 : decode cL_addresses 448 = .ok (.goto 4, 3) := by decide +kernel
theorem dL_addresses_451 : decode cL_addresses 451 = .ok (.iconst 0, 1) := by decide +kernel
theorem dL_addresses_452 : decode cL_addresses 452 = .ok (.ireturn, 1) := by decide +kernel
theorem dL_apart_0 : decode cL_apart 0 = .ok (.iload_n 0, 1) := by decide +kernel
theorem dL_apart_1 : decode cL_apart 1 = .ok (.iload_n 2, 1) := by decide +kernel
theorem dL_apart_2 : decode cL_apart 2 = .ok (.bipush 16, 2) := by decide +kernel
theorem dL_apart_4 : decode cL_apart 4 = .ok (.irem, 1) := by decide +kernel
theorem dL_apart_5 : decode cL_apart 5 = .ok (.isub, 1) := by decide +kernel
theorem dL_apart_6 : decode cL_apart 6 = .ok (.istore_n 3, 1) := by decide +kernel
theorem dL_apart_7 : decode cL_apart 7 = .ok (.iload_n 3, 1) := by decide +kernel
theorem dL_apart_8 : decode cL_apart 8 = .ok (.ifCond .ge 8, 3) := by decide +kernel
theorem dL_apart_11 : decode cL_apart 11 = .ok (.iload_n 3, 1) := by decide +kernel
theorem dL_apart_12 : decode cL_apart 12 = .ok (.ineg, 1) := by decide +kernel
theorem dL_apart_13 : decode cL_apart 13 = .ok (.goto 4, 3) := by decide +kernel
theorem dL_apart_16 : decode cL_apart 16 = .ok (.iload_n 3, 1) := by decide +kernel
theorem dL_apart_17 : decode cL_apart 17 = .ok (.iload_n 1, 1) := by decide +kernel
theorem dL_apart_18 : decode cL_apart 18 = .ok (.iload_n 2, 1) := by decide +kernel
theorem dL_apart_19 : decode cL_apart 19 = .ok (.bipush 16, 2) := by decide +kernel
theorem dL_apart_21 : decode cL_apart 21 = .ok (.idiv, 1) := by decide +kernel
theorem dL_apart_22 : decode cL_apart 22 = .ok (.if_icmp .ne 7, 3) := by decide +kernel
theorem dL_apart_25 : decode cL_apart 25 = .ok (.iconst 0, 1) := by decide +kernel
theorem dL_apart_26 : decode cL_apart 26 = .ok (.goto 4, 3) := by decide +kernel
theorem dL_apart_29 : decode cL_apart 29 = .ok (.iconst 2, 1) := by decide +kernel
theorem dL_apart_30 : decode cL_apart 30 = .ok (.iadd, 1) := by decide +kernel
theorem dL_apart_31 : decode cL_apart 31 = .ok (.ireturn, 1) := by decide +kernel
theorem dL_steps_0 : decode cL_steps 0 = .ok (.aload_n 0, 1) := by decide +kernel
theorem dL_steps_1 : decode cL_steps 1 = .ok (.iconst 5, 1) := by decide +kernel
theorem dL_steps_2 : decode cL_steps 2 = .ok (.invokevirtual 13, 3) := by decide +kernel
theorem dL_steps_5 : decode cL_steps 5 = .ok (.istore_n 3, 1) := by decide +kernel
theorem dL_steps_6 : decode cL_steps 6 = .ok (.aload_n 0, 1) := by decide +kernel
theorem dL_steps_7 : decode cL_steps 7 = .ok (.bipush 6, 2) := by decide +kernel
theorem dL_steps_9 : decode cL_steps 9 = .ok (.invokevirtual 13, 3) := by decide +kernel
theorem dL_steps_12 : decode cL_steps 12 = .ok (.istore 4, 2) := by decide +kernel
theorem dL_steps_14 : decode cL_steps 14 = .ok (.aload_n 0, 1) := by decide +kernel
theorem dL_steps_15 : decode cL_steps 15 = .ok (.iload_n 1, 1) := by decide +kernel
theorem dL_steps_16 : decode cL_steps 16 = .ok (.bipush 16, 2) := by decide +kernel
theorem dL_steps_18 : decode cL_steps 18 = .ok (.idiv, 1) := by decide +kernel
theorem dL_steps_19 : decode cL_steps 19 = .ok (.iconst 3, 1) := by decide +kernel
theorem dL_steps_20 : decode cL_steps 20 = .ok (.invokevirtual 30, 3) := by decide +kernel
theorem dL_steps_23 : decode cL_steps 23 = .ok (.iconst 1, 1) := by decide +kernel
theorem dL_steps_24 : decode cL_steps 24 = .ok (.if_icmp .ne 11, 3) := by decide +kernel
theorem dL_steps_27 : decode cL_steps 27 = .ok (.iload_n 3, 1) := by decide +kernel
theorem dL_steps_28 : decode cL_steps 28 = .ok (.iload 4, 2) := by decide +kernel
theorem dL_steps_30 : decode cL_steps 30 = .ok (.iload_n 2, 1) := by decide +kernel
theorem dL_steps_31 : decode cL_steps 31 = .ok (.invokestatic 43, 3) := by decide +kernel
theorem dL_steps_34 : decode cL_steps 34 = .ok (.ireturn, 1) := by decide +kernel
theorem dL_steps_35 : decode cL_steps 35 = .ok (.iload_n 3, 1) := by decide +kernel
theorem dL_steps_36 : decode cL_steps 36 = .ok (.iload 4, 2) := by decide +kernel
theorem dL_steps_38 : decode cL_steps 38 = .ok (.iload_n 1, 1) := by decide +kernel
theorem dL_steps_39 : decode cL_steps 39 = .ok (.invokestatic 43, 3) := by decide +kernel
theorem dL_steps_42 : decode cL_steps 42 = .ok (.iload_n 2, 1) := by decide +kernel
theorem dL_steps_43 : decode cL_steps 43 = .ok (.iload_n 1, 1) := by decide +kernel
theorem dL_steps_44 : decode cL_steps 44 = .ok (.if_icmp .ne 7, 3) := by decide +kernel
theorem dL_steps_47 : decode cL_steps 47 = .ok (.iconst 0, 1) := by decide +kernel
theorem dL_steps_48 : decode cL_steps 48 = .ok (.goto 15, 3) := by decide +kernel
theorem dL_steps_51 : decode cL_steps 51 = .ok (.iload_n 1, 1) := by decide +kernel
theorem dL_steps_52 : decode cL_steps 52 = .ok (.bipush 16, 2) := by decide +kernel
theorem dL_steps_54 : decode cL_steps 54 = .ok (.irem, 1) := by decide +kernel
theorem dL_steps_55 : decode cL_steps 55 = .ok (.iload_n 1, 1) := by decide +kernel
theorem dL_steps_56 : decode cL_steps 56 = .ok (.bipush 16, 2) := by decide +kernel
theorem dL_steps_58 : decode cL_steps 58 = .ok (.idiv, 1) := by decide +kernel
theorem dL_steps_59 : decode cL_steps 59 = .ok (.iload_n 2, 1) := by decide +kernel
theorem dL_steps_60 : decode cL_steps 60 = .ok (.invokestatic 43, 3) := by decide +kernel
theorem dL_steps_63 : decode cL_steps 63 = .ok (.iadd, 1) := by decide +kernel
theorem dL_steps_64 : decode cL_steps 64 = .ok (.ireturn, 1) := by decide +kernel
theorem dL_worst_0 : decode cL_worst 0 = .ok (.ldc 47, 2) := by decide +kernel
theorem dL_worst_2 : decode cL_worst 2 = .ok (.istore_n 2, 1) := by decide +kernel
theorem dL_worst_3 : decode cL_worst 3 = .ok (.iconst (-1), 1) := by decide +kernel
theorem dL_worst_4 : decode cL_worst 4 = .ok (.istore_n 3, 1) := by decide +kernel
theorem dL_worst_5 : decode cL_worst 5 = .ok (.iconst 0, 1) := by decide +kernel
theorem dL_worst_6 : decode cL_worst 6 = .ok (.istore 4, 2) := by decide +kernel
theorem dL_worst_8 : decode cL_worst 8 = .ok (.iload 4, 2) := by decide +kernel
theorem dL_worst_10 : decode cL_worst 10 = .ok (.iload_n 1, 1) := by decide +kernel
theorem dL_worst_11 : decode cL_worst 11 = .ok (.if_icmp .ge 84, 3) := by decide +kernel
theorem dL_worst_14 : decode cL_worst 14 = .ok (.aload_n 0, 1) := by decide +kernel
theorem dL_worst_15 : decode cL_worst 15 = .ok (.iload 4, 2) := by decide +kernel
theorem dL_worst_17 : decode cL_worst 17 = .ok (.invokevirtual 48, 3) := by decide +kernel
theorem dL_worst_20 : decode cL_worst 20 = .ok (.istore 5, 2) := by decide +kernel
theorem dL_worst_22 : decode cL_worst 22 = .ok (.iload 5, 2) := by decide +kernel
theorem dL_worst_24 : decode cL_worst 24 = .ok (.ifCond .ge 25, 3) := by decide +kernel
theorem dL_worst_27 : decode cL_worst 27 = .ok (.aload_n 0, 1) := by decide +kernel
theorem dL_worst_28 : decode cL_worst 28 = .ok (.iconst 1, 1) := by decide +kernel
theorem dL_worst_29 : decode cL_worst 29 = .ok (.invokevirtual 13, 3) := by decide +kernel
theorem dL_worst_32 : decode cL_worst 32 = .ok (.aload_n 0, 1) := by decide +kernel
theorem dL_worst_33 : decode cL_worst 33 = .ok (.iconst 2, 1) := by decide +kernel
theorem dL_worst_34 : decode cL_worst 34 = .ok (.invokevirtual 13, 3) := by decide +kernel
theorem dL_worst_37 : decode cL_worst 37 = .ok (.isub, 1) := by decide +kernel
theorem dL_worst_38 : decode cL_worst 38 = .ok (.iload 4, 2) := by decide +kernel
theorem dL_worst_40 : decode cL_worst 40 = .ok (.if_icmp .gt 7, 3) := by decide +kernel
theorem dL_worst_43 : decode cL_worst 43 = .ok (.iconst 1, 1) := by decide +kernel
theorem dL_worst_44 : decode cL_worst 44 = .ok (.goto 4, 3) := by decide +kernel
theorem dL_worst_47 : decode cL_worst 47 = .ok (.iconst 0, 1) := by decide +kernel
theorem dL_worst_48 : decode cL_worst 48 = .ok (.ireturn, 1) := by decide +kernel
theorem dL_worst_49 : decode cL_worst 49 = .ok (.aload_n 0, 1) := by decide +kernel
theorem dL_worst_50 : decode cL_worst 50 = .ok (.aload_n 0, 1) := by decide +kernel
theorem dL_worst_51 : decode cL_worst 51 = .ok (.iload 5, 2) := by decide +kernel
theorem dL_worst_53 : decode cL_worst 53 = .ok (.iconst 1, 1) := by decide +kernel
theorem dL_worst_54 : decode cL_worst 54 = .ok (.invokevirtual 27, 3) := by decide +kernel
theorem dL_worst_57 : decode cL_worst 57 = .ok (.iconst 0, 1) := by decide +kernel
theorem dL_worst_58 : decode cL_worst 58 = .ok (.invokevirtual 21, 3) := by decide +kernel
theorem dL_worst_61 : decode cL_worst 61 = .ok (.istore 6, 2) := by decide +kernel
theorem dL_worst_63 : decode cL_worst 63 = .ok (.iload 6, 2) := by decide +kernel
theorem dL_worst_65 : decode cL_worst 65 = .ok (.iload_n 2, 1) := by decide +kernel
theorem dL_worst_66 : decode cL_worst 66 = .ok (.if_icmp .gt 15, 3) := by decide +kernel
theorem dL_worst_69 : decode cL_worst 69 = .ok (.iload 6, 2) := by decide +kernel
theorem dL_worst_71 : decode cL_worst 71 = .ok (.iload_n 2, 1) := by decide +kernel
theorem dL_worst_72 : decode cL_worst 72 = .ok (.if_icmp .ne 11, 3) := by decide +kernel
theorem dL_worst_75 : decode cL_worst 75 = .ok (.iload 5, 2) := by decide +kernel
theorem dL_worst_77 : decode cL_worst 77 = .ok (.iload_n 3, 1) := by decide +kernel
theorem dL_worst_78 : decode cL_worst 78 = .ok (.if_icmp .gt 5, 3) := by decide +kernel
theorem dL_worst_81 : decode cL_worst 81 = .ok (.iconst 0, 1) := by decide +kernel
theorem dL_worst_82 : decode cL_worst 82 = .ok (.ireturn, 1) := by decide +kernel
theorem dL_worst_83 : decode cL_worst 83 = .ok (.iload 6, 2) := by decide +kernel
theorem dL_worst_85 : decode cL_worst 85 = .ok (.istore_n 2, 1) := by decide +kernel
theorem dL_worst_86 : decode cL_worst 86 = .ok (.iload 5, 2) := by decide +kernel
theorem dL_worst_88 : decode cL_worst 88 = .ok (.istore_n 3, 1) := by decide +kernel
theorem dL_worst_89 : decode cL_worst 89 = .ok (.iinc 4 1, 3) := by decide +kernel
theorem dL_worst_92 : decode cL_worst 92 = .ok (.goto (-84), 3) := by decide +kernel
theorem dL_worst_95 : decode cL_worst 95 = .ok (.iconst 1, 1) := by decide +kernel
theorem dL_worst_96 : decode cL_worst 96 = .ok (.ireturn, 1) := by decide +kernel
theorem dL_reads_0 : decode cL_reads 0 = .ok (.aload_n 0, 1) := by decide +kernel
theorem dL_reads_1 : decode cL_reads 1 = .ok (.iload_n 1, 1) := by decide +kernel
theorem dL_reads_2 : decode cL_reads 2 = .ok (.iconst 1, 1) := by decide +kernel
theorem dL_reads_3 : decode cL_reads 3 = .ok (.invokevirtual 27, 3) := by decide +kernel
theorem dL_reads_6 : decode cL_reads 6 = .ok (.istore_n 3, 1) := by decide +kernel
theorem dL_reads_7 : decode cL_reads 7 = .ok (.aload_n 0, 1) := by decide +kernel
theorem dL_reads_8 : decode cL_reads 8 = .ok (.iload_n 1, 1) := by decide +kernel
theorem dL_reads_9 : decode cL_reads 9 = .ok (.iconst 0, 1) := by decide +kernel
theorem dL_reads_10 : decode cL_reads 10 = .ok (.invokevirtual 27, 3) := by decide +kernel
theorem dL_reads_13 : decode cL_reads 13 = .ok (.istore 4, 2) := by decide +kernel
theorem dL_reads_15 : decode cL_reads 15 = .ok (.aload_n 0, 1) := by decide +kernel
theorem dL_reads_16 : decode cL_reads 16 = .ok (.iload_n 1, 1) := by decide +kernel
theorem dL_reads_17 : decode cL_reads 17 = .ok (.iconst 4, 1) := by decide +kernel
theorem dL_reads_18 : decode cL_reads 18 = .ok (.invokevirtual 27, 3) := by decide +kernel
theorem dL_reads_21 : decode cL_reads 21 = .ok (.istore 5, 2) := by decide +kernel
theorem dL_reads_23 : decode cL_reads 23 = .ok (.aload_n 0, 1) := by decide +kernel
theorem dL_reads_24 : decode cL_reads 24 = .ok (.bipush 7, 2) := by decide +kernel
theorem dL_reads_26 : decode cL_reads 26 = .ok (.invokevirtual 13, 3) := by decide +kernel
theorem dL_reads_29 : decode cL_reads 29 = .ok (.istore 6, 2) := by decide +kernel
theorem dL_reads_31 : decode cL_reads 31 = .ok (.aload_n 0, 1) := by decide +kernel
theorem dL_reads_32 : decode cL_reads 32 = .ok (.iload_n 1, 1) := by decide +kernel
theorem dL_reads_33 : decode cL_reads 33 = .ok (.iconst 3, 1) := by decide +kernel
theorem dL_reads_34 : decode cL_reads 34 = .ok (.invokevirtual 27, 3) := by decide +kernel
theorem dL_reads_37 : decode cL_reads 37 = .ok (.istore 7, 2) := by decide +kernel
theorem dL_reads_39 : decode cL_reads 39 = .ok (.aload_n 0, 1) := by decide +kernel
theorem dL_reads_40 : decode cL_reads 40 = .ok (.bipush 8, 2) := by decide +kernel
theorem dL_reads_42 : decode cL_reads 42 = .ok (.invokevirtual 13, 3) := by decide +kernel
theorem dL_reads_45 : decode cL_reads 45 = .ok (.istore 8, 2) := by decide +kernel
theorem dL_reads_47 : decode cL_reads 47 = .ok (.iload_n 2, 1) := by decide +kernel
theorem dL_reads_48 : decode cL_reads 48 = .ok (.bipush 7, 2) := by decide +kernel
theorem dL_reads_50 : decode cL_reads 50 = .ok (.invokestatic 51, 3) := by decide +kernel
theorem dL_reads_53 : decode cL_reads 53 = .ok (.ifCond .ne 7, 3) := by decide +kernel
theorem dL_reads_56 : decode cL_reads 56 = .ok (.iconst 1, 1) := by decide +kernel
theorem dL_reads_57 : decode cL_reads 57 = .ok (.goto 4, 3) := by decide +kernel
theorem dL_reads_60 : decode cL_reads 60 = .ok (.iconst 0, 1) := by decide +kernel
theorem dL_reads_61 : decode cL_reads 61 = .ok (.istore 9, 2) := by decide +kernel
theorem dL_reads_63 : decode cL_reads 63 = .ok (.iload 9, 2) := by decide +kernel
theorem dL_reads_65 : decode cL_reads 65 = .ok (.ifCond .eq 11, 3) := by decide +kernel
theorem dL_reads_68 : decode cL_reads 68 = .ok (.aload_n 0, 1) := by decide +kernel
theorem dL_reads_69 : decode cL_reads 69 = .ok (.iload_n 1, 1) := by decide +kernel
theorem dL_reads_70 : decode cL_reads 70 = .ok (.invokevirtual 54, 3) := by decide +kernel
theorem dL_reads_73 : decode cL_reads 73 = .ok (.goto 4, 3) := by decide +kernel
theorem dL_reads_76 : decode cL_reads 76 = .ok (.iconst 0, 1) := by decide +kernel
theorem dL_reads_77 : decode cL_reads 77 = .ok (.istore 10, 2) := by decide +kernel
theorem dL_reads_79 : decode cL_reads 79 = .ok (.aload_n 0, 1) := by decide +kernel
theorem dL_reads_80 : decode cL_reads 80 = .ok (.iload_n 1, 1) := by decide +kernel
theorem dL_reads_81 : decode cL_reads 81 = .ok (.invokevirtual 57, 3) := by decide +kernel
theorem dL_reads_84 : decode cL_reads 84 = .ok (.istore 11, 2) := by decide +kernel
theorem dL_reads_86 : decode cL_reads 86 = .ok (.iload_n 3, 1) := by decide +kernel
theorem dL_reads_87 : decode cL_reads 87 = .ok (.iconst (-1), 1) := by decide +kernel
theorem dL_reads_88 : decode cL_reads 88 = .ok (.if_icmp .ne 15, 3) := by decide +kernel
theorem dL_reads_91 : decode cL_reads 91 = .ok (.iload 11, 2) := by decide +kernel
theorem dL_reads_93 : decode cL_reads 93 = .ok (.iconst (-1), 1) := by decide +kernel
theorem dL_reads_94 : decode cL_reads 94 = .ok (.if_icmp .ne 7, 3) := by decide +kernel
theorem dL_reads_97 : decode cL_reads 97 = .ok (.iconst 1, 1) := by decide +kernel
theorem dL_reads_98 : decode cL_reads 98 = .ok (.goto 4, 3) := by decide +kernel
theorem dL_reads_101 : decode cL_reads 101 = .ok (.iconst 0, 1) := by decide +kernel
theorem dL_reads_102 : decode cL_reads 102 = .ok (.ireturn, 1) := by decide +kernel
theorem dL_reads_103 : decode cL_reads 103 = .ok (.iload_n 3, 1) := by decide +kernel
theorem dL_reads_104 : decode cL_reads 104 = .ok (.bipush (-5), 2) := by decide +kernel
theorem dL_reads_106 : decode cL_reads 106 = .ok (.if_icmp .ne 28, 3) := by decide +kernel
theorem dL_reads_109 : decode cL_reads 109 = .ok (.iload 11, 2) := by decide +kernel
theorem dL_reads_111 : decode cL_reads 111 = .ok (.bipush (-4), 2) := by decide +kernel
theorem dL_reads_113 : decode cL_reads 113 = .ok (.if_icmp .ne 19, 3) := by decide +kernel
theorem dL_reads_116 : decode cL_reads 116 = .ok (.iload 9, 2) := by decide +kernel
theorem dL_reads_118 : decode cL_reads 118 = .ok (.ifCond .eq 10, 3) := by decide +kernel
theorem dL_reads_121 : decode cL_reads 121 = .ok (.iload 10, 2) := by decide +kernel
theorem dL_reads_123 : decode cL_reads 123 = .ok (.bipush (-4), 2) := by decide +kernel
theorem dL_reads_125 : decode cL_reads 125 = .ok (.if_icmp .ne 7, 3) := by decide +kernel
theorem dL_reads_128 : decode cL_reads 128 = .ok (.iconst 1, 1) := by decide +kernel
theorem dL_reads_129 : decode cL_reads 129 = .ok (.goto 4, 3) := by decide +kernel
theorem dL_reads_132 : decode cL_reads 132 = .ok (.iconst 0, 1) := by decide +kernel
theorem dL_reads_133 : decode cL_reads 133 = .ok (.ireturn, 1) := by decide +kernel
theorem dL_reads_134 : decode cL_reads 134 = .ok (.aload_n 0, 1) := by decide +kernel
theorem dL_reads_135 : decode cL_reads 135 = .ok (.iload_n 1, 1) := by decide +kernel
theorem dL_reads_136 : decode cL_reads 136 = .ok (.iconst 1, 1) := by decide +kernel
theorem dL_reads_137 : decode cL_reads 137 = .ok (.invokevirtual 27, 3) := by decide +kernel
theorem dL_reads_140 : decode cL_reads 140 = .ok (.istore 12, 2) := by decide +kernel
theorem dL_reads_142 : decode cL_reads 142 = .ok (.aload_n 0, 1) := by decide +kernel
theorem dL_reads_143 : decode cL_reads 143 = .ok (.bipush 8, 2) := by decide +kernel
theorem dL_reads_145 : decode cL_reads 145 = .ok (.invokevirtual 13, 3) := by decide +kernel
theorem dL_reads_148 : decode cL_reads 148 = .ok (.iload 8, 2) := by decide +kernel
theorem dL_reads_150 : decode cL_reads 150 = .ok (.iconst 1, 1) := by decide +kernel
theorem dL_reads_151 : decode cL_reads 151 = .ok (.iadd, 1) := by decide +kernel
theorem dL_reads_152 : decode cL_reads 152 = .ok (.if_icmp .ne 7, 3) := by decide +kernel
theorem dL_reads_155 : decode cL_reads 155 = .ok (.iconst 1, 1) := by decide +kernel
theorem dL_reads_156 : decode cL_reads 156 = .ok (.goto 4, 3) := by decide +kernel
theorem dL_reads_159 : decode cL_reads 159 = .ok (.iconst 0, 1) := by decide +kernel
theorem dL_reads_160 : decode cL_reads 160 = .ok (.istore 13, 2) := by decide +kernel
theorem dL_reads_162 : decode cL_reads 162 = .ok (.iload 9, 2) := by decide +kernel
theorem dL_reads_164 : decode cL_reads 164 = .ok (.ifCond .eq 30, 3) := by decide +kernel
theorem dL_reads_167 : decode cL_reads 167 = .ok (.iload 10, 2) := by decide +kernel
theorem dL_reads_169 : decode cL_reads 169 = .ok (.iconst 1, 1) := by decide +kernel
theorem dL_reads_170 : decode cL_reads 170 = .ok (.if_icmp .ne 7, 3) := by decide +kernel
theorem dL_reads_173 : decode cL_reads 173 = .ok (.iconst 1, 1) := by decide +kernel
theorem dL_reads_174 : decode cL_reads 174 = .ok (.goto 4, 3) := by decide +kernel
theorem dL_reads_177 : decode cL_reads 177 = .ok (.iconst 0, 1) := by decide +kernel
theorem dL_reads_178 : decode cL_reads 178 = .ok (.iload 12, 2) := by decide +kernel
theorem dL_reads_180 : decode cL_reads 180 = .ok (.iload_n 3, 1) := by decide +kernel
theorem dL_reads_181 : decode cL_reads 181 = .ok (.if_icmp .eq 7, 3) := by decide +kernel
theorem dL_reads_184 : decode cL_reads 184 = .ok (.iconst 1, 1) := by decide +kernel
theorem dL_reads_185 : decode cL_reads 185 = .ok (.goto 4, 3) := by decide +kernel
theorem dL_reads_188 : decode cL_reads 188 = .ok (.iconst 0, 1) := by decide +kernel
theorem dL_reads_189 : decode cL_reads 189 = .ok (.if_icmp .eq 5, 3) := by decide +kernel
theorem dL_reads_192 : decode cL_reads 192 = .ok (.iconst 0, 1) := by decide +kernel
theorem dL_reads_193 : decode cL_reads 193 = .ok (.ireturn, 1) := by decide +kernel
theorem dL_reads_194 : decode cL_reads 194 = .ok (.iload 13, 2) := by decide +kernel
theorem dL_reads_196 : decode cL_reads 196 = .ok (.ifCond .eq 40, 3) := by decide +kernel
theorem dL_reads_199 : decode cL_reads 199 = .ok (.iload 12, 2) := by decide +kernel
theorem dL_reads_201 : decode cL_reads 201 = .ok (.iload 7, 2) := by decide +kernel
theorem dL_reads_203 : decode cL_reads 203 = .ok (.if_icmp .ne 60, 3) := by decide +kernel
theorem dL_reads_206 : decode cL_reads 206 = .ok (.aload_n 0, 1) := by decide +kernel
theorem dL_reads_207 : decode cL_reads 207 = .ok (.iconst 5, 1) := by decide +kernel
theorem dL_reads_208 : decode cL_reads 208 = .ok (.invokevirtual 13, 3) := by decide +kernel
theorem dL_reads_211 : decode cL_reads 211 = .ok (.iload 12, 2) := by decide +kernel
theorem dL_reads_213 : decode cL_reads 213 = .ok (.bipush 16, 2) := by decide +kernel
theorem dL_reads_215 : decode cL_reads 215 = .ok (.irem, 1) := by decide +kernel
theorem dL_reads_216 : decode cL_reads 216 = .ok (.if_icmp .ne 47, 3) := by decide +kernel
theorem dL_reads_219 : decode cL_reads 219 = .ok (.aload_n 0, 1) := by decide +kernel
theorem dL_reads_220 : decode cL_reads 220 = .ok (.bipush 6, 2) := by decide +kernel
theorem dL_reads_222 : decode cL_reads 222 = .ok (.invokevirtual 13, 3) := by decide +kernel
theorem dL_reads_225 : decode cL_reads 225 = .ok (.iload 12, 2) := by decide +kernel
theorem dL_reads_227 : decode cL_reads 227 = .ok (.bipush 16, 2) := by decide +kernel
theorem dL_reads_229 : decode cL_reads 229 = .ok (.idiv, 1) := by decide +kernel
theorem dL_reads_230 : decode cL_reads 230 = .ok (.if_icmp .eq 35, 3) := by decide +kernel
theorem dL_reads_233 : decode cL_reads 233 = .ok (.goto 30, 3) := by decide +kernel
theorem dL_reads_236 : decode cL_reads 236 = .ok (.iload 12, 2) := by decide +kernel
theorem dL_reads_238 : decode cL_reads 238 = .ok (.iload_n 3, 1) := by decide +kernel
theorem dL_reads_239 : decode cL_reads 239 = .ok (.if_icmp .eq 10, 3) := by decide +kernel
theorem dL_reads_242 : decode cL_reads 242 = .ok (.iload 12, 2) := by decide +kernel
theorem dL_reads_244 : decode cL_reads 244 = .ok (.bipush (-5), 2) := by decide +kernel
theorem dL_reads_246 : decode cL_reads 246 = .ok (.if_icmp .ne 17, 3) := by decide +kernel
theorem dL_reads_249 : decode cL_reads 249 = .ok (.aload_n 0, 1) := by decide +kernel
theorem dL_reads_250 : decode cL_reads 250 = .ok (.bipush 7, 2) := by decide +kernel
theorem dL_reads_252 : decode cL_reads 252 = .ok (.invokevirtual 13, 3) := by decide +kernel
theorem dL_reads_255 : decode cL_reads 255 = .ok (.iload 6, 2) := by decide +kernel
theorem dL_reads_257 : decode cL_reads 257 = .ok (.iload 5, 2) := by decide +kernel
theorem dL_reads_259 : decode cL_reads 259 = .ok (.iadd, 1) := by decide +kernel
theorem dL_reads_260 : decode cL_reads 260 = .ok (.if_icmp .eq 5, 3) := by decide +kernel
theorem dL_reads_263 : decode cL_reads 263 = .ok (.iconst 0, 1) := by decide +kernel
theorem dL_reads_264 : decode cL_reads 264 = .ok (.ireturn, 1) := by decide +kernel
theorem dL_reads_265 : decode cL_reads 265 = .ok (.iload 11, 2) := by decide +kernel
theorem dL_reads_267 : decode cL_reads 267 = .ok (.iload 4, 2) := by decide +kernel
theorem dL_reads_269 : decode cL_reads 269 = .ok (.if_icmp .ne 53, 3) := by decide +kernel
theorem dL_reads_272 : decode cL_reads 272 = .ok (.iload 12, 2) := by decide +kernel
theorem dL_reads_274 : decode cL_reads 274 = .ok (.iload_n 3, 1) := by decide +kernel
theorem dL_reads_275 : decode cL_reads 275 = .ok (.if_icmp .ne 32, 3) := by decide +kernel
theorem dL_reads_278 : decode cL_reads 278 = .ok (.aload_n 0, 1) := by decide +kernel
theorem dL_reads_279 : decode cL_reads 279 = .ok (.iload_n 3, 1) := by decide +kernel
theorem dL_reads_280 : decode cL_reads 280 = .ok (.iconst 1, 1) := by decide +kernel
theorem dL_reads_281 : decode cL_reads 281 = .ok (.invokevirtual 21, 3) := by decide +kernel
theorem dL_reads_284 : decode cL_reads 284 = .ok (.ifCond .eq 34, 3) := by decide +kernel
theorem dL_reads_287 : decode cL_reads 287 = .ok (.iload 7, 2) := by decide +kernel
theorem dL_reads_289 : decode cL_reads 289 = .ok (.bipush (-5), 2) := by decide +kernel
theorem dL_reads_291 : decode cL_reads 291 = .ok (.if_icmp .ne 31, 3) := by decide +kernel
theorem dL_reads_294 : decode cL_reads 294 = .ok (.aload_n 0, 1) := by decide +kernel
theorem dL_reads_295 : decode cL_reads 295 = .ok (.iload_n 3, 1) := by decide +kernel
theorem dL_reads_296 : decode cL_reads 296 = .ok (.iconst 1, 1) := by decide +kernel
theorem dL_reads_297 : decode cL_reads 297 = .ok (.invokevirtual 21, 3) := by decide +kernel
theorem dL_reads_300 : decode cL_reads 300 = .ok (.iconst 1, 1) := by decide +kernel
theorem dL_reads_301 : decode cL_reads 301 = .ok (.if_icmp .ne 21, 3) := by decide +kernel
theorem dL_reads_304 : decode cL_reads 304 = .ok (.goto 14, 3) := by decide +kernel
theorem dL_reads_307 : decode cL_reads 307 = .ok (.aload_n 0, 1) := by decide +kernel
theorem dL_reads_308 : decode cL_reads 308 = .ok (.iload_n 3, 1) := by decide +kernel
theorem dL_reads_309 : decode cL_reads 309 = .ok (.iconst 3, 1) := by decide +kernel
theorem dL_reads_310 : decode cL_reads 310 = .ok (.invokevirtual 21, 3) := by decide +kernel
theorem dL_reads_313 : decode cL_reads 313 = .ok (.bipush (-5), 2) := by decide +kernel
theorem dL_reads_315 : decode cL_reads 315 = .ok (.if_icmp .ne 7, 3) := by decide +kernel
theorem dL_reads_318 : decode cL_reads 318 = .ok (.iconst 1, 1) := by decide +kernel
theorem dL_reads_319 : decode cL_reads 319 = .ok (.goto 4, 3) := by decide +kernel
theorem dL_reads_322 : decode cL_reads 322 = .ok (.iconst 0, 1) := by decide +kernel
theorem dL_reads_323 : decode cL_reads 323 = .ok (.ireturn, 1) := by decide +kernel
theorem dL_writes_0 : decode cL_writes 0 = .ok (.aload_n 0, 1) := by decide +kernel
theorem dL_writes_1 : decode cL_writes 1 = .ok (.iload_n 1, 1) := by decide +kernel
theorem dL_writes_2 : decode cL_writes 2 = .ok (.iconst 1, 1) := by decide +kernel
theorem dL_writes_3 : decode cL_writes 3 = .ok (.invokevirtual 27, 3) := by decide +kernel
theorem dL_writes_6 : decode cL_writes 6 = .ok (.istore_n 3, 1) := by decide +kernel
theorem dL_writes_7 : decode cL_writes 7 = .ok (.aload_n 0, 1) := by decide +kernel
theorem dL_writes_8 : decode cL_writes 8 = .ok (.iload_n 1, 1) := by decide +kernel
theorem dL_writes_9 : decode cL_writes 9 = .ok (.iconst 3, 1) := by decide +kernel
theorem dL_writes_10 : decode cL_writes 10 = .ok (.invokevirtual 27, 3) := by decide +kernel
theorem dL_writes_13 : decode cL_writes 13 = .ok (.istore 4, 2) := by decide +kernel
theorem dL_writes_15 : decode cL_writes 15 = .ok (.aload_n 0, 1) := by decide +kernel
theorem dL_writes_16 : decode cL_writes 16 = .ok (.bipush 11, 2) := by decide +kernel
theorem dL_writes_18 : decode cL_writes 18 = .ok (.invokevirtual 13, 3) := by decide +kernel
theorem dL_writes_21 : decode cL_writes 21 = .ok (.istore 5, 2) := by decide +kernel
theorem dL_writes_23 : decode cL_writes 23 = .ok (.aload_n 0, 1) := by decide +kernel
theorem dL_writes_24 : decode cL_writes 24 = .ok (.iload_n 1, 1) := by decide +kernel
theorem dL_writes_25 : decode cL_writes 25 = .ok (.iload_n 2, 1) := by decide +kernel
theorem dL_writes_26 : decode cL_writes 26 = .ok (.invokevirtual 60, 3) := by decide +kernel
theorem dL_writes_29 : decode cL_writes 29 = .ok (.istore 6, 2) := by decide +kernel
theorem dL_writes_31 : decode cL_writes 31 = .ok (.iload_n 3, 1) := by decide +kernel
theorem dL_writes_32 : decode cL_writes 32 = .ok (.iconst (-1), 1) := by decide +kernel
theorem dL_writes_33 : decode cL_writes 33 = .ok (.if_icmp .ne 15, 3) := by decide +kernel
theorem dL_writes_36 : decode cL_writes 36 = .ok (.iload 6, 2) := by decide +kernel
theorem dL_writes_38 : decode cL_writes 38 = .ok (.iconst (-1), 1) := by decide +kernel
theorem dL_writes_39 : decode cL_writes 39 = .ok (.if_icmp .ne 7, 3) := by decide +kernel
theorem dL_writes_42 : decode cL_writes 42 = .ok (.iconst 1, 1) := by decide +kernel
theorem dL_writes_43 : decode cL_writes 43 = .ok (.goto 4, 3) := by decide +kernel
theorem dL_writes_46 : decode cL_writes 46 = .ok (.iconst 0, 1) := by decide +kernel
theorem dL_writes_47 : decode cL_writes 47 = .ok (.ireturn, 1) := by decide +kernel
theorem dL_writes_48 : decode cL_writes 48 = .ok (.iload_n 3, 1) := by decide +kernel
theorem dL_writes_49 : decode cL_writes 49 = .ok (.bipush (-5), 2) := by decide +kernel
theorem dL_writes_51 : decode cL_writes 51 = .ok (.if_icmp .ne 34, 3) := by decide +kernel
theorem dL_writes_54 : decode cL_writes 54 = .ok (.iload 4, 2) := by decide +kernel
theorem dL_writes_56 : decode cL_writes 56 = .ok (.bipush (-5), 2) := by decide +kernel
theorem dL_writes_58 : decode cL_writes 58 = .ok (.if_icmp .ne 27, 3) := by decide +kernel
theorem dL_writes_61 : decode cL_writes 61 = .ok (.iload 6, 2) := by decide +kernel
theorem dL_writes_63 : decode cL_writes 63 = .ok (.bipush (-4), 2) := by decide +kernel
theorem dL_writes_65 : decode cL_writes 65 = .ok (.if_icmp .ne 18, 3) := by decide +kernel
theorem dL_writes_68 : decode cL_writes 68 = .ok (.aload_n 0, 1) := by decide +kernel
theorem dL_writes_69 : decode cL_writes 69 = .ok (.bipush 11, 2) := by decide +kernel
theorem dL_writes_71 : decode cL_writes 71 = .ok (.invokevirtual 13, 3) := by decide +kernel
theorem dL_writes_74 : decode cL_writes 74 = .ok (.iload 5, 2) := by decide +kernel
theorem dL_writes_76 : decode cL_writes 76 = .ok (.if_icmp .ne 7, 3) := by decide +kernel
theorem dL_writes_79 : decode cL_writes 79 = .ok (.iconst 1, 1) := by decide +kernel
theorem dL_writes_80 : decode cL_writes 80 = .ok (.goto 4, 3) := by decide +kernel
theorem dL_writes_83 : decode cL_writes 83 = .ok (.iconst 0, 1) := by decide +kernel
theorem dL_writes_84 : decode cL_writes 84 = .ok (.ireturn, 1) := by decide +kernel
theorem dL_writes_85 : decode cL_writes 85 = .ok (.aload_n 0, 1) := by decide +kernel
theorem dL_writes_86 : decode cL_writes 86 = .ok (.iload_n 1, 1) := by decide +kernel
theorem dL_writes_87 : decode cL_writes 87 = .ok (.iconst 1, 1) := by decide +kernel
theorem dL_writes_88 : decode cL_writes 88 = .ok (.invokevirtual 27, 3) := by decide +kernel
theorem dL_writes_91 : decode cL_writes 91 = .ok (.istore 7, 2) := by decide +kernel
theorem dL_writes_93 : decode cL_writes 93 = .ok (.aload_n 0, 1) := by decide +kernel
theorem dL_writes_94 : decode cL_writes 94 = .ok (.bipush 11, 2) := by decide +kernel
theorem dL_writes_96 : decode cL_writes 96 = .ok (.invokevirtual 13, 3) := by decide +kernel
theorem dL_writes_99 : decode cL_writes 99 = .ok (.iload 5, 2) := by decide +kernel
theorem dL_writes_101 : decode cL_writes 101 = .ok (.iconst 1, 1) := by decide +kernel
theorem dL_writes_102 : decode cL_writes 102 = .ok (.iadd, 1) := by decide +kernel
theorem dL_writes_103 : decode cL_writes 103 = .ok (.if_icmp .ne 39, 3) := by decide +kernel
theorem dL_writes_106 : decode cL_writes 106 = .ok (.iload 7, 2) := by decide +kernel
theorem dL_writes_108 : decode cL_writes 108 = .ok (.ifCond .ge 13, 3) := by decide +kernel
theorem dL_writes_111 : decode cL_writes 111 = .ok (.iload 6, 2) := by decide +kernel
theorem dL_writes_113 : decode cL_writes 113 = .ok (.bipush 100, 2) := by decide +kernel
theorem dL_writes_115 : decode cL_writes 115 = .ok (.if_icmp .ne 27, 3) := by decide +kernel
theorem dL_writes_118 : decode cL_writes 118 = .ok (.goto 20, 3) := by decide +kernel
theorem dL_writes_121 : decode cL_writes 121 = .ok (.iload 6, 2) := by decide +kernel
theorem dL_writes_123 : decode cL_writes 123 = .ok (.iload 7, 2) := by decide +kernel
theorem dL_writes_125 : decode cL_writes 125 = .ok (.if_icmp .ne 17, 3) := by decide +kernel
theorem dL_writes_128 : decode cL_writes 128 = .ok (.aload_n 0, 1) := by decide +kernel
theorem dL_writes_129 : decode cL_writes 129 = .ok (.iload_n 1, 1) := by decide +kernel
theorem dL_writes_130 : decode cL_writes 130 = .ok (.iconst 0, 1) := by decide +kernel
theorem dL_writes_131 : decode cL_writes 131 = .ok (.invokevirtual 27, 3) := by decide +kernel
theorem dL_writes_134 : decode cL_writes 134 = .ok (.iload_n 2, 1) := by decide +kernel
theorem dL_writes_135 : decode cL_writes 135 = .ok (.if_icmp .ne 7, 3) := by decide +kernel
theorem dL_writes_138 : decode cL_writes 138 = .ok (.iconst 1, 1) := by decide +kernel
theorem dL_writes_139 : decode cL_writes 139 = .ok (.goto 4, 3) := by decide +kernel
theorem dL_writes_142 : decode cL_writes 142 = .ok (.iconst 0, 1) := by decide +kernel
theorem dL_writes_143 : decode cL_writes 143 = .ok (.ireturn, 1) := by decide +kernel
theorem dL_gives_0 : decode cL_gives 0 = .ok (.aload_n 0, 1) := by decide +kernel
theorem dL_gives_1 : decode cL_gives 1 = .ok (.iload_n 1, 1) := by decide +kernel
theorem dL_gives_2 : decode cL_gives 2 = .ok (.iconst 1, 1) := by decide +kernel
theorem dL_gives_3 : decode cL_gives 3 = .ok (.invokevirtual 27, 3) := by decide +kernel
theorem dL_gives_6 : decode cL_gives 6 = .ok (.istore_n 2, 1) := by decide +kernel
theorem dL_gives_7 : decode cL_gives 7 = .ok (.aload_n 0, 1) := by decide +kernel
theorem dL_gives_8 : decode cL_gives 8 = .ok (.iload_n 1, 1) := by decide +kernel
theorem dL_gives_9 : decode cL_gives 9 = .ok (.invokevirtual 63, 3) := by decide +kernel
theorem dL_gives_12 : decode cL_gives 12 = .ok (.istore_n 3, 1) := by decide +kernel
theorem dL_gives_13 : decode cL_gives 13 = .ok (.iload_n 2, 1) := by decide +kernel
theorem dL_gives_14 : decode cL_gives 14 = .ok (.ifCond .ge 24, 3) := by decide +kernel
theorem dL_gives_17 : decode cL_gives 17 = .ok (.iload_n 3, 1) := by decide +kernel
theorem dL_gives_18 : decode cL_gives 18 = .ok (.iload_n 2, 1) := by decide +kernel
theorem dL_gives_19 : decode cL_gives 19 = .ok (.iconst (-1), 1) := by decide +kernel
theorem dL_gives_20 : decode cL_gives 20 = .ok (.if_icmp .ne 7, 3) := by decide +kernel
theorem dL_gives_23 : decode cL_gives 23 = .ok (.iconst (-1), 1) := by decide +kernel
theorem dL_gives_24 : decode cL_gives 24 = .ok (.goto 5, 3) := by decide +kernel
theorem dL_gives_27 : decode cL_gives 27 = .ok (.bipush (-5), 2) := by decide +kernel
theorem dL_gives_29 : decode cL_gives 29 = .ok (.if_icmp .ne 7, 3) := by decide +kernel
theorem dL_gives_32 : decode cL_gives 32 = .ok (.iconst 1, 1) := by decide +kernel
theorem dL_gives_33 : decode cL_gives 33 = .ok (.goto 4, 3) := by decide +kernel
theorem dL_gives_36 : decode cL_gives 36 = .ok (.iconst 0, 1) := by decide +kernel
theorem dL_gives_37 : decode cL_gives 37 = .ok (.ireturn, 1) := by decide +kernel
theorem dL_gives_38 : decode cL_gives 38 = .ok (.iload_n 2, 1) := by decide +kernel
theorem dL_gives_39 : decode cL_gives 39 = .ok (.iload_n 1, 1) := by decide +kernel
theorem dL_gives_40 : decode cL_gives 40 = .ok (.if_icmp .ne 15, 3) := by decide +kernel
theorem dL_gives_43 : decode cL_gives 43 = .ok (.iload_n 3, 1) := by decide +kernel
theorem dL_gives_44 : decode cL_gives 44 = .ok (.bipush (-5), 2) := by decide +kernel
theorem dL_gives_46 : decode cL_gives 46 = .ok (.if_icmp .ne 7, 3) := by decide +kernel
theorem dL_gives_49 : decode cL_gives 49 = .ok (.iconst 1, 1) := by decide +kernel
theorem dL_gives_50 : decode cL_gives 50 = .ok (.goto 4, 3) := by decide +kernel
theorem dL_gives_53 : decode cL_gives 53 = .ok (.iconst 0, 1) := by decide +kernel
theorem dL_gives_54 : decode cL_gives 54 = .ok (.ireturn, 1) := by decide +kernel
theorem dL_gives_55 : decode cL_gives 55 = .ok (.iload_n 3, 1) := by decide +kernel
theorem dL_gives_56 : decode cL_gives 56 = .ok (.iload_n 2, 1) := by decide +kernel
theorem dL_gives_57 : decode cL_gives 57 = .ok (.if_icmp .ne 57, 3) := by decide +kernel
theorem dL_gives_60 : decode cL_gives 60 = .ok (.aload_n 0, 1) := by decide +kernel
theorem dL_gives_61 : decode cL_gives 61 = .ok (.iload_n 1, 1) := by decide +kernel
theorem dL_gives_62 : decode cL_gives 62 = .ok (.iconst 1, 1) := by decide +kernel
theorem dL_gives_63 : decode cL_gives 63 = .ok (.invokevirtual 27, 3) := by decide +kernel
theorem dL_gives_66 : decode cL_gives 66 = .ok (.iload_n 1, 1) := by decide +kernel
theorem dL_gives_67 : decode cL_gives 67 = .ok (.if_icmp .ne 43, 3) := by decide +kernel
theorem dL_gives_70 : decode cL_gives 70 = .ok (.aload_n 0, 1) := by decide +kernel
theorem dL_gives_71 : decode cL_gives 71 = .ok (.iload_n 2, 1) := by decide +kernel
theorem dL_gives_72 : decode cL_gives 72 = .ok (.iconst 3, 1) := by decide +kernel
theorem dL_gives_73 : decode cL_gives 73 = .ok (.invokevirtual 21, 3) := by decide +kernel
theorem dL_gives_76 : decode cL_gives 76 = .ok (.bipush (-5), 2) := by decide +kernel
theorem dL_gives_78 : decode cL_gives 78 = .ok (.if_icmp .ne 32, 3) := by decide +kernel
theorem dL_gives_81 : decode cL_gives 81 = .ok (.aload_n 0, 1) := by decide +kernel
theorem dL_gives_82 : decode cL_gives 82 = .ok (.iconst 5, 1) := by decide +kernel
theorem dL_gives_83 : decode cL_gives 83 = .ok (.invokevirtual 13, 3) := by decide +kernel
theorem dL_gives_86 : decode cL_gives 86 = .ok (.iload_n 1, 1) := by decide +kernel
theorem dL_gives_87 : decode cL_gives 87 = .ok (.bipush 16, 2) := by decide +kernel
theorem dL_gives_89 : decode cL_gives 89 = .ok (.irem, 1) := by decide +kernel
theorem dL_gives_90 : decode cL_gives 90 = .ok (.if_icmp .ne 20, 3) := by decide +kernel
theorem dL_gives_93 : decode cL_gives 93 = .ok (.aload_n 0, 1) := by decide +kernel
theorem dL_gives_94 : decode cL_gives 94 = .ok (.bipush 6, 2) := by decide +kernel
theorem dL_gives_96 : decode cL_gives 96 = .ok (.invokevirtual 13, 3) := by decide +kernel
theorem dL_gives_99 : decode cL_gives 99 = .ok (.iload_n 1, 1) := by decide +kernel
theorem dL_gives_100 : decode cL_gives 100 = .ok (.bipush 16, 2) := by decide +kernel
theorem dL_gives_102 : decode cL_gives 102 = .ok (.idiv, 1) := by decide +kernel
theorem dL_gives_103 : decode cL_gives 103 = .ok (.if_icmp .ne 7, 3) := by decide +kernel
theorem dL_gives_106 : decode cL_gives 106 = .ok (.iconst 1, 1) := by decide +kernel
theorem dL_gives_107 : decode cL_gives 107 = .ok (.goto 40, 3) := by decide +kernel
theorem dL_gives_110 : decode cL_gives 110 = .ok (.iconst 0, 1) := by decide +kernel
theorem dL_gives_111 : decode cL_gives 111 = .ok (.goto 36, 3) := by decide +kernel
theorem dL_gives_114 : decode cL_gives 114 = .ok (.iload_n 3, 1) := by decide +kernel
theorem dL_gives_115 : decode cL_gives 115 = .ok (.bipush (-4), 2) := by decide +kernel
theorem dL_gives_117 : decode cL_gives 117 = .ok (.if_icmp .ne 29, 3) := by decide +kernel
theorem dL_gives_120 : decode cL_gives 120 = .ok (.aload_n 0, 1) := by decide +kernel
theorem dL_gives_121 : decode cL_gives 121 = .ok (.iload_n 1, 1) := by decide +kernel
theorem dL_gives_122 : decode cL_gives 122 = .ok (.iconst 1, 1) := by decide +kernel
theorem dL_gives_123 : decode cL_gives 123 = .ok (.invokevirtual 21, 3) := by decide +kernel
theorem dL_gives_126 : decode cL_gives 126 = .ok (.ifCond .gt 16, 3) := by decide +kernel
theorem dL_gives_129 : decode cL_gives 129 = .ok (.aload_n 0, 1) := by decide +kernel
theorem dL_gives_130 : decode cL_gives 130 = .ok (.iload_n 1, 1) := by decide +kernel
theorem dL_gives_131 : decode cL_gives 131 = .ok (.bipush 16, 2) := by decide +kernel
theorem dL_gives_133 : decode cL_gives 133 = .ok (.idiv, 1) := by decide +kernel
theorem dL_gives_134 : decode cL_gives 134 = .ok (.iconst 3, 1) := by decide +kernel
theorem dL_gives_135 : decode cL_gives 135 = .ok (.invokevirtual 30, 3) := by decide +kernel
theorem dL_gives_138 : decode cL_gives 138 = .ok (.iconst 1, 1) := by decide +kernel
theorem dL_gives_139 : decode cL_gives 139 = .ok (.if_icmp .ne 7, 3) := by decide +kernel
theorem dL_gives_142 : decode cL_gives 142 = .ok (.iconst 1, 1) := by decide +kernel
theorem dL_gives_143 : decode cL_gives 143 = .ok (.goto 4, 3) := by decide +kernel
theorem dL_gives_146 : decode cL_gives 146 = .ok (.iconst 0, 1) := by decide +kernel
theorem dL_gives_147 : decode cL_gives 147 = .ok (.ireturn, 1) := by decide +kernel
theorem dL_drops_0 : decode cL_drops 0 = .ok (.aload_n 0, 1) := by decide +kernel
theorem dL_drops_1 : decode cL_drops 1 = .ok (.iload_n 1, 1) := by decide +kernel
theorem dL_drops_2 : decode cL_drops 2 = .ok (.invokevirtual 66, 3) := by decide +kernel
theorem dL_drops_5 : decode cL_drops 5 = .ok (.istore_n 2, 1) := by decide +kernel
theorem dL_drops_6 : decode cL_drops 6 = .ok (.aload_n 0, 1) := by decide +kernel
theorem dL_drops_7 : decode cL_drops 7 = .ok (.iconst 2, 1) := by decide +kernel
theorem dL_drops_8 : decode cL_drops 8 = .ok (.invokevirtual 13, 3) := by decide +kernel
theorem dL_drops_11 : decode cL_drops 11 = .ok (.istore_n 3, 1) := by decide +kernel
theorem dL_drops_12 : decode cL_drops 12 = .ok (.aload_n 0, 1) := by decide +kernel
theorem dL_drops_13 : decode cL_drops 13 = .ok (.bipush 7, 2) := by decide +kernel
theorem dL_drops_15 : decode cL_drops 15 = .ok (.invokevirtual 13, 3) := by decide +kernel
theorem dL_drops_18 : decode cL_drops 18 = .ok (.istore 4, 2) := by decide +kernel
theorem dL_drops_20 : decode cL_drops 20 = .ok (.aload_n 0, 1) := by decide +kernel
theorem dL_drops_21 : decode cL_drops 21 = .ok (.iconst 0, 1) := by decide +kernel
theorem dL_drops_22 : decode cL_drops 22 = .ok (.iconst 3, 1) := by decide +kernel
theorem dL_drops_23 : decode cL_drops 23 = .ok (.invokevirtual 30, 3) := by decide +kernel
theorem dL_drops_26 : decode cL_drops 26 = .ok (.aload_n 0, 1) := by decide +kernel
theorem dL_drops_27 : decode cL_drops 27 = .ok (.iconst 1, 1) := by decide +kernel
theorem dL_drops_28 : decode cL_drops 28 = .ok (.iconst 3, 1) := by decide +kernel
theorem dL_drops_29 : decode cL_drops 29 = .ok (.invokevirtual 30, 3) := by decide +kernel
theorem dL_drops_32 : decode cL_drops 32 = .ok (.iadd, 1) := by decide +kernel
theorem dL_drops_33 : decode cL_drops 33 = .ok (.aload_n 0, 1) := by decide +kernel
theorem dL_drops_34 : decode cL_drops 34 = .ok (.iconst 2, 1) := by decide +kernel
theorem dL_drops_35 : decode cL_drops 35 = .ok (.iconst 3, 1) := by decide +kernel
theorem dL_drops_36 : decode cL_drops 36 = .ok (.invokevirtual 30, 3) := by decide +kernel
theorem dL_drops_39 : decode cL_drops 39 = .ok (.iadd, 1) := by decide +kernel
theorem dL_drops_40 : decode cL_drops 40 = .ok (.aload_n 0, 1) := by decide +kernel
theorem dL_drops_41 : decode cL_drops 41 = .ok (.iconst 3, 1) := by decide +kernel
theorem dL_drops_42 : decode cL_drops 42 = .ok (.iconst 3, 1) := by decide +kernel
theorem dL_drops_43 : decode cL_drops 43 = .ok (.invokevirtual 30, 3) := by decide +kernel
theorem dL_drops_46 : decode cL_drops 46 = .ok (.iadd, 1) := by decide +kernel
theorem dL_drops_47 : decode cL_drops 47 = .ok (.istore 5, 2) := by decide +kernel
theorem dL_drops_49 : decode cL_drops 49 = .ok (.aload_n 0, 1) := by decide +kernel
theorem dL_drops_50 : decode cL_drops 50 = .ok (.iload_n 1, 1) := by decide +kernel
theorem dL_drops_51 : decode cL_drops 51 = .ok (.iconst 3, 1) := by decide +kernel
theorem dL_drops_52 : decode cL_drops 52 = .ok (.invokevirtual 30, 3) := by decide +kernel
theorem dL_drops_55 : decode cL_drops 55 = .ok (.iconst 1, 1) := by decide +kernel
theorem dL_drops_56 : decode cL_drops 56 = .ok (.if_icmp .ne 7, 3) := by decide +kernel
theorem dL_drops_59 : decode cL_drops 59 = .ok (.iconst 1, 1) := by decide +kernel
theorem dL_drops_60 : decode cL_drops 60 = .ok (.goto 4, 3) := by decide +kernel
theorem dL_drops_63 : decode cL_drops 63 = .ok (.iconst 0, 1) := by decide +kernel
theorem dL_drops_64 : decode cL_drops 64 = .ok (.istore 6, 2) := by decide +kernel
theorem dL_drops_66 : decode cL_drops 66 = .ok (.aload_n 0, 1) := by decide +kernel
theorem dL_drops_67 : decode cL_drops 67 = .ok (.iload_n 1, 1) := by decide +kernel
theorem dL_drops_68 : decode cL_drops 68 = .ok (.invokevirtual 69, 3) := by decide +kernel
theorem dL_drops_71 : decode cL_drops 71 = .ok (.istore 7, 2) := by decide +kernel
theorem dL_drops_73 : decode cL_drops 73 = .ok (.iload 6, 2) := by decide +kernel
theorem dL_drops_75 : decode cL_drops 75 = .ok (.ifCond .eq 22, 3) := by decide +kernel
theorem dL_drops_78 : decode cL_drops 78 = .ok (.iload 7, 2) := by decide +kernel
theorem dL_drops_80 : decode cL_drops 80 = .ok (.bipush (-5), 2) := by decide +kernel
theorem dL_drops_82 : decode cL_drops 82 = .ok (.if_icmp .ne 13, 3) := by decide +kernel
theorem dL_drops_85 : decode cL_drops 85 = .ok (.iload_n 2, 1) := by decide +kernel
theorem dL_drops_86 : decode cL_drops 86 = .ok (.bipush (-5), 2) := by decide +kernel
theorem dL_drops_88 : decode cL_drops 88 = .ok (.if_icmp .ne 7, 3) := by decide +kernel
theorem dL_drops_91 : decode cL_drops 91 = .ok (.iconst 1, 1) := by decide +kernel
theorem dL_drops_92 : decode cL_drops 92 = .ok (.goto 4, 3) := by decide +kernel
theorem dL_drops_95 : decode cL_drops 95 = .ok (.iconst 0, 1) := by decide +kernel
theorem dL_drops_96 : decode cL_drops 96 = .ok (.ireturn, 1) := by decide +kernel
theorem dL_drops_97 : decode cL_drops 97 = .ok (.iload 5, 2) := by decide +kernel
theorem dL_drops_99 : decode cL_drops 99 = .ok (.iconst 3, 1) := by decide +kernel
theorem dL_drops_100 : decode cL_drops 100 = .ok (.if_icmp .ne 27, 3) := by decide +kernel
theorem dL_drops_103 : decode cL_drops 103 = .ok (.iload 7, 2) := by decide +kernel
theorem dL_drops_105 : decode cL_drops 105 = .ok (.bipush (-4), 2) := by decide +kernel
theorem dL_drops_107 : decode cL_drops 107 = .ok (.if_icmp .ne 16, 3) := by decide +kernel
theorem dL_drops_110 : decode cL_drops 110 = .ok (.aload_n 0, 1) := by decide +kernel
theorem dL_drops_111 : decode cL_drops 111 = .ok (.iload_n 1, 1) := by decide +kernel
theorem dL_drops_112 : decode cL_drops 112 = .ok (.iconst 3, 1) := by decide +kernel
theorem dL_drops_113 : decode cL_drops 113 = .ok (.invokevirtual 30, 3) := by decide +kernel
theorem dL_drops_116 : decode cL_drops 116 = .ok (.ifCond .ne 7, 3) := by decide +kernel
theorem dL_drops_119 : decode cL_drops 119 = .ok (.iconst 1, 1) := by decide +kernel
theorem dL_drops_120 : decode cL_drops 120 = .ok (.goto 60, 3) := by decide +kernel
theorem dL_drops_123 : decode cL_drops 123 = .ok (.iconst 0, 1) := by decide +kernel
theorem dL_drops_124 : decode cL_drops 124 = .ok (.goto 56, 3) := by decide +kernel
theorem dL_drops_127 : decode cL_drops 127 = .ok (.iload 7, 2) := by decide +kernel
theorem dL_drops_129 : decode cL_drops 129 = .ok (.iload_n 2, 1) := by decide +kernel
theorem dL_drops_130 : decode cL_drops 130 = .ok (.if_icmp .ne 49, 3) := by decide +kernel
theorem dL_drops_133 : decode cL_drops 133 = .ok (.aload_n 0, 1) := by decide +kernel
theorem dL_drops_134 : decode cL_drops 134 = .ok (.iload_n 1, 1) := by decide +kernel
theorem dL_drops_135 : decode cL_drops 135 = .ok (.iconst 3, 1) := by decide +kernel
theorem dL_drops_136 : decode cL_drops 136 = .ok (.invokevirtual 30, 3) := by decide +kernel
theorem dL_drops_139 : decode cL_drops 139 = .ok (.iconst 1, 1) := by decide +kernel
theorem dL_drops_140 : decode cL_drops 140 = .ok (.if_icmp .ne 39, 3) := by decide +kernel
theorem dL_drops_143 : decode cL_drops 143 = .ok (.aload_n 0, 1) := by decide +kernel
theorem dL_drops_144 : decode cL_drops 144 = .ok (.iload_n 1, 1) := by decide +kernel
theorem dL_drops_145 : decode cL_drops 145 = .ok (.iconst 2, 1) := by decide +kernel
theorem dL_drops_146 : decode cL_drops 146 = .ok (.invokevirtual 30, 3) := by decide +kernel
theorem dL_drops_149 : decode cL_drops 149 = .ok (.ifCond .ne 30, 3) := by decide +kernel
theorem dL_drops_152 : decode cL_drops 152 = .ok (.aload_n 0, 1) := by decide +kernel
theorem dL_drops_153 : decode cL_drops 153 = .ok (.iconst 2, 1) := by decide +kernel
theorem dL_drops_154 : decode cL_drops 154 = .ok (.invokevirtual 13, 3) := by decide +kernel
theorem dL_drops_157 : decode cL_drops 157 = .ok (.iload_n 3, 1) := by decide +kernel
theorem dL_drops_158 : decode cL_drops 158 = .ok (.iload 7, 2) := by decide +kernel
theorem dL_drops_160 : decode cL_drops 160 = .ok (.iadd, 1) := by decide +kernel
theorem dL_drops_161 : decode cL_drops 161 = .ok (.if_icmp .ne 18, 3) := by decide +kernel
theorem dL_drops_164 : decode cL_drops 164 = .ok (.aload_n 0, 1) := by decide +kernel
theorem dL_drops_165 : decode cL_drops 165 = .ok (.bipush 7, 2) := by decide +kernel
theorem dL_drops_167 : decode cL_drops 167 = .ok (.invokevirtual 13, 3) := by decide +kernel
theorem dL_drops_170 : decode cL_drops 170 = .ok (.iload 4, 2) := by decide +kernel
theorem dL_drops_172 : decode cL_drops 172 = .ok (.if_icmp .ne 7, 3) := by decide +kernel
theorem dL_drops_175 : decode cL_drops 175 = .ok (.iconst 1, 1) := by decide +kernel
theorem dL_drops_176 : decode cL_drops 176 = .ok (.goto 4, 3) := by decide +kernel
theorem dL_drops_179 : decode cL_drops 179 = .ok (.iconst 0, 1) := by decide +kernel
theorem dL_drops_180 : decode cL_drops 180 = .ok (.ireturn, 1) := by decide +kernel
theorem dL_does_0 : decode cL_does 0 = .ok (.iload_n 2, 1) := by decide +kernel
theorem dL_does_1 : decode cL_does 1 = .ok (.bipush 64, 2) := by decide +kernel
theorem dL_does_3 : decode cL_does 3 = .ok (.invokestatic 51, 3) := by decide +kernel
theorem dL_does_6 : decode cL_does 6 = .ok (.istore 4, 2) := by decide +kernel
theorem dL_does_8 : decode cL_does 8 = .ok (.iload_n 1, 1) := by decide +kernel
theorem dL_does_9 : decode cL_does 9 = .ok (.iconst 4, 1) := by decide +kernel
theorem dL_does_10 : decode cL_does 10 = .ok (.if_icmp .ge 11, 3) := by decide +kernel
theorem dL_does_13 : decode cL_does 13 = .ok (.aload_n 0, 1) := by decide +kernel
theorem dL_does_14 : decode cL_does 14 = .ok (.iload 4, 2) := by decide +kernel
theorem dL_does_16 : decode cL_does 16 = .ok (.iload_n 3, 1) := by decide +kernel
theorem dL_does_17 : decode cL_does 17 = .ok (.invokestatic 72, 3) := by decide +kernel
theorem dL_does_20 : decode cL_does 20 = .ok (.ireturn, 1) := by decide +kernel
theorem dL_does_21 : decode cL_does 21 = .ok (.iload_n 1, 1) := by decide +kernel
theorem dL_does_22 : decode cL_does 22 = .ok (.bipush 7, 2) := by decide +kernel
theorem dL_does_24 : decode cL_does 24 = .ok (.if_icmp .ge 17, 3) := by decide +kernel
theorem dL_does_27 : decode cL_does 27 = .ok (.aload_n 0, 1) := by decide +kernel
theorem dL_does_28 : decode cL_does 28 = .ok (.iload 4, 2) := by decide +kernel
theorem dL_does_30 : decode cL_does 30 = .ok (.iload_n 3, 1) := by decide +kernel
theorem dL_does_31 : decode cL_does 31 = .ok (.sipush 1000, 3) := by decide +kernel
theorem dL_does_34 : decode cL_does 34 = .ok (.invokestatic 51, 3) := by decide +kernel
theorem dL_does_37 : decode cL_does 37 = .ok (.invokestatic 76, 3) := by decide +kernel
theorem dL_does_40 : decode cL_does 40 = .ok (.ireturn, 1) := by decide +kernel
theorem dL_does_41 : decode cL_does 41 = .ok (.iload_n 1, 1) := by decide +kernel
theorem dL_does_42 : decode cL_does 42 = .ok (.bipush 7, 2) := by decide +kernel
theorem dL_does_44 : decode cL_does 44 = .ok (.if_icmp .ne 84, 3) := by decide +kernel
theorem dL_does_47 : decode cL_does 47 = .ok (.iload_n 2, 1) := by decide +kernel
theorem dL_does_48 : decode cL_does 48 = .ok (.iconst 4, 1) := by decide +kernel
theorem dL_does_49 : decode cL_does 49 = .ok (.invokestatic 51, 3) := by decide +kernel
theorem dL_does_52 : decode cL_does 52 = .ok (.istore 5, 2) := by decide +kernel
theorem dL_does_54 : decode cL_does 54 = .ok (.aload_n 0, 1) := by decide +kernel
theorem dL_does_55 : decode cL_does 55 = .ok (.bipush 8, 2) := by decide +kernel
theorem dL_does_57 : decode cL_does 57 = .ok (.invokevirtual 13, 3) := by decide +kernel
theorem dL_does_60 : decode cL_does 60 = .ok (.istore 6, 2) := by decide +kernel
theorem dL_does_62 : decode cL_does 62 = .ok (.aload_n 0, 1) := by decide +kernel
theorem dL_does_63 : decode cL_does 63 = .ok (.iload 5, 2) := by decide +kernel
theorem dL_does_65 : decode cL_does 65 = .ok (.bipush 6, 2) := by decide +kernel
theorem dL_does_67 : decode cL_does 67 = .ok (.invokevirtual 30, 3) := by decide +kernel
theorem dL_does_70 : decode cL_does 70 = .ok (.bipush 16, 2) := by decide +kernel
theorem dL_does_72 : decode cL_does 72 = .ok (.aload_n 0, 1) := by decide +kernel
theorem dL_does_73 : decode cL_does 73 = .ok (.iload 5, 2) := by decide +kernel
theorem dL_does_75 : decode cL_does 75 = .ok (.iconst 1, 1) := by decide +kernel
theorem dL_does_76 : decode cL_does 76 = .ok (.invokevirtual 30, 3) := by decide +kernel
theorem dL_does_79 : decode cL_does 79 = .ok (.isub, 1) := by decide +kernel
theorem dL_does_80 : decode cL_does 80 = .ok (.if_icmp .ne 7, 3) := by decide +kernel
theorem dL_does_83 : decode cL_does 83 = .ok (.iconst 1, 1) := by decide +kernel
theorem dL_does_84 : decode cL_does 84 = .ok (.goto 4, 3) := by decide +kernel
theorem dL_does_87 : decode cL_does 87 = .ok (.iconst 0, 1) := by decide +kernel
theorem dL_does_88 : decode cL_does 88 = .ok (.istore 7, 2) := by decide +kernel
theorem dL_does_90 : decode cL_does 90 = .ok (.aload_n 0, 1) := by decide +kernel
theorem dL_does_91 : decode cL_does 91 = .ok (.iload 5, 2) := by decide +kernel
theorem dL_does_93 : decode cL_does 93 = .ok (.invokevirtual 79, 3) := by decide +kernel
theorem dL_does_96 : decode cL_does 96 = .ok (.istore 8, 2) := by decide +kernel
theorem dL_does_98 : decode cL_does 98 = .ok (.iload 8, 2) := by decide +kernel
theorem dL_does_100 : decode cL_does 100 = .ok (.iload 7, 2) := by decide +kernel
theorem dL_does_102 : decode cL_does 102 = .ok (.ifCond .eq 8, 3) := by decide +kernel
theorem dL_does_105 : decode cL_does 105 = .ok (.bipush (-5), 2) := by decide +kernel
theorem dL_does_107 : decode cL_does 107 = .ok (.goto 12, 3) := by decide +kernel
theorem dL_does_110 : decode cL_does 110 = .ok (.aload_n 0, 1) := by decide +kernel
theorem dL_does_111 : decode cL_does 111 = .ok (.bipush 8, 2) := by decide +kernel
theorem dL_does_113 : decode cL_does 113 = .ok (.invokevirtual 13, 3) := by decide +kernel
theorem dL_does_116 : decode cL_does 116 = .ok (.iload 6, 2) := by decide +kernel
theorem dL_does_118 : decode cL_does 118 = .ok (.isub, 1) := by decide +kernel
theorem dL_does_119 : decode cL_does 119 = .ok (.if_icmp .ne 7, 3) := by decide +kernel
theorem dL_does_122 : decode cL_does 122 = .ok (.iconst 1, 1) := by decide +kernel
theorem dL_does_123 : decode cL_does 123 = .ok (.goto 4, 3) := by decide +kernel
theorem dL_does_126 : decode cL_does 126 = .ok (.iconst 0, 1) := by decide +kernel
theorem dL_does_127 : decode cL_does 127 = .ok (.ireturn, 1) := by decide +kernel
theorem dL_does_128 : decode cL_does 128 = .ok (.iload_n 1, 1) := by decide +kernel
theorem dL_does_129 : decode cL_does 129 = .ok (.bipush 8, 2) := by decide +kernel
theorem dL_does_131 : decode cL_does 131 = .ok (.if_icmp .ne 10, 3) := by decide +kernel
theorem dL_does_134 : decode cL_does 134 = .ok (.aload_n 0, 1) := by decide +kernel
theorem dL_does_135 : decode cL_does 135 = .ok (.iload 4, 2) := by decide +kernel
theorem dL_does_137 : decode cL_does 137 = .ok (.invokestatic 82, 3) := by decide +kernel
theorem dL_does_140 : decode cL_does 140 = .ok (.ireturn, 1) := by decide +kernel
theorem dL_does_141 : decode cL_does 141 = .ok (.iload_n 1, 1) := by decide +kernel
theorem dL_does_142 : decode cL_does 142 = .ok (.bipush 9, 2) := by decide +kernel
theorem dL_does_144 : decode cL_does 144 = .ok (.if_icmp .ne 13, 3) := by decide +kernel
theorem dL_does_147 : decode cL_does 147 = .ok (.aload_n 0, 1) := by decide +kernel
theorem dL_does_148 : decode cL_does 148 = .ok (.iload_n 2, 1) := by decide +kernel
theorem dL_does_149 : decode cL_does 149 = .ok (.iconst 4, 1) := by decide +kernel
theorem dL_does_150 : decode cL_does 150 = .ok (.invokestatic 51, 3) := by decide +kernel
theorem dL_does_153 : decode cL_does 153 = .ok (.invokestatic 86, 3) := by decide +kernel
theorem dL_does_156 : decode cL_does 156 = .ok (.ireturn, 1) := by decide +kernel
theorem dL_does_157 : decode cL_does 157 = .ok (.iload_n 1, 1) := by decide +kernel
theorem dL_does_158 : decode cL_does 158 = .ok (.bipush 10, 2) := by decide +kernel
theorem dL_does_160 : decode cL_does 160 = .ok (.if_icmp .ne 59, 3) := by decide +kernel
theorem dL_does_163 : decode cL_does 163 = .ok (.iconst 1, 1) := by decide +kernel
theorem dL_does_164 : decode cL_does 164 = .ok (.iload_n 3, 1) := by decide +kernel
theorem dL_does_165 : decode cL_does 165 = .ok (.bipush 40, 2) := by decide +kernel
theorem dL_does_167 : decode cL_does 167 = .ok (.invokestatic 51, 3) := by decide +kernel
theorem dL_does_170 : decode cL_does 170 = .ok (.iadd, 1) := by decide +kernel
theorem dL_does_171 : decode cL_does 171 = .ok (.istore 5, 2) := by decide +kernel
theorem dL_does_173 : decode cL_does 173 = .ok (.aload_n 0, 1) := by decide +kernel
theorem dL_does_174 : decode cL_does 174 = .ok (.iconst 0, 1) := by decide +kernel
theorem dL_does_175 : decode cL_does 175 = .ok (.invokevirtual 13, 3) := by decide +kernel
theorem dL_does_178 : decode cL_does 178 = .ok (.istore 6, 2) := by decide +kernel
theorem dL_does_180 : decode cL_does 180 = .ok (.aload_n 0, 1) := by decide +kernel
theorem dL_does_181 : decode cL_does 181 = .ok (.iload 5, 2) := by decide +kernel
theorem dL_does_183 : decode cL_does 183 = .ok (.invokevirtual 89, 3) := by decide +kernel
theorem dL_does_186 : decode cL_does 186 = .ok (.iload 6, 2) := by decide +kernel
theorem dL_does_188 : decode cL_does 188 = .ok (.iload 5, 2) := by decide +kernel
theorem dL_does_190 : decode cL_does 190 = .ok (.if_icmp .ne 8, 3) := by decide +kernel
theorem dL_does_193 : decode cL_does 193 = .ok (.bipush (-5), 2) := by decide +kernel
theorem dL_does_195 : decode cL_does 195 = .ok (.goto 5, 3) := by decide +kernel
theorem dL_does_198 : decode cL_does 198 = .ok (.iload 6, 2) := by decide +kernel
theorem dL_does_200 : decode cL_does 200 = .ok (.if_icmp .ne 17, 3) := by decide +kernel
theorem dL_does_203 : decode cL_does 203 = .ok (.aload_n 0, 1) := by decide +kernel
theorem dL_does_204 : decode cL_does 204 = .ok (.iconst 0, 1) := by decide +kernel
theorem dL_does_205 : decode cL_does 205 = .ok (.invokevirtual 13, 3) := by decide +kernel
theorem dL_does_208 : decode cL_does 208 = .ok (.iload 5, 2) := by decide +kernel
theorem dL_does_210 : decode cL_does 210 = .ok (.if_icmp .ne 7, 3) := by decide +kernel
theorem dL_does_213 : decode cL_does 213 = .ok (.iconst 1, 1) := by decide +kernel
theorem dL_does_214 : decode cL_does 214 = .ok (.goto 4, 3) := by decide +kernel
theorem dL_does_217 : decode cL_does 217 = .ok (.iconst 0, 1) := by decide +kernel
theorem dL_does_218 : decode cL_does 218 = .ok (.ireturn, 1) := by decide +kernel
theorem dL_does_219 : decode cL_does 219 = .ok (.iconst 1, 1) := by decide +kernel
theorem dL_does_220 : decode cL_does 220 = .ok (.iload_n 3, 1) := by decide +kernel
theorem dL_does_221 : decode cL_does 221 = .ok (.bipush 6, 2) := by decide +kernel
theorem dL_does_223 : decode cL_does 223 = .ok (.ishr, 1) := by decide +kernel
theorem dL_does_224 : decode cL_does 224 = .ok (.bipush 16, 2) := by decide +kernel
theorem dL_does_226 : decode cL_does 226 = .ok (.invokestatic 51, 3) := by decide +kernel
theorem dL_does_229 : decode cL_does 229 = .ok (.iadd, 1) := by decide +kernel
theorem dL_does_230 : decode cL_does 230 = .ok (.istore 5, 2) := by decide +kernel
theorem dL_does_232 : decode cL_does 232 = .ok (.iload_n 3, 1) := by decide +kernel
theorem dL_does_233 : decode cL_does 233 = .ok (.bipush 64, 2) := by decide +kernel
theorem dL_does_235 : decode cL_does 235 = .ok (.invokestatic 51, 3) := by decide +kernel
theorem dL_does_238 : decode cL_does 238 = .ok (.istore 6, 2) := by decide +kernel
theorem dL_does_240 : decode cL_does 240 = .ok (.aload_n 0, 1) := by decide +kernel
theorem dL_does_241 : decode cL_does 241 = .ok (.iload 4, 2) := by decide +kernel
theorem dL_does_243 : decode cL_does 243 = .ok (.iconst 2, 1) := by decide +kernel
theorem dL_does_244 : decode cL_does 244 = .ok (.invokevirtual 21, 3) := by decide +kernel
theorem dL_does_247 : decode cL_does 247 = .ok (.ifCond .ne 17, 3) := by decide +kernel
theorem dL_does_250 : decode cL_does 250 = .ok (.aload_n 0, 1) := by decide +kernel
theorem dL_does_251 : decode cL_does 251 = .ok (.iload 6, 2) := by decide +kernel
theorem dL_does_253 : decode cL_does 253 = .ok (.iconst 2, 1) := by decide +kernel
theorem dL_does_254 : decode cL_does 254 = .ok (.invokevirtual 21, 3) := by decide +kernel
theorem dL_does_257 : decode cL_does 257 = .ok (.ifCond .ne 7, 3) := by decide +kernel
theorem dL_does_260 : decode cL_does 260 = .ok (.iconst 1, 1) := by decide +kernel
theorem dL_does_261 : decode cL_does 261 = .ok (.goto 4, 3) := by decide +kernel
theorem dL_does_264 : decode cL_does 264 = .ok (.iconst 0, 1) := by decide +kernel
theorem dL_does_265 : decode cL_does 265 = .ok (.istore 7, 2) := by decide +kernel
theorem dL_does_267 : decode cL_does 267 = .ok (.aload_n 0, 1) := by decide +kernel
theorem dL_does_268 : decode cL_does 268 = .ok (.bipush 11, 2) := by decide +kernel
theorem dL_does_270 : decode cL_does 270 = .ok (.invokevirtual 13, 3) := by decide +kernel
theorem dL_does_273 : decode cL_does 273 = .ok (.istore 8, 2) := by decide +kernel
theorem dL_does_275 : decode cL_does 275 = .ok (.aload_n 0, 1) := by decide +kernel
theorem dL_does_276 : decode cL_does 276 = .ok (.bipush 10, 2) := by decide +kernel
theorem dL_does_278 : decode cL_does 278 = .ok (.invokevirtual 13, 3) := by decide +kernel
theorem dL_does_281 : decode cL_does 281 = .ok (.istore 9, 2) := by decide +kernel
theorem dL_does_283 : decode cL_does 283 = .ok (.aload_n 0, 1) := by decide +kernel
theorem dL_does_284 : decode cL_does 284 = .ok (.iload 4, 2) := by decide +kernel
theorem dL_does_286 : decode cL_does 286 = .ok (.iload 6, 2) := by decide +kernel
theorem dL_does_288 : decode cL_does 288 = .ok (.iload 5, 2) := by decide +kernel
theorem dL_does_290 : decode cL_does 290 = .ok (.invokevirtual 92, 3) := by decide +kernel
theorem dL_does_293 : decode cL_does 293 = .ok (.istore 10, 2) := by decide +kernel
theorem dL_does_295 : decode cL_does 295 = .ok (.iload 7, 2) := by decide +kernel
theorem dL_does_297 : decode cL_does 297 = .ok (.ifCond .ne 17, 3) := by decide +kernel
theorem dL_does_300 : decode cL_does 300 = .ok (.iload 10, 2) := by decide +kernel
theorem dL_does_302 : decode cL_does 302 = .ok (.iconst (-1), 1) := by decide +kernel
theorem dL_does_303 : decode cL_does 303 = .ok (.if_icmp .ne 7, 3) := by decide +kernel
theorem dL_does_306 : decode cL_does 306 = .ok (.iconst 1, 1) := by decide +kernel
theorem dL_does_307 : decode cL_does 307 = .ok (.goto 78, 3) := by decide +kernel
theorem dL_does_310 : decode cL_does 310 = .ok (.iconst 0, 1) := by decide +kernel
theorem dL_does_311 : decode cL_does 311 = .ok (.goto 74, 3) := by decide +kernel
theorem dL_does_314 : decode cL_does 314 = .ok (.iload 10, 2) := by decide +kernel
theorem dL_does_316 : decode cL_does 316 = .ok (.bipush (-5), 2) := by decide +kernel
theorem dL_does_318 : decode cL_does 318 = .ok (.if_icmp .ne 22, 3) := by decide +kernel
theorem dL_does_321 : decode cL_does 321 = .ok (.aload_n 0, 1) := by decide +kernel
theorem dL_does_322 : decode cL_does 322 = .ok (.bipush 11, 2) := by decide +kernel
theorem dL_does_324 : decode cL_does 324 = .ok (.invokevirtual 13, 3) := by decide +kernel
theorem dL_does_327 : decode cL_does 327 = .ok (.iload 8, 2) := by decide +kernel
theorem dL_does_329 : decode cL_does 329 = .ok (.if_icmp .ne 7, 3) := by decide +kernel
theorem dL_does_332 : decode cL_does 332 = .ok (.iconst 1, 1) := by decide +kernel
theorem dL_does_333 : decode cL_does 333 = .ok (.goto 52, 3) := by decide +kernel
theorem dL_does_336 : decode cL_does 336 = .ok (.iconst 0, 1) := by decide +kernel
theorem dL_does_337 : decode cL_does 337 = .ok (.goto 48, 3) := by decide +kernel
theorem dL_does_340 : decode cL_does 340 = .ok (.iload 10, 2) := by decide +kernel
theorem dL_does_342 : decode cL_does 342 = .ok (.ifCond .le 42, 3) := by decide +kernel
theorem dL_does_345 : decode cL_does 345 = .ok (.iload 10, 2) := by decide +kernel
theorem dL_does_347 : decode cL_does 347 = .ok (.iload 5, 2) := by decide +kernel
theorem dL_does_349 : decode cL_does 349 = .ok (.if_icmp .gt 35, 3) := by decide +kernel
theorem dL_does_352 : decode cL_does 352 = .ok (.aload_n 0, 1) := by decide +kernel
theorem dL_does_353 : decode cL_does 353 = .ok (.bipush 11, 2) := by decide +kernel
theorem dL_does_355 : decode cL_does 355 = .ok (.invokevirtual 13, 3) := by decide +kernel
theorem dL_does_358 : decode cL_does 358 = .ok (.iload 8, 2) := by decide +kernel
theorem dL_does_360 : decode cL_does 360 = .ok (.iload 10, 2) := by decide +kernel
theorem dL_does_362 : decode cL_does 362 = .ok (.iadd, 1) := by decide +kernel
theorem dL_does_363 : decode cL_does 363 = .ok (.if_icmp .ne 21, 3) := by decide +kernel
theorem dL_does_366 : decode cL_does 366 = .ok (.aload_n 0, 1) := by decide +kernel
theorem dL_does_367 : decode cL_does 367 = .ok (.bipush 10, 2) := by decide +kernel
theorem dL_does_369 : decode cL_does 369 = .ok (.invokevirtual 13, 3) := by decide +kernel
theorem dL_does_372 : decode cL_does 372 = .ok (.iload 9, 2) := by decide +kernel
theorem dL_does_374 : decode cL_does 374 = .ok (.iload 10, 2) := by decide +kernel
theorem dL_does_376 : decode cL_does 376 = .ok (.iadd, 1) := by decide +kernel
theorem dL_does_377 : decode cL_does 377 = .ok (.if_icmp .ne 7, 3) := by decide +kernel
theorem dL_does_380 : decode cL_does 380 = .ok (.iconst 1, 1) := by decide +kernel
theorem dL_does_381 : decode cL_does 381 = .ok (.goto 4, 3) := by decide +kernel
theorem dL_does_384 : decode cL_does 384 = .ok (.iconst 0, 1) := by decide +kernel
theorem dL_does_385 : decode cL_does 385 = .ok (.ireturn, 1) := by decide +kernel
theorem dL_law_0 : decode cL_law 0 = .ok (.new 14, 3) := by decide +kernel
theorem dL_law_3 : decode cL_law 3 = .ok (.dup, 1) := by decide +kernel
theorem dL_law_4 : decode cL_law 4 = .ok (.invokespecial 95, 3) := by decide +kernel
theorem dL_law_7 : decode cL_law 7 = .ok (.astore_n 1, 1) := by decide +kernel
theorem dL_law_8 : decode cL_law 8 = .ok (.aload_n 1, 1) := by decide +kernel
theorem dL_law_9 : decode cL_law 9 = .ok (.invokevirtual 96, 3) := by decide +kernel
theorem dL_law_12 : decode cL_law 12 = .ok (.bipush (-5), 2) := by decide +kernel
theorem dL_law_14 : decode cL_law 14 = .ok (.if_icmp .ne 94, 3) := by decide +kernel
theorem dL_law_17 : decode cL_law 17 = .ok (.aload_n 1, 1) := by decide +kernel
theorem dL_law_18 : decode cL_law 18 = .ok (.invokevirtual 100, 3) := by decide +kernel
theorem dL_law_21 : decode cL_law 21 = .ok (.bipush (-5), 2) := by decide +kernel
theorem dL_law_23 : decode cL_law 23 = .ok (.if_icmp .ne 85, 3) := by decide +kernel
theorem dL_law_26 : decode cL_law 26 = .ok (.aload_n 1, 1) := by decide +kernel
theorem dL_law_27 : decode cL_law 27 = .ok (.invokevirtual 103, 3) := by decide +kernel
theorem dL_law_30 : decode cL_law 30 = .ok (.bipush (-100), 2) := by decide +kernel
theorem dL_law_32 : decode cL_law 32 = .ok (.if_icmp .ne 76, 3) := by decide +kernel
theorem dL_law_35 : decode cL_law 35 = .ok (.aload_n 1, 1) := by decide +kernel
theorem dL_law_36 : decode cL_law 36 = .ok (.iconst 4, 1) := by decide +kernel
theorem dL_law_37 : decode cL_law 37 = .ok (.invokevirtual 13, 3) := by decide +kernel
theorem dL_law_40 : decode cL_law 40 = .ok (.bipush 16, 2) := by decide +kernel
theorem dL_law_42 : decode cL_law 42 = .ok (.if_icmp .ne 66, 3) := by decide +kernel
theorem dL_law_45 : decode cL_law 45 = .ok (.aload_n 1, 1) := by decide +kernel
theorem dL_law_46 : decode cL_law 46 = .ok (.bipush 12, 2) := by decide +kernel
theorem dL_law_48 : decode cL_law 48 = .ok (.iconst 0, 1) := by decide +kernel
theorem dL_law_49 : decode cL_law 49 = .ok (.invokevirtual 27, 3) := by decide +kernel
theorem dL_law_52 : decode cL_law 52 = .ok (.iconst (-1), 1) := by decide +kernel
theorem dL_law_53 : decode cL_law 53 = .ok (.if_icmp .ne 55, 3) := by decide +kernel
theorem dL_law_56 : decode cL_law 56 = .ok (.aload_n 1, 1) := by decide +kernel
theorem dL_law_57 : decode cL_law 57 = .ok (.iconst (-1), 1) := by decide +kernel
theorem dL_law_58 : decode cL_law 58 = .ok (.invokevirtual 48, 3) := by decide +kernel
theorem dL_law_61 : decode cL_law 61 = .ok (.bipush (-2), 2) := by decide +kernel
theorem dL_law_63 : decode cL_law 63 = .ok (.if_icmp .ne 45, 3) := by decide +kernel
theorem dL_law_66 : decode cL_law 66 = .ok (.aload_n 1, 1) := by decide +kernel
theorem dL_law_67 : decode cL_law 67 = .ok (.bipush 48, 2) := by decide +kernel
theorem dL_law_69 : decode cL_law 69 = .ok (.invokevirtual 48, 3) := by decide +kernel
theorem dL_law_72 : decode cL_law 72 = .ok (.bipush (-5), 2) := by decide +kernel
theorem dL_law_74 : decode cL_law 74 = .ok (.if_icmp .ne 34, 3) := by decide +kernel
theorem dL_law_77 : decode cL_law 77 = .ok (.aload_n 1, 1) := by decide +kernel
theorem dL_law_78 : decode cL_law 78 = .ok (.iconst 4, 1) := by decide +kernel
theorem dL_law_79 : decode cL_law 79 = .ok (.iconst 0, 1) := by decide +kernel
theorem dL_law_80 : decode cL_law 80 = .ok (.invokevirtual 30, 3) := by decide +kernel
theorem dL_law_83 : decode cL_law 83 = .ok (.iconst (-1), 1) := by decide +kernel
theorem dL_law_84 : decode cL_law 84 = .ok (.if_icmp .ne 24, 3) := by decide +kernel
theorem dL_law_87 : decode cL_law 87 = .ok (.aload_n 1, 1) := by decide +kernel
theorem dL_law_88 : decode cL_law 88 = .ok (.iconst 3, 1) := by decide +kernel
theorem dL_law_89 : decode cL_law 89 = .ok (.aload_n 0, 1) := by decide +kernel
theorem dL_law_90 : decode cL_law 90 = .ok (.iconst 0, 1) := by decide +kernel
theorem dL_law_91 : decode cL_law 91 = .ok (.invokestatic 106, 3) := by decide +kernel
theorem dL_law_94 : decode cL_law 94 = .ok (.bipush 9, 2) := by decide +kernel
theorem dL_law_96 : decode cL_law 96 = .ok (.invokestatic 51, 3) := by decide +kernel
theorem dL_law_99 : decode cL_law 99 = .ok (.iadd, 1) := by decide +kernel
theorem dL_law_100 : decode cL_law 100 = .ok (.invokevirtual 89, 3) := by decide +kernel
theorem dL_law_103 : decode cL_law 103 = .ok (.bipush 30, 2) := by decide +kernel
theorem dL_law_105 : decode cL_law 105 = .ok (.if_icmp .eq 5, 3) := by decide +kernel
theorem dL_law_108 : decode cL_law 108 = .ok (.iconst 0, 1) := by decide +kernel
theorem dL_law_109 : decode cL_law 109 = .ok (.ireturn, 1) := by decide +kernel
theorem dL_law_110 : decode cL_law 110 = .ok (.iconst 1, 1) := by decide +kernel
theorem dL_law_111 : decode cL_law 111 = .ok (.istore_n 2, 1) := by decide +kernel
theorem dL_law_112 : decode cL_law 112 = .ok (.iload_n 2, 1) := by decide +kernel
theorem dL_law_113 : decode cL_law 113 = .ok (.bipush 22, 2) := by decide +kernel
theorem dL_law_115 : decode cL_law 115 = .ok (.if_icmp .ge 156, 3) := by decide +kernel
theorem dL_law_118 : decode cL_law 118 = .ok (.aload_n 0, 1) := by decide +kernel
theorem dL_law_119 : decode cL_law 119 = .ok (.iconst 2, 1) := by decide +kernel
theorem dL_law_120 : decode cL_law 120 = .ok (.iload_n 2, 1) := by decide +kernel
theorem dL_law_121 : decode cL_law 121 = .ok (.imul, 1) := by decide +kernel
theorem dL_law_122 : decode cL_law 122 = .ok (.iconst 1, 1) := by decide +kernel
theorem dL_law_123 : decode cL_law 123 = .ok (.isub, 1) := by decide +kernel
theorem dL_law_124 : decode cL_law 124 = .ok (.invokestatic 106, 3) := by decide +kernel
theorem dL_law_127 : decode cL_law 127 = .ok (.istore_n 3, 1) := by decide +kernel
theorem dL_law_128 : decode cL_law 128 = .ok (.aload_n 0, 1) := by decide +kernel
theorem dL_law_129 : decode cL_law 129 = .ok (.iconst 2, 1) := by decide +kernel
theorem dL_law_130 : decode cL_law 130 = .ok (.iload_n 2, 1) := by decide +kernel
theorem dL_law_131 : decode cL_law 131 = .ok (.imul, 1) := by decide +kernel
theorem dL_law_132 : decode cL_law 132 = .ok (.invokestatic 106, 3) := by decide +kernel
theorem dL_law_135 : decode cL_law 135 = .ok (.istore 4, 2) := by decide +kernel
theorem dL_law_137 : decode cL_law 137 = .ok (.iload_n 3, 1) := by decide +kernel
theorem dL_law_138 : decode cL_law 138 = .ok (.bipush 12, 2) := by decide +kernel
theorem dL_law_140 : decode cL_law 140 = .ok (.ishr, 1) := by decide +kernel
theorem dL_law_141 : decode cL_law 141 = .ok (.bipush 12, 2) := by decide +kernel
theorem dL_law_143 : decode cL_law 143 = .ok (.invokestatic 51, 3) := by decide +kernel
theorem dL_law_146 : decode cL_law 146 = .ok (.istore 5, 2) := by decide +kernel
theorem dL_law_148 : decode cL_law 148 = .ok (.aload_n 1, 1) := by decide +kernel
theorem dL_law_149 : decode cL_law 149 = .ok (.bipush 12, 2) := by decide +kernel
theorem dL_law_151 : decode cL_law 151 = .ok (.invokevirtual 13, 3) := by decide +kernel
theorem dL_law_154 : decode cL_law 154 = .ok (.istore 6, 2) := by decide +kernel
theorem dL_law_156 : decode cL_law 156 = .ok (.iload 4, 2) := by decide +kernel
theorem dL_law_158 : decode cL_law 158 = .ok (.ldc 110, 2) := by decide +kernel
theorem dL_law_160 : decode cL_law 160 = .ok (.iand, 1) := by decide +kernel
theorem dL_law_161 : decode cL_law 161 = .ok (.ifCond .ne 13, 3) := by decide +kernel
theorem dL_law_164 : decode cL_law 164 = .ok (.iload 6, 2) := by decide +kernel
theorem dL_law_166 : decode cL_law 166 = .ok (.iconst 4, 1) := by decide +kernel
theorem dL_law_167 : decode cL_law 167 = .ok (.if_icmp .ge 7, 3) := by decide +kernel
theorem dL_law_170 : decode cL_law 170 = .ok (.iconst 1, 1) := by decide +kernel
theorem dL_law_171 : decode cL_law 171 = .ok (.goto 4, 3) := by decide +kernel
theorem dL_law_174 : decode cL_law 174 = .ok (.iconst 0, 1) := by decide +kernel
theorem dL_law_175 : decode cL_law 175 = .ok (.istore 7, 2) := by decide +kernel
theorem dL_law_177 : decode cL_law 177 = .ok (.iload 7, 2) := by decide +kernel
theorem dL_law_179 : decode cL_law 179 = .ok (.ifCond .eq 10, 3) := by decide +kernel
theorem dL_law_182 : decode cL_law 182 = .ok (.aload_n 1, 1) := by decide +kernel
theorem dL_law_183 : decode cL_law 183 = .ok (.invokestatic 111, 3) := by decide +kernel
theorem dL_law_186 : decode cL_law 186 = .ok (.goto 4, 3) := by decide +kernel
theorem dL_law_189 : decode cL_law 189 = .ok (.lconst 0, 1) := by decide +kernel
theorem dL_law_190 : decode cL_law 190 = .ok (.lstore 8, 2) := by decide +kernel
theorem dL_law_192 : decode cL_law 192 = .ok (.aload_n 1, 1) := by decide +kernel
theorem dL_law_193 : decode cL_law 193 = .ok (.iload 5, 2) := by decide +kernel
theorem dL_law_195 : decode cL_law 195 = .ok (.iload_n 3, 1) := by decide +kernel
theorem dL_law_196 : decode cL_law 196 = .ok (.iload 4, 2) := by decide +kernel
theorem dL_law_198 : decode cL_law 198 = .ok (.invokestatic 115, 3) := by decide +kernel
theorem dL_law_201 : decode cL_law 201 = .ok (.ifCond .eq 25, 3) := by decide +kernel
theorem dL_law_204 : decode cL_law 204 = .ok (.aload_n 1, 1) := by decide +kernel
theorem dL_law_205 : decode cL_law 205 = .ok (.invokestatic 119, 3) := by decide +kernel
theorem dL_law_208 : decode cL_law 208 = .ok (.ifCond .eq 18, 3) := by decide +kernel
theorem dL_law_211 : decode cL_law 211 = .ok (.aload_n 1, 1) := by decide +kernel
theorem dL_law_212 : decode cL_law 212 = .ok (.invokestatic 123, 3) := by decide +kernel
theorem dL_law_215 : decode cL_law 215 = .ok (.ifCond .eq 11, 3) := by decide +kernel
theorem dL_law_218 : decode cL_law 218 = .ok (.aload_n 1, 1) := by decide +kernel
theorem dL_law_219 : decode cL_law 219 = .ok (.iconst 3, 1) := by decide +kernel
theorem dL_law_220 : decode cL_law 220 = .ok (.invokestatic 126, 3) := by decide +kernel
theorem dL_law_223 : decode cL_law 223 = .ok (.ifCond .ne 5, 3) := by decide +kernel
theorem dL_law_226 : decode cL_law 226 = .ok (.iconst 0, 1) := by decide +kernel
theorem dL_law_227 : decode cL_law 227 = .ok (.ireturn, 1) := by decide +kernel
theorem dL_law_228 : decode cL_law 228 = .ok (.iload 7, 2) := by decide +kernel
theorem dL_law_230 : decode cL_law 230 = .ok (.ifCond .eq 35, 3) := by decide +kernel
theorem dL_law_233 : decode cL_law 233 = .ok (.aload_n 1, 1) := by decide +kernel
theorem dL_law_234 : decode cL_law 234 = .ok (.bipush 12, 2) := by decide +kernel
theorem dL_law_236 : decode cL_law 236 = .ok (.invokevirtual 13, 3) := by decide +kernel
theorem dL_law_239 : decode cL_law 239 = .ok (.iload 6, 2) := by decide +kernel
theorem dL_law_241 : decode cL_law 241 = .ok (.if_icmp .eq 24, 3) := by decide +kernel
theorem dL_law_244 : decode cL_law 244 = .ok (.aload_n 1, 1) := by decide +kernel
theorem dL_law_245 : decode cL_law 245 = .ok (.invokevirtual 96, 3) := by decide +kernel
theorem dL_law_248 : decode cL_law 248 = .ok (.iload 6, 2) := by decide +kernel
theorem dL_law_250 : decode cL_law 250 = .ok (.if_icmp .ne 13, 3) := by decide +kernel
theorem dL_law_253 : decode cL_law 253 = .ok (.aload_n 1, 1) := by decide +kernel
theorem dL_law_254 : decode cL_law 254 = .ok (.invokestatic 111, 3) := by decide +kernel
theorem dL_law_257 : decode cL_law 257 = .ok (.lload 8, 2) := by decide +kernel
theorem dL_law_259 : decode cL_law 259 = .ok (.lcmp, 1) := by decide +kernel
theorem dL_law_260 : decode cL_law 260 = .ok (.ifCond .eq 5, 3) := by decide +kernel
theorem dL_law_263 : decode cL_law 263 = .ok (.iconst 0, 1) := by decide +kernel
theorem dL_law_264 : decode cL_law 264 = .ok (.ireturn, 1) := by decide +kernel
theorem dL_law_265 : decode cL_law 265 = .ok (.iinc 2 1, 3) := by decide +kernel
theorem dL_law_268 : decode cL_law 268 = .ok (.goto (-156), 3) := by decide +kernel
theorem dL_law_271 : decode cL_law 271 = .ok (.iconst 1, 1) := by decide +kernel
theorem dL_law_272 : decode cL_law 272 = .ok (.ireturn, 1) := by decide +kernel
end
section
/-! THE LAYER: a world as a list of cells up to order, contracts with a free post, and one row for each kind of call -/
abbrev KT : Type := ClassId × ClassId × ClassId
abbrev kTy (k : KT) : List (ClassId × FieldType) := [(k.1, .int), (k.2.1, .boolean), (k.2.2, .object RX1)]
def bi : Bool → Int32
  | true => 1
  | false => 0
theorem bi_t : bi true = 1 := rfl
theorem bi_f : bi false = 0 := rfl
theorem bi_nar (b : Bool) : narrow .boolean (.int (bi b)) = .int (bi b) := by cases b <;> rfl
theorem bi_ne (b : Bool) : ¬ bi b = 0 ↔ b = true := by cases b <;> simp [bi]
theorem bi_eq (b : Bool) : bi b = 0 ↔ b = false := by cases b <;> simp [bi]
def nWs : List Cond := [.methodLinkNest RX1 73 yX3_isSector RX3, .methodLinkNest RX1 76 yX3_placeOf RX3, .methodLinkNest RX1 80 yX3_headOf RX3, .methodLinkNest RX1 101 yX3_stepsBetween RX3, .methodLinkNest RX3 31 yX0_init RX3]
def Kx (B : va_G) (k : KT) (U : State) : Prop := va_K B vwCl (kTy k) U ∧ (∀ w ∈ nWs, va_Nw w U) ∧ va_AO RX1 U
theorem nWs_form : ∀ w ∈ nWs, ∃ a i x h, w = .methodLinkNest a i x h := by
  intro w hw
  simp only [nWs, List.mem_cons, List.not_mem_nil, or_false] at hw
  rcases hw with rfl | rfl | rfl | rfl | rfl <;> exact ⟨_, _, _, _, rfl⟩
theorem Kx.warm {B : va_G} {k : KT} {s U : State} (hW : s.WarmedH U.vm) (h : Kx B k s) : Kx B k U := by
  refine ⟨va_K.moved hW.alike h.1, fun w hw => ?_, va_AO.moved hW.alike h.2.2⟩
  obtain ⟨a, i, x, g, rfl⟩ := nWs_form w hw
  exact va_Nw.warmM hW (h.2.1 _ hw)
theorem Kx.same {B : va_G} {k : KT} {s U : State} (hv : s.vm = U.vm) (h : Kx B k s) : Kx B k U := by
  refine ⟨va_K.moved (by rw [hv]; exact Vm.Alike.refl U.vm) h.1, fun w hw => ?_, va_AO.moved (by rw [hv]; exact Vm.Alike.refl U.vm) h.2.2⟩
  obtain ⟨a, i, x, g, rfl⟩ := nWs_form w hw
  exact va_Nw.same rfl hv (h.2.1 _ hw)
/-! worlds up to order -/
theorem va_P_mem {D : va_G} {cl : List vw_C} {ws : va_W} {H : Heap} : va_P D cl ws H ↔ ∀ q ∈ ws, va_at D cl q H := by
  constructor
  · intro h q hq
    obtain ⟨i, hi⟩ := List.getElem?_of_mem hq
    exact h i q hi
  · intro h i q hi
    exact h q (List.mem_of_getElem? hi)
theorem va_D_nd {A : Nat → Prop} : ∀ {ws : va_W}, va_D A ws ↔ (ws.map (·.1)).Nodup ∧ ∀ q ∈ ws, A q.1 := by
  intro ws
  constructor
  · intro h
    refine ⟨?_, fun q hq => ?_⟩
    · rw [List.nodup_iff_pairwise_ne, List.pairwise_iff_getElem]
      intro i j hi hj hij e
      simp only [List.getElem_map] at e
      have hi' : i < ws.length := by simpa using hi
      have hj' : j < ws.length := by simpa using hj
      have := h.1 i j ws[i] ws[j] (List.getElem?_eq_getElem hi') (List.getElem?_eq_getElem hj') e
      omega
    · obtain ⟨i, hi⟩ := List.getElem?_of_mem hq
      exact h.2 i q hi
  · intro h
    refine ⟨fun i j p q hi hj e => ?_, fun i q hi => h.2 q (List.mem_of_getElem? hi)⟩
    obtain ⟨hi', rfl⟩ := List.getElem?_eq_some_iff.mp hi
    obtain ⟨hj', rfl⟩ := List.getElem?_eq_some_iff.mp hj
    have hn := h.1
    rw [List.nodup_iff_pairwise_ne, List.pairwise_iff_getElem] at hn
    rcases Nat.lt_trichotomy i j with q | q | q
    · have z := hn i j (by simpa using hi') (by simpa using hj') q
      rw [List.getElem_map, List.getElem_map] at z
      exact absurd e z
    · exact q
    · have z := hn j i (by simpa using hj') (by simpa using hi') q
      rw [List.getElem_map, List.getElem_map] at z
      exact absurd e.symm z
def Wd (B : va_G) (A : Nat → Prop) (H0 : Heap) (ws : va_W) (H : Heap) (locs : List Loc) : Prop := va_P B vwCl ws H ∧ va_D A ws ∧ va_S A H0 H locs
theorem Wd.perm {B : va_G} {A : Nat → Prop} {H0 H : Heap} {ws ws' : va_W} {locs : List Loc} (h : Wd B A H0 ws H locs) (hp : ws.Perm ws') : Wd B A H0 ws' H locs := by
  refine ⟨va_P_mem.mpr fun q hq => va_P_mem.mp h.1 q (hp.mem_iff.mpr hq), va_D_nd.mpr ?_, h.2.2⟩
  obtain ⟨h1, h2⟩ := va_D_nd.mp h.2.1
  exact ⟨(hp.map _).nodup_iff.mp h1, fun q hq => h2 q (hp.mem_iff.mpr hq)⟩
theorem pm_all (ws : va_W) : ws.Perm (ws ++ []) := by rw [List.append_nil]
theorem pm_non (ws : va_W) : ws.Perm (([] : va_W) ++ ws) := List.Perm.refl _
theorem pm_mid (X Y Z : va_W) : (X ++ (Y ++ Z)).Perm (Y ++ (X ++ Z)) := by
  rw [← List.append_assoc, ← List.append_assoc]
  exact List.Perm.append_right Z List.perm_append_comm
theorem pm_two (X Y Z V U : va_W) : (X ++ (Y ++ (Z ++ (V ++ U)))).Perm ((Y ++ V) ++ (X ++ (Z ++ U))) := by
  refine (pm_mid X Y _).trans ?_
  rw [List.append_assoc]
  refine List.Perm.append_left Y ?_
  refine (List.Perm.append_left X (pm_mid Z V U)).trans (pm_mid X V _)
theorem pm_owt (X Y Z V U : va_W) : (X ++ (Y ++ (Z ++ (V ++ U)))).Perm ((V ++ Y) ++ (X ++ (Z ++ U))) :=
  (pm_two X Y Z V U).trans (List.Perm.append_right _ List.perm_append_comm)
/-- the frame: behind a call, what came back beside the rest -/
theorem fr_join {A : Nat → Prop} {B : va_G} {wc wr w1 : va_W} {H H1 : Heap} (hP : va_P B vwCl (wc ++ wr) H) (hD : va_D A (wc ++ wr)) (hk : ∀ q : Nat, q < H.size → ¬ va_A wc H.size q → H1[q]? = H[q]?) (hF : ∀ q, va_A wc H.size q → A q) (hP1 : va_P B vwCl w1 H1) (hD1 : va_D (va_A wc H.size) w1) : va_P B vwCl (w1 ++ wr) H1 ∧ va_D A (w1 ++ wr) := by
  have hPm := va_P_mem.mp hP
  obtain ⟨hn, hAm⟩ := va_D_nd.mp hD
  have hn0 := hn
  rw [List.map_append, List.nodup_append] at hn
  have apart : ∀ q ∈ wr, q.1 < H.size ∧ ¬ va_A wc H.size q.1 := by
    intro q hq
    have hl := (hPm q (List.mem_append_right _ hq)).lt
    refine ⟨hl, fun h => ?_⟩
    rcases h with ⟨k2, e, h⟩ | h
    · exact hn.2.2 q.1 (List.mem_map.mpr ⟨(q.1, e), List.mem_of_getElem? h, rfl⟩) q.1 (List.mem_map.mpr ⟨q, hq, rfl⟩) rfl
    · omega
  obtain ⟨hn1, hA1⟩ := va_D_nd.mp hD1
  refine ⟨va_P_mem.mpr fun q hq => ?_, va_D_nd.mpr ⟨?_, fun q hq => ?_⟩⟩
  · rcases List.mem_append.mp hq with h | h
    · exact va_P_mem.mp hP1 q h
    · obtain ⟨g1, g2⟩ := apart q h
      exact (hPm q (List.mem_append_right _ h)).kept (hk q.1 g1 g2)
  · rw [List.map_append, List.nodup_append]
    refine ⟨hn1, hn.2.1, fun a ha b hb e => ?_⟩
    obtain ⟨x, hx, rfl⟩ := List.mem_map.mp ha
    obtain ⟨y, hy, rfl⟩ := List.mem_map.mp hb
    exact (apart y hy).2 (by rw [← e]; exact hA1 x hx)
  · rcases List.mem_append.mp hq with h | h
    · exact hF q.1 (hA1 q h)
    · exact hAm q (List.mem_append_right _ h)
theorem pm_pick {ws : va_W} (i : Nat) {q : Nat × va_E} (h : ws[i]? = some q) : ws.Perm ([q] ++ ws.eraseIdx i) := by
  obtain ⟨hi, rfl⟩ := List.getElem?_eq_some_iff.mp h
  rw [List.eraseIdx_eq_take_drop_succ]
  have e : ws = ws.take i ++ ([ws[i]] ++ ws.drop (i + 1)) := by
    rw [List.singleton_append, List.getElem_cons_drop, List.take_append_drop]
  exact (List.Perm.of_eq e).trans (pm_mid _ _ _)
theorem pm_pick2 {ws : va_W} (i j : Nat) {q r : Nat × va_E} (h : ws[i]? = some q) (h2 : (ws.eraseIdx i)[j]? = some r) : ws.Perm ([q, r] ++ (ws.eraseIdx i).eraseIdx j) :=
  (pm_pick i h).trans (List.Perm.cons q (pm_pick j h2))
theorem sw_ne {x j : Int32} {z : Int} (h : ¬ x = j) (e : j.toInt = z) : x.toInt ≠ z := fun q => h (Int32.toInt_inj.mp (q.trans e.symm))
/-! contracts -/
def pre (B : va_G) (k : KT) (av : List Value) (ws : va_W) (sz : Nat) : Array Value → State → Prop := va_Pc av (fun U => U.heap.size = sz ∧ va_P B vwCl ws U.heap ∧ Kx B k U ∧ va_D (fun _ => True) ws)
def aft (B : va_G) (A : Nat → Prop) {S : Type} (cells : S → va_W) : S → State → Prop := fun u t => va_P B vwCl (cells u) t.heap ∧ va_D A (cells u)
def Cti (l : Launch) (y : MethodName) (wds : List Cond) (rm : Room) (mc ms : Nat) (B : va_G) (k : KT) (av : List Value) (ws : va_W) {S : Type} (cells : S → va_W) (post : Int32 → S → Prop) : Prop :=
  ∀ sz : Nat, Met l y wds rm (pre B k av ws sz) (va_Qi post (aft B (va_A ws sz) cells) (va_A ws sz)) mc ms (va_A ws sz)
def Ctv (l : Launch) (y : MethodName) (wds : List Cond) (rm : Room) (mc ms : Nat) (B : va_G) (k : KT) (av : List Value) (ws : va_W) {S : Type} (cells : S → va_W) (post : S → Prop) : Prop :=
  ∀ sz : Nat, Met l y wds rm (pre B k av ws sz) (va_Qv post (aft B (va_A ws sz) cells) (va_A ws sz)) mc ms (va_A ws sz)
def bpost {S : Type} (post : Bool → S → Prop) : Int32 → S → Prop := fun r u => ∃ b : Bool, r = bi b ∧ post b u
theorem pre_blind {B : va_G} {k : KT} {av : List Value} {ws : va_W} {sz : Nat} : FrameBlind (pre B k av ws sz) := by
  intro a U g mk h
  obtain ⟨h1, h2, h3, h4, h5⟩ := h
  exact ⟨h1, h2, h3, Kx.same (s := U) (U := U.calling g mk a) rfl h4, h5⟩
/-- what stays all through a method's walk -/
def Cx (p : Program) (s : State) (m : MethodId) (args : Array Value) (meth : Method) (c : Code) (cc : ByteArray) (nL : Nat) (Ts : List Cond) (own nm : String) (ret : Option FieldType) (B : va_G) (k : KT) (A : Nat → Prop) : Prop :=
  p.tables.exec = Jvm.exec ∧ c.code = cc ∧ c.maxLocals = nL ∧ s.vm.findClass own = some m.cls ∧ (∀ w ∈ Ts, w.before args s = true) ∧ meth.sig.returnType = ret ∧ meth.locks = false ∧ (∀ q, s.heap.size ≤ q → A q) ∧ Kx B k s ∧ meth.name = nm
def Qi (below : List Frame) (args : Array Value) (s : State) (B : va_G) (A : Nat → Prop) {S : Type} (cells : S → va_W) (post : Int32 → S → Prop) (mc ms : Nat) : State → Prop := MQ below (va_Qi post (aft B A cells) A) args s mc ms A
def Qv (below : List Frame) (args : Array Value) (s : State) (B : va_G) (A : Nat → Prop) {S : Type} (cells : S → va_W) (post : S → Prop) (mc ms : Nat) : State → Prop := MQ below (va_Qv post (aft B A cells) A) args s mc ms A
/-- what a call needs to know of a method, once and for all -/
def MI (y : MethodName) (wds : List Cond) (bytes : ByteArray) (maxL : Nat) (rt : Option FieldType) (n : Nat) : Prop :=
  (∃ ws', wds = Cond.code y bytes maxL rt :: ws') ∧ y.cls ≠ "java/lang/invoke/MethodHandle" ∧ y.cls ≠ "java/lang/invoke/VarHandle" ∧ (parseMethodDescriptor y.desc).map (fun d => d.parameters.length) = some n ∧ plainName y.cls = true
section LY
variable {p : Program} {l : Launch} {e : Env} {R : Room} {s : State} {m : MethodId} {args : Array Value} {below : List Frame} {meth : Method} {c : Code} {H : Heap} {locs : List Loc} {cl sl : Nat} {Q : State → Prop}
variable {cc : ByteArray} {pc nL : Nat} {ls : Array Slot} {rest st0 : List Value} {Ts : List Cond} {own nm : String} {ret : Option FieldType} {B : va_G} {k : KT} {A : Nat → Prop} {ws wc wr : va_W} {lv : List (Nat × Value)} {S : Type}
theorem Cti.of {y : MethodName} {wds : List Cond} {rm : Room} {mc ms : Nat} {av : List Value} {cells : S → va_W} {post : Int32 → S → Prop} {maxL n : Nat} {rt : FieldType} (M : MI y wds cc maxL (some rt) n) (hlen : (lg_sl av).length ≤ maxL)
    (body : ∀ p e s m args below meth c A, Cx p s m args meth c cc maxL wds y.cls y.name (some rt) B k A → Wd B A s.heap ws s.heap [] → ∀ ls, lv_has ls maxL (lv_args 0 av) → W p l e rm s m args below meth c s.heap [] 0 0 (Qi below args s B A cells post mc ms) (F0 m 0 ls [])) : Cti l y wds rm mc ms B k av ws cells post := by
  intro sz
  obtain ⟨⟨ws', hw⟩, -, -, -, hy⟩ := M
  refine Met.ofW (cc := cc) (maxL := maxL) (ret := some rt) hy hw ?_
  intro p e s m args below meth c s₁ Bd hml hv
  obtain ⟨rfl, hsz, hP, hK, hD0⟩ := hv
  have hx := Bd.exec
  have hb := Bd.bytes
  have hr := Bd.returns
  have hts := atoms_spec (ws := wds) Bd.pre
  have hown : s.vm.findClass y.cls = some m.cls := findClass_of_methodNamed Bd.named
  have hlocks := Bd.notSynchronized
  have hnm : meth.name = y.name := (name_of_methodNamed Bd.named Bd.method).1
  subst hsz
  have hD := hD0.self (sz := s.heap.size)
  generalize hAe : va_A ws s.heap.size = A at hD ⊢
  have hA : ∀ q : Nat, s.heap.size ≤ q → A q := fun q h => by rw [← hAe]; exact Or.inr h
  have hl := lv_entry av (n := maxL) hlen
  rw [lg_entry_eq]
  generalize (lg_sl av ++ List.replicate (maxL - (lg_sl av).length) Slot.unset).toArray = ls at hl ⊢
  exact body p e s m av.toArray below meth c A ⟨hx, hb, hml, hown, hts, hr, hlocks, hA, hK, hnm⟩ ⟨hP, hD, va_S.rf⟩ ls hl
theorem Ctv.of {y : MethodName} {wds : List Cond} {rm : Room} {mc ms : Nat} {av : List Value} {cells : S → va_W} {post : S → Prop} {maxL n : Nat} (M : MI y wds cc maxL none n) (hlen : (lg_sl av).length ≤ maxL)
    (body : ∀ p e s m args below meth c A, Cx p s m args meth c cc maxL wds y.cls y.name none B k A → Wd B A s.heap ws s.heap [] → ∀ ls, lv_has ls maxL (lv_args 0 av) → W p l e rm s m args below meth c s.heap [] 0 0 (Qv below args s B A cells post mc ms) (F0 m 0 ls [])) : Ctv l y wds rm mc ms B k av ws cells post := by
  intro sz
  obtain ⟨⟨ws', hw⟩, -, -, -, hy⟩ := M
  refine Met.ofW (cc := cc) (maxL := maxL) (ret := none) hy hw ?_
  intro p e s m args below meth c s₁ Bd hml hv
  obtain ⟨rfl, hsz, hP, hK, hD0⟩ := hv
  have hx := Bd.exec
  have hb := Bd.bytes
  have hr := Bd.returns
  have hts := atoms_spec (ws := wds) Bd.pre
  have hown : s.vm.findClass y.cls = some m.cls := findClass_of_methodNamed Bd.named
  have hlocks := Bd.notSynchronized
  have hnm : meth.name = y.name := (name_of_methodNamed Bd.named Bd.method).1
  subst hsz
  have hD := hD0.self (sz := s.heap.size)
  generalize hAe : va_A ws s.heap.size = A at hD ⊢
  have hA : ∀ q : Nat, s.heap.size ≤ q → A q := fun q h => by rw [← hAe]; exact Or.inr h
  have hl := lv_entry av (n := maxL) hlen
  rw [lg_entry_eq]
  generalize (lg_sl av ++ List.replicate (maxL - (lg_sl av).length) Slot.unset).toArray = ls at hl ⊢
  exact body p e s m av.toArray below meth c A ⟨hx, hb, hml, hown, hts, hr, hlocks, hA, hK, hnm⟩ ⟨hP, hD, va_S.rf⟩ ls hl
/-! ends -/
theorem r_i {cells : S → va_W} {post : Int32 → S → Prop} {r : Int32} (C : Cx p s m args meth c cc nL Ts own nm (some .int) B k A) (hd : Wd B A s.heap ws H locs) (hdg : decode cc pc = .ok (.ireturn, 1)) (u : S) (hu : ws = cells u) (hp : post r u) : W p l e R s m args below meth c H locs cl sl (Qi below args s B A cells post cl sl) (F0 m pc ls [.int r]) := by
  obtain ⟨hx, hb, -, -, -, hr, hlocks, -⟩ := C
  subst hu
  exact W.iret hx hb hr (fun t ht hW => ⟨⟨r, u, rfl, hp, by rw [ht]; exact hd.1, hd.2.1⟩, hd.2.2.F ht⟩) hd.2.2.2.2 hdg hlocks
theorem r_z {cells : S → va_W} {post : Bool → S → Prop} (b : Bool) (C : Cx p s m args meth c cc nL Ts own nm (some .boolean) B k A) (hd : Wd B A s.heap ws H locs) (hdg : decode cc pc = .ok (.ireturn, 1)) (u : S) (hu : ws = cells u) (hp : post b u) : W p l e R s m args below meth c H locs cl sl (Qi below args s B A cells (bpost post) cl sl) (F0 m pc ls [.int (bi b)]) := by
  obtain ⟨hx, hb, -, -, -, hr, hlocks, -⟩ := C
  subst hu
  exact W.zret hx hb hr (bi_nar b) (fun t ht hW => ⟨⟨bi b, u, rfl, ⟨b, rfl, hp⟩, by rw [ht]; exact hd.1, hd.2.1⟩, hd.2.2.F ht⟩) hd.2.2.2.2 hdg hlocks
theorem r_v {cells : S → va_W} {post : S → Prop} (C : Cx p s m args meth c cc nL Ts own nm none B k A) (hd : Wd B A s.heap ws H locs) (hdg : decode cc pc = .ok (.return_, 1)) (u : S) (hu : ws = cells u) (hp : post u) : W p l e R s m args below meth c H locs cl sl (Qv below args s B A cells post cl sl) (F0 m pc ls []) := by
  obtain ⟨hx, hb, -, -, -, hr, hlocks, -⟩ := C
  subst hu
  exact W.vret hx hb hr (fun t ht hW => ⟨⟨u, rfl, hp, by rw [ht]; exact hd.1, hd.2.1⟩, hd.2.2.F ht⟩) hd.2.2.2.2 hdg hlocks
/-! fields and arrays -/
theorem g_get (C : Cx p s m args meth c cc nL Ts own nm ret B k A) (hd : Wd B A s.heap ws H locs) {a : Nat} {Cn : String} {T : u_T} {N index : Nat} (hin : ∀ w ∈ u_ws Cn T N, w ∈ Ts) (q0 ci : Nat) {fs : List Value} (he : ws[q0]? = some (a, .inr (ci, fs))) (hc : vwCl[ci]? = some (Cn, T, N)) (j : Nat) (hj : j < N) (hlink : Cond.fieldLink own index (T j).1 (T j).2.1 (T j).2.2.1 ∈ Ts) {v : Value} (hv : fs[j]? = some v) (hdg : decode cc pc = .ok (.getfield index, 3))
    (kk : W p l e R s m args below meth c H locs cl sl Q (F0 m (pc + 3) ls (v :: rest))) : W p l e R s m args below meth c H locs cl sl Q (F0 m pc ls (.ref a :: rest)) := by
  obtain ⟨hx, hb, -, ho, hts, -, -, -, hK, -⟩ := C
  exact va_get hx hb hts hin ho hK.1 hd.1 q0 he hc j hj (hts _ hlink) (fun _ h9 => h9) hv hdg kk
theorem g_put (C : Cx p s m args meth c cc nL Ts own nm ret B k A) (hd : Wd B A s.heap ws H locs) {a : Nat} {Cn : String} {T : u_T} {N index : Nat} (hin : ∀ w ∈ u_ws Cn T N, w ∈ Ts) (ty0 : Nat → FieldType) (hty : ∀ k, k < N → parseFieldDescriptor (T k).2.2.1 = some (ty0 k)) (hnm : ∀ a, a < N → ∀ b, b < N → a ≠ b → (T a).2.1 ≠ (T b).2.1) (q0 ci : Nat) {fs : List Value} (he : ws[q0]? = some (a, .inr (ci, fs))) (hc : vwCl[ci]? = some (Cn, T, N)) (j : Nat) (hj : j < N) (hlink : Cond.fieldLink own index (T j).1 (T j).2.1 (T j).2.2.1 ∈ Ts) (hfin : (T j).2.2.2 = false) {v : Value} (hn : narrow (ty0 j) v = v) (hfit : fits (ty0 j) v = true) (hlf : j + 1 ≤ fs.length) (ws' : va_W) (hset : ws.set q0 (a, .inr (ci, fs.set j v)) = ws') (hdg : decode cc pc = .ok (.putfield index, 3))
    (kk : ∀ (H1 : Heap) (locs1 : List Loc), Wd B A s.heap ws' H1 locs1 → W p l e R s m args below meth c H1 locs1 cl sl Q (F0 m (pc + 3) ls rest)) : W p l e R s m args below meth c H locs cl sl Q (F0 m pc ls (v :: .ref a :: rest)) := by
  obtain ⟨hx, hb, -, ho, hts, -, -, -, hK, -⟩ := C
  subst hset
  exact va_put hx hb hts hin ty0 hty hnm ho hK.1 hd.1 hd.2.1 hd.2.2 q0 he hc j hj (hts _ hlink) (fun _ h9 => h9) hfin (hty j hj) hn hfit hlf hdg (fun H1 l1 a1 a2 a3 => kk H1 l1 ⟨a1, a2, a3⟩)
theorem g_putF (C : Cx p s m args meth c cc nL Ts own nm ret B k A) (hini : nm = "<init>") (hd : Wd B A s.heap ws H locs) {a : Nat} {T : u_T} {N index : Nat} (hin : ∀ w ∈ u_ws own T N, w ∈ Ts) (ty0 : Nat → FieldType) (hty : ∀ k, k < N → parseFieldDescriptor (T k).2.2.1 = some (ty0 k)) (hnm : ∀ a, a < N → ∀ b, b < N → a ≠ b → (T a).2.1 ≠ (T b).2.1) (q0 ci : Nat) {fs : List Value} (he : ws[q0]? = some (a, .inr (ci, fs))) (hc : vwCl[ci]? = some (own, T, N)) (j : Nat) (hj : j < N) (hlink : Cond.fieldLink own index (T j).1 (T j).2.1 (T j).2.2.1 ∈ Ts) (hfin : (T j).2.2.2 = true) (hdecl : (T j).1 = own) {v : Value} (hn : narrow (ty0 j) v = v) (hfit : fits (ty0 j) v = true) (hlf : j + 1 ≤ fs.length) (ws' : va_W) (hset : ws.set q0 (a, .inr (ci, fs.set j v)) = ws') (hdg : decode cc pc = .ok (.putfield index, 3))
    (kk : ∀ (H1 : Heap) (locs1 : List Loc), Wd B A s.heap ws' H1 locs1 → W p l e R s m args below meth c H1 locs1 cl sl Q (F0 m (pc + 3) ls rest)) : W p l e R s m args below meth c H locs cl sl Q (F0 m pc ls (v :: .ref a :: rest)) := by
  obtain ⟨hx, hb, -, ho, hts, -, -, -, hK, hm⟩ := C
  subst hset
  exact va_putF hx hb hts hin ty0 hty hnm ho hK.1 hd.1 hd.2.1 hd.2.2 q0 he hc j hj (hts _ hlink) (fun _ h9 => h9) hfin (hm.trans hini) hdecl (hty j hj) hn hfit hlf hdg (fun H1 l1 a1 a2 a3 => kk H1 l1 ⟨a1, a2, a3⟩)
theorem g_ild (C : Cx p s m args meth c cc nL Ts own nm ret B k A) (hd : Wd B A s.heap ws H locs) (q0 : Nat) {a n : Nat} {f : Nat → Int32} (ha : ws[q0]? = some (a, .inl (k.1, n, .inl f))) {i : Int32} (hin : vp_in i n) (hdg : decode cc pc = .ok (.iaload, 1))
    (kk : W p l e R s m args below meth c H locs cl sl Q (F0 m (pc + 1) ls (.int (f i.toNatClampNeg) :: rest))) : W p l e R s m args below meth c H locs cl sl Q (F0 m pc ls (.int i :: .ref a :: rest)) :=
  va_iald C.1 C.2.1 C.2.2.2.2.2.2.2.2.1.1 hd.1 q0 0 ha rfl hin hdg kk
theorem g_zld (C : Cx p s m args meth c cc nL Ts own nm ret B k A) (hd : Wd B A s.heap ws H locs) (q0 : Nat) {a n : Nat} {f : Nat → Int32} (ha : ws[q0]? = some (a, .inl (k.2.1, n, .inl f))) {i : Int32} (hin : vp_in i n) (hdg : decode cc pc = .ok (.baload, 1))
    (kk : W p l e R s m args below meth c H locs cl sl Q (F0 m (pc + 1) ls (.int (f i.toNatClampNeg) :: rest))) : W p l e R s m args below meth c H locs cl sl Q (F0 m pc ls (.int i :: .ref a :: rest)) :=
  va_zald C.1 C.2.1 C.2.2.2.2.2.2.2.2.1.1 hd.1 q0 1 ha rfl hin hdg kk
theorem g_qld (C : Cx p s m args meth c cc nL Ts own nm ret B k A) (hd : Wd B A s.heap ws H locs) (q0 : Nat) {a n : Nat} {f : Nat → Option Nat} (ha : ws[q0]? = some (a, .inl (k.2.2, n, .inr (.inr (.inr (.inr f)))))) {i : Int32} (hin : vp_in i n) (hdg : decode cc pc = .ok (.aaload, 1))
    (kk : W p l e R s m args below meth c H locs cl sl Q (F0 m (pc + 1) ls (va_rf (f i.toNatClampNeg) :: rest))) : W p l e R s m args below meth c H locs cl sl Q (F0 m pc ls (.int i :: .ref a :: rest)) :=
  va_aldq C.1 C.2.1 C.2.2.2.2.2.2.2.2.1.1 hd.1 q0 2 ha rfl hin hdg kk
theorem g_ist (C : Cx p s m args meth c cc nL Ts own nm ret B k A) (hd : Wd B A s.heap ws H locs) (q0 : Nat) {a n : Nat} {f : Nat → Int32} (ha : ws[q0]? = some (a, .inl (k.1, n, .inl f))) {i x : Int32} (hin : vp_in i n) (ws' : va_W) (hset : ws.set q0 (a, .inl (k.1, n, .inl (upd f i.toNatClampNeg x))) = ws') (hdg : decode cc pc = .ok (.iastore, 1))
    (kk : ∀ (H1 : Heap) (locs1 : List Loc), Wd B A s.heap ws' H1 locs1 → W p l e R s m args below meth c H1 locs1 cl sl Q (F0 m (pc + 1) ls rest)) : W p l e R s m args below meth c H locs cl sl Q (F0 m pc ls (.int x :: .int i :: .ref a :: rest)) := by
  subst hset
  exact va_iast C.1 C.2.1 C.2.2.2.2.2.2.2.2.1.1 hd.1 hd.2.1 hd.2.2 q0 0 ha rfl hin hdg (fun H1 l1 a1 a2 a3 => kk H1 l1 ⟨a1, a2, a3⟩)
theorem g_zst (C : Cx p s m args meth c cc nL Ts own nm ret B k A) (hd : Wd B A s.heap ws H locs) (q0 : Nat) {a n : Nat} {f : Nat → Int32} (ha : ws[q0]? = some (a, .inl (k.2.1, n, .inl f))) {i : Int32} (b : Bool) (hin : vp_in i n) (ws' : va_W) (hset : ws.set q0 (a, .inl (k.2.1, n, .inl (upd f i.toNatClampNeg (bi b)))) = ws') (hdg : decode cc pc = .ok (.bastore, 1))
    (kk : ∀ (H1 : Heap) (locs1 : List Loc), Wd B A s.heap ws' H1 locs1 → W p l e R s m args below meth c H1 locs1 cl sl Q (F0 m (pc + 1) ls rest)) : W p l e R s m args below meth c H locs cl sl Q (F0 m pc ls (.int (bi b) :: .int i :: .ref a :: rest)) := by
  subst hset
  have hn : vp_nar .boolean (bi b) = bi b := by cases b <;> rfl
  exact va_zast C.1 C.2.1 C.2.2.2.2.2.2.2.2.1.1 hd.1 hd.2.1 hd.2.2 q0 1 ha rfl hin hdg (fun H1 l1 a1 a2 a3 => by rw [hn] at a1 a2; exact kk H1 l1 ⟨a1, a2, a3⟩)
theorem set_l {X Y X' : va_W} {i : Nat} {q : Nat × va_E} (hi : i + 1 ≤ X.length) (h : X.set i q = X') : (X ++ Y).set i q = X' ++ Y := by rw [List.set_append_left _ _ hi, h]
theorem g_cpy (C : Cx p s m args meth c cc nL Ts own nm ret B k A) (hd : Wd B A s.heap ws H locs) (hl : lv_has ls nL lv) (q0 q1 t0 : Nat) {a0 a n0 n1 : Nat} {c0 : ClassId} {f g : Nat → Int32} {ty : FieldType} (ha0 : ws[q0]? = some (a0, .inl (c0, n0, .inl f))) (ha1 : ws[q1]? = some (a, .inl (c0, n1, .inl g))) (ht0 : (kTy k)[t0]? = some (c0, ty)) (hprim : refKind ty = false) (hz : (0 : Int32).toNatClampNeg = 0) {n : Int32} {N index : Nat} (hN : n.toNatClampNeg = N) (hn : ¬ n < 0) (hfit : ∀ i, i < N → fits ty (.int (f i)) = true) (hlink : Cond.methodLink own index arraycopyName ∈ Ts) (hnat : Cond.native arraycopyName ∈ Ts) (hstat : Cond.static arraycopyName ∈ Ts) (hini : Cond.initialized "java/lang/System" ∈ Ts) (hframes : 1 ≤ R.frames) (hlocals : (rest.map fun v => v.category).sum + (nativeFrameWords "java/lang/System" "arraycopy" 5 + 11) ≤ R.locals) (ws' : va_W) (hset : ws.set q1 (a, .inl (c0, n1, .inl (va_cpy f g 0 0 N))) = ws') (hdg : decode cc pc = .ok (.invokestatic index, 3)) (h4 : N ≤ n0) (h5 : N ≤ n1)
    (kk : ∀ (H1 : Heap) (locs1 : List Loc), Wd B A s.heap ws' H1 locs1 → W p l e R s m args below meth c H1 locs1 cl sl Q (F0 m (pc + 3) ls rest)) : W p l e R s m args below meth c H locs cl sl Q (F0 m pc ls (.int n :: .int 0 :: .ref a :: .int 0 :: .ref a0 :: rest)) := by
  subst hset
  subst hN
  obtain ⟨hx, hb, hml, ho, hts, -, -, -, hK, -⟩ := C
  refine va_copyi hx hb (hml.trans hl.1.symm) ho (hts _ hlink) (hts _ hnat) (hts _ hstat) (hts _ hini) hK.1 hd.1 hd.2.1 hd.2.2 q0 q1 t0 t0 ha0 ha1 ht0 ht0 hprim (by decide) (by decide) hn (by rw [hz, Nat.zero_add]; exact h4) (by rw [hz, Nat.zero_add]; exact h5) (fun i hi => by rw [hz, Nat.zero_add]; exact hfit i hi) hframes hlocals hdg (fun H1 l1 a1 a2 a3 => ?_)
  rw [hz] at a1 a2
  exact kk H1 l1 ⟨a1, a2, a3⟩
/-! calls: what a call leaves -/
theorem fr_call {wc w1 : va_W} {H1 : Heap} {locs1 : List Loc} (hA : ∀ q, s.heap.size ≤ q → A q) (hd : Wd B A s.heap (wc ++ wr) H locs) (hk : ∀ q : Nat, q < H.size → ¬ va_A wc H.size q → H1[q]? = H[q]?) (hS : va_S A s.heap H1 locs1) (hP1 : va_P B vwCl w1 H1) (hD1 : va_D (va_A wc H.size) w1) : Wd B A s.heap (w1 ++ wr) H1 locs1 := by
  have hF : ∀ q, va_A wc H.size q → A q := by
    intro q h
    rcases h with ⟨j, e, h⟩ | h
    · exact (va_D_nd.mp hd.2.1).2 (q, e) (List.mem_append_left _ (List.mem_of_getElem? h))
    · exact hA q (Nat.le_trans hd.2.2.1 h)
  obtain ⟨a1, a2⟩ := fr_join hd.1 hd.2.1 hk hF hP1 hD1
  exact ⟨a1, a2, hS⟩
theorem fr_A (hA : ∀ q, s.heap.size ≤ q → A q) (hd : Wd B A s.heap (wc ++ wr) H locs) : ∀ q, va_A wc H.size q → A q := by
  intro q h
  rcases h with ⟨j, e, h⟩ | h
  · exact (va_D_nd.mp hd.2.1).2 (q, e) (List.mem_append_left _ (List.mem_of_getElem? h))
  · exact hA q (Nat.le_trans hd.2.2.1 h)
theorem fr_pre {av : List Value} (hK : Kx B k s) (hd : Wd B A s.heap (wc ++ wr) H locs) : ∀ U : State, U.heap = H → s.WarmedH U.vm → pre B k av wc H.size av.toArray U := by
  intro U hU hW
  refine ⟨rfl, by rw [hU], ?_, Kx.warm hW hK, ?_⟩
  · rw [hU]
    exact va_P_mem.mpr fun q hq => va_P_mem.mp hd.1 q (List.mem_append_left _ hq)
  · obtain ⟨h1, -⟩ := va_D_nd.mp hd.2.1
    rw [List.map_append, List.nodup_append] at h1
    exact va_D_nd.mpr ⟨h1.1, fun _ _ => trivial⟩
theorem fr_cwV {y : MethodName} {wds : List Cond} {bytes : ByteArray} {maxL index n mc ms : Nat} {rt : Option FieldType} {rm : Room} (C : Cx p s m args meth c cc nL Ts own nm ret B k A) (M : MI y wds bytes maxL rt n) (G : GoodIn Ts (wsV own index y.cls y wds)) (hrm : rm.cells = mc ∧ rm.slots = ms) (hR : rm.frames + 1 ≤ R.frames ∧ 8 + (maxL + 11) + rm.locals ≤ R.locals) : CallW R s args own y.cls index y bytes maxL rt wds rm mc ms n := by
  obtain ⟨⟨ws', hw⟩, h1, h2, h3, -⟩ := M
  exact cwV n C.2.2.2.2.1 G hw hrm.1 hrm.2 ⟨rfl, h1, h2, h3⟩ hR
theorem fr_recv {y : MethodName} {b q0 ci : Nat} {q : vw_C} {fs : List Value} (C : Cx p s m args meth c cc nL Ts own nm ret B k A) (hd : Wd B A s.heap ws H locs) (hc : vwCl[ci]? = some q) (hq : q.1 = y.cls) (he : ws[q0]? = some (b, .inr (ci, fs))) : ∃ cell : Cell, H[b]? = some cell ∧ cell.vm.isStatics = false ∧ s.vm.findClass y.cls = some cell.cls := by
  rw [← hq]
  exact va_recv C.2.2.2.2.2.2.2.2.1.1 hd.1 hc he
theorem v_i {y : MethodName} {wds : List Cond} {bytes : ByteArray} {maxL index n b : Nat} {rt : Option FieldType} {rm : Room} {As : List Value} {cells : S → va_W} {post : Int32 → S → Prop} (C : Cx p s m args meth c cc nL Ts own nm ret B k A) (hd : Wd B A s.heap ws H locs) (hl : lv_has ls nL lv) (M : MI y wds bytes maxL rt n) (G : GoodIn Ts (wsV own index y.cls y wds)) (hC : Cti l y wds rm 0 0 B k (.ref b :: As) wc cells post) (hrm : rm.cells = 0 ∧ rm.slots = 0) (hR : rm.frames + 1 ≤ R.frames ∧ 8 + (maxL + 11) + rm.locals ≤ R.locals)
    (hpm : ws.Perm (wc ++ wr)) (out : S → va_W) (hout : ∀ u, (cells u ++ wr).Perm (out u)) (q0 ci : Nat) {fs : List Value} {q : vw_C} (he : ws[q0]? = some (b, .inr (ci, fs))) (hc : vwCl[ci]? = some q) (hq : q.1 = y.cls) (hn : As.length = n) (hst : st0 = As.reverse ++ .ref b :: rest) (hrest : (rest.map fun v => v.category).sum ≤ 8) (hdg : decode cc pc = .ok (.invokevirtual index, 3)) (hf : cl ≤ R.cells ∧ sl ≤ R.slots)
    (kk : ∀ (r : Int32) (u : S) (H1 : Heap) (locs1 : List Loc), post r u → Wd B A s.heap (out u) H1 locs1 → W p l e R s m args below meth c H1 locs1 cl sl Q (F0 m (pc + 3) ls (.int r :: rest))) : W p l e R s m args below meth c H locs cl sl Q (F0 m pc ls st0) := by
  subst hst
  have hd' := hd.perm hpm
  have hA := C.2.2.2.2.2.2.2.1
  refine va_calli (va_runV (As := As) (rest := rest) ⟨C.1, C.2.1, C.2.2.1, C.2.2.2.1, C.2.2.2.2.1⟩ (hC H.size) (fr_cwV C M G hrm hR) ⟨pre_blind, fr_recv C hd hc hq he, fr_pre C.2.2.2.2.2.2.2.2.1 hd'⟩ rfl hn hl.1 rfl (lv_room hrest) hdg hf) hd.2.2 (fun q _ h => fr_A hA hd' q h) (fr_A hA hd') (fun r u t H1 locs1 ht hvm hw hB hz1 hk1 hS => ?_)
  obtain ⟨hP1, hD1⟩ := hB
  rw [ht] at hP1
  exact kk r u H1 locs1 hw ((fr_call hA hd' hk1 hS hP1 hD1).perm (hout u))
theorem v_v {y : MethodName} {wds : List Cond} {bytes : ByteArray} {maxL index n b : Nat} {rt : Option FieldType} {rm : Room} {As : List Value} {cells : S → va_W} {post : S → Prop} (C : Cx p s m args meth c cc nL Ts own nm ret B k A) (hd : Wd B A s.heap ws H locs) (hl : lv_has ls nL lv) (M : MI y wds bytes maxL rt n) (G : GoodIn Ts (wsV own index y.cls y wds)) (hC : Ctv l y wds rm 0 0 B k (.ref b :: As) wc cells post) (hrm : rm.cells = 0 ∧ rm.slots = 0) (hR : rm.frames + 1 ≤ R.frames ∧ 8 + (maxL + 11) + rm.locals ≤ R.locals)
    (hpm : ws.Perm (wc ++ wr)) (out : S → va_W) (hout : ∀ u, (cells u ++ wr).Perm (out u)) (q0 ci : Nat) {fs : List Value} {q : vw_C} (he : ws[q0]? = some (b, .inr (ci, fs))) (hc : vwCl[ci]? = some q) (hq : q.1 = y.cls) (hn : As.length = n) (hst : st0 = As.reverse ++ .ref b :: rest) (hrest : (rest.map fun v => v.category).sum ≤ 8) (hdg : decode cc pc = .ok (.invokevirtual index, 3)) (hf : cl ≤ R.cells ∧ sl ≤ R.slots)
    (kk : ∀ (u : S) (H1 : Heap) (locs1 : List Loc), post u → Wd B A s.heap (out u) H1 locs1 → W p l e R s m args below meth c H1 locs1 cl sl Q (F0 m (pc + 3) ls rest)) : W p l e R s m args below meth c H locs cl sl Q (F0 m pc ls st0) := by
  subst hst
  have hd' := hd.perm hpm
  have hA := C.2.2.2.2.2.2.2.1
  refine va_callv (va_runV (As := As) (rest := rest) ⟨C.1, C.2.1, C.2.2.1, C.2.2.2.1, C.2.2.2.2.1⟩ (hC H.size) (fr_cwV C M G hrm hR) ⟨pre_blind, fr_recv C hd hc hq he, fr_pre C.2.2.2.2.2.2.2.2.1 hd'⟩ rfl hn hl.1 rfl (lv_room hrest) hdg hf) hd.2.2 (fun q _ h => fr_A hA hd' q h) (fr_A hA hd') (fun u t H1 locs1 ht hvm hw hB hz1 hk1 hS => ?_)
  obtain ⟨hP1, hD1⟩ := hB
  rw [ht] at hP1
  exact kk u H1 locs1 hw ((fr_call hA hd' hk1 hS hP1 hD1).perm (hout u))
theorem s_i {y : MethodName} {wds : List Cond} {bytes : ByteArray} {maxL index n : Nat} {rt : Option FieldType} {rm : Room} {As : List Value} {cells : S → va_W} {post : Int32 → S → Prop} (C : Cx p s m args meth c cc nL Ts own nm ret B k A) (hd : Wd B A s.heap ws H locs) (hl : lv_has ls nL lv) (M : MI y wds bytes maxL rt n) (G : GoodIn Ts (wsS own index y wds)) (hyo : y.cls = own) (hC : Cti l y wds rm 0 0 B k As wc cells post) (hrm : rm.cells = 0 ∧ rm.slots = 0) (hR : rm.frames + 1 ≤ R.frames ∧ 8 + (maxL + 11) + rm.locals ≤ R.locals)
    (hpm : ws.Perm (wc ++ wr)) (out : S → va_W) (hout : ∀ u, (cells u ++ wr).Perm (out u)) (hn : As.length = n) (hst : st0 = As.reverse ++ rest) (hrest : (rest.map fun v => v.category).sum ≤ 8) (hdg : decode cc pc = .ok (.invokestatic index, 3)) (hf : cl ≤ R.cells ∧ sl ≤ R.slots)
    (kk : ∀ (r : Int32) (u : S) (H1 : Heap) (locs1 : List Loc), post r u → Wd B A s.heap (out u) H1 locs1 → W p l e R s m args below meth c H1 locs1 cl sl Q (F0 m (pc + 3) ls (.int r :: rest))) : W p l e R s m args below meth c H locs cl sl Q (F0 m pc ls st0) := by
  subst hst
  have hd' := hd.perm hpm
  have hA := C.2.2.2.2.2.2.2.1
  obtain ⟨⟨ws', hw⟩, h1, h2, h3, -⟩ := M
  refine va_calli (va_runS (As := As) (rest := rest) ⟨C.1, C.2.1, C.2.2.1, C.2.2.2.1, C.2.2.2.2.1⟩ (hC H.size) (cwS n C.2.2.2.2.1 G hw hrm.1 hrm.2 ⟨hyo, h1, h2, h3⟩ hR) ⟨pre_blind, fr_pre C.2.2.2.2.2.2.2.2.1 hd'⟩ rfl hn hl.1 rfl (lv_room hrest) hdg hf) hd.2.2 (fun q _ h => fr_A hA hd' q h) (fr_A hA hd') (fun r u t H1 locs1 ht hvm hw hB hz1 hk1 hS => ?_)
  obtain ⟨hP1, hD1⟩ := hB
  rw [ht] at hP1
  exact kk r u H1 locs1 hw ((fr_call hA hd' hk1 hS hP1 hD1).perm (hout u))
theorem s_v {y : MethodName} {wds : List Cond} {bytes : ByteArray} {maxL index n : Nat} {rt : Option FieldType} {rm : Room} {As : List Value} {cells : S → va_W} {post : S → Prop} (C : Cx p s m args meth c cc nL Ts own nm ret B k A) (hd : Wd B A s.heap ws H locs) (hl : lv_has ls nL lv) (M : MI y wds bytes maxL rt n) (G : GoodIn Ts (wsS own index y wds)) (hyo : y.cls = own) (hC : Ctv l y wds rm 0 0 B k As wc cells post) (hrm : rm.cells = 0 ∧ rm.slots = 0) (hR : rm.frames + 1 ≤ R.frames ∧ 8 + (maxL + 11) + rm.locals ≤ R.locals)
    (hpm : ws.Perm (wc ++ wr)) (out : S → va_W) (hout : ∀ u, (cells u ++ wr).Perm (out u)) (hn : As.length = n) (hst : st0 = As.reverse ++ rest) (hrest : (rest.map fun v => v.category).sum ≤ 8) (hdg : decode cc pc = .ok (.invokestatic index, 3)) (hf : cl ≤ R.cells ∧ sl ≤ R.slots)
    (kk : ∀ (u : S) (H1 : Heap) (locs1 : List Loc), post u → Wd B A s.heap (out u) H1 locs1 → W p l e R s m args below meth c H1 locs1 cl sl Q (F0 m (pc + 3) ls rest)) : W p l e R s m args below meth c H locs cl sl Q (F0 m pc ls st0) := by
  subst hst
  have hd' := hd.perm hpm
  have hA := C.2.2.2.2.2.2.2.1
  obtain ⟨⟨ws', hw⟩, h1, h2, h3, -⟩ := M
  refine va_callv (va_runS (As := As) (rest := rest) ⟨C.1, C.2.1, C.2.2.1, C.2.2.2.1, C.2.2.2.2.1⟩ (hC H.size) (cwS n C.2.2.2.2.1 G hw hrm.1 hrm.2 ⟨hyo, h1, h2, h3⟩ hR) ⟨pre_blind, fr_pre C.2.2.2.2.2.2.2.2.1 hd'⟩ rfl hn hl.1 rfl (lv_room hrest) hdg hf) hd.2.2 (fun q _ h => fr_A hA hd' q h) (fr_A hA hd') (fun u t H1 locs1 ht hvm hw hB hz1 hk1 hS => ?_)
  obtain ⟨hP1, hD1⟩ := hB
  rw [ht] at hP1
  exact kk u H1 locs1 hw ((fr_call hA hd' hk1 hS hP1 hD1).perm (hout u))
/-- a static method of the outer class, called from the nested one -/
theorem n_i {y : MethodName} {wds : List Cond} {bytes : ByteArray} {maxL index n : Nat} {rt : Option FieldType} {rm : Room} {As : List Value} {host : String} {cells : S → va_W} {post : Int32 → S → Prop} (C : Cx p s m args meth c cc nL Ts own nm ret B k A) (hd : Wd B A s.heap ws H locs) (hl : lv_has ls nL lv) (M : MI y wds bytes maxL rt n) (G : GoodIn Ts wds) (hnw : Cond.methodLinkNest own index y host ∈ nWs) (hst1 : Cond.static y ∈ Ts) (hini : Cond.initialized y.cls ∈ Ts) (hC : Cti l y wds rm 0 0 B k As wc cells post) (hrm : rm.cells = 0 ∧ rm.slots = 0) (hR : rm.frames + 1 ≤ R.frames ∧ 8 + (maxL + 11) + rm.locals ≤ R.locals)
    (hpm : ws.Perm (wc ++ wr)) (out : S → va_W) (hout : ∀ u, (cells u ++ wr).Perm (out u)) (hn : As.length = n) (hst : st0 = As.reverse ++ rest) (hrest : (rest.map fun v => v.category).sum ≤ 8) (hdg : decode cc pc = .ok (.invokestatic index, 3)) (hf : cl ≤ R.cells ∧ sl ≤ R.slots)
    (kk : ∀ (r : Int32) (u : S) (H1 : Heap) (locs1 : List Loc), post r u → Wd B A s.heap (out u) H1 locs1 → W p l e R s m args below meth c H1 locs1 cl sl Q (F0 m (pc + 3) ls (.int r :: rest))) : W p l e R s m args below meth c H locs cl sl Q (F0 m pc ls st0) := by
  subst hst
  have hd' := hd.perm hpm
  have hA := C.2.2.2.2.2.2.2.1
  obtain ⟨⟨ws', hw⟩, h1, h2, h3, -⟩ := M
  refine va_calli (va_runSN (As := As) (rest := rest) ⟨C.1, C.2.1, C.2.2.1, C.2.2.2.1, C.2.2.2.2.1⟩ (hC H.size) ⟨va_cnB n C.2.2.2.2.1 G hw hrm.1 hrm.2 (C.2.2.2.2.2.2.2.2.1.2.1 _ hnw) (C.2.2.2.2.1 _ hini) ⟨h1, h2, h3⟩ hR, C.2.2.2.2.1 _ hst1, trivial⟩ ⟨pre_blind, fr_pre C.2.2.2.2.2.2.2.2.1 hd'⟩ rfl hn hl.1 rfl (lv_room hrest) hdg hf) hd.2.2 (fun q _ h => fr_A hA hd' q h) (fr_A hA hd') (fun r u t H1 locs1 ht hvm hw hB hz1 hk1 hS => ?_)
  obtain ⟨hP1, hD1⟩ := hB
  rw [ht] at hP1
  exact kk r u H1 locs1 hw ((fr_call hA hd' hk1 hS hP1 hD1).perm (hout u))
end LY
end
