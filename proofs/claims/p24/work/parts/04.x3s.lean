abbrev rm_X3_isHead : Room := { frames := 0, cells := 0, slots := 0, locals := 0 }
theorem M_X3_isHead : MI yX3_isHead wsX3_isHead cX3_isHead 1 (some .boolean) 1 := ⟨⟨_, rfl⟩, by decide +kernel, by decide +kernel, by decide +kernel, by decide +kernel⟩
def wpX3_isHead (p0 : Int32) (post : Bool → Prop) : Prop := ((p0 < 0 → post false) ∧ (¬ p0 < 0 → ((4 ≤ p0 → post false) ∧ (¬ 4 ≤ p0 → post true))))
set_option maxHeartbeats 4000000 in
set_option maxRecDepth 100000 in
theorem c_X3_isHead (l : Launch) (B : va_G) (k : KT) (p0 : Int32) (post : Bool → Prop) (hw : wpX3_isHead p0 post) : Cti l yX3_isHead wsX3_isHead rm_X3_isHead 0 0 B k [.int p0] ([]) (fun _ : Unit => []) (bpost fun b _ => post b) := by
  refine Cti.of M_X3_isHead (Nat.le_of_ble_eq_true rfl) ?_
  intro p e s m args below meth c A C hd ls hl
  have hx := C.1; have hb := C.2.1; have hml := C.2.2.1; have hts := C.2.2.2.2.1
  have hl : lv_has ls 1 [(0, .int p0)] := hl
  rw [wpX3_isHead] at hw
  refine lv_iload_n hx hb dX3_isHead_0 rfl (lv_at hl 0 rfl) ?_
  refine lv_if_lt (tgt := 13) hx hb dX3_isHead_1 (by decide) (fun c3 => ?_) (fun c3 => ?_)
  · replace hw := hw.1 c3
    refine lv_iconst (v := 0) hx hb dX3_isHead_13 (by decide) ?_
    exact r_z false C hd dX3_isHead_14 () rfl hw
  · replace hw := hw.2 c3
    refine lv_iload_n hx hb dX3_isHead_4 rfl (lv_at hl 0 rfl) ?_
    refine lv_iconst (v := 4) hx hb dX3_isHead_5 (by decide) ?_
    refine lv_icmp_ge (tgt := 13) hx hb dX3_isHead_6 (by decide) (fun c4 => ?_) (fun c4 => ?_)
    · replace hw := hw.1 c4
      refine lv_iconst (v := 0) hx hb dX3_isHead_13 (by decide) ?_
      exact r_z false C hd dX3_isHead_14 () rfl hw
    · replace hw := hw.2 c4
      refine lv_iconst (v := 1) hx hb dX3_isHead_9 (by decide) ?_
      refine lv_goto (tgt := 14) hx hb dX3_isHead_10 (by decide) ?_
      exact r_z true C hd dX3_isHead_14 () rfl hw
abbrev rm_X3_isSector : Room := { frames := 0, cells := 0, slots := 0, locals := 0 }
theorem M_X3_isSector : MI yX3_isSector wsX3_isSector cX3_isSector 1 (some .boolean) 1 := ⟨⟨_, rfl⟩, by decide +kernel, by decide +kernel, by decide +kernel, by decide +kernel⟩
def wpX3_isSector (p0 : Int32) (post : Bool → Prop) : Prop := ((p0 < 0 → post false) ∧ (¬ p0 < 0 → ((64 ≤ p0 → post false) ∧ (¬ 64 ≤ p0 → post true))))
set_option maxHeartbeats 4000000 in
set_option maxRecDepth 100000 in
theorem c_X3_isSector (l : Launch) (B : va_G) (k : KT) (p0 : Int32) (post : Bool → Prop) (hw : wpX3_isSector p0 post) : Cti l yX3_isSector wsX3_isSector rm_X3_isSector 0 0 B k [.int p0] ([]) (fun _ : Unit => []) (bpost fun b _ => post b) := by
  refine Cti.of M_X3_isSector (Nat.le_of_ble_eq_true rfl) ?_
  intro p e s m args below meth c A C hd ls hl
  have hx := C.1; have hb := C.2.1; have hml := C.2.2.1; have hts := C.2.2.2.2.1
  have hl : lv_has ls 1 [(0, .int p0)] := hl
  rw [wpX3_isSector] at hw
  refine lv_iload_n hx hb dX3_isSector_0 rfl (lv_at hl 0 rfl) ?_
  refine lv_if_lt (tgt := 14) hx hb dX3_isSector_1 (by decide) (fun c3 => ?_) (fun c3 => ?_)
  · replace hw := hw.1 c3
    refine lv_iconst (v := 0) hx hb dX3_isSector_14 (by decide) ?_
    exact r_z false C hd dX3_isSector_15 () rfl hw
  · replace hw := hw.2 c3
    refine lv_iload_n hx hb dX3_isSector_4 rfl (lv_at hl 0 rfl) ?_
    refine lv_bipush (v := 64) hx hb dX3_isSector_5 (by decide) ?_
    refine lv_icmp_ge (tgt := 14) hx hb dX3_isSector_7 (by decide) (fun c4 => ?_) (fun c4 => ?_)
    · replace hw := hw.1 c4
      refine lv_iconst (v := 0) hx hb dX3_isSector_14 (by decide) ?_
      exact r_z false C hd dX3_isSector_15 () rfl hw
    · replace hw := hw.2 c4
      refine lv_iconst (v := 1) hx hb dX3_isSector_10 (by decide) ?_
      refine lv_goto (tgt := 15) hx hb dX3_isSector_11 (by decide) ?_
      exact r_z true C hd dX3_isSector_15 () rfl hw
abbrev rm_X3_headOf : Room := { frames := 0, cells := 0, slots := 0, locals := 0 }
theorem M_X3_headOf : MI yX3_headOf wsX3_headOf cX3_headOf 1 (some .int) 1 := ⟨⟨_, rfl⟩, by decide +kernel, by decide +kernel, by decide +kernel, by decide +kernel⟩
def wpX3_headOf (p0 : Int32) (post : Int32 → Prop) : Prop := post (p0 / 16)
set_option maxHeartbeats 4000000 in
set_option maxRecDepth 100000 in
theorem c_X3_headOf (l : Launch) (B : va_G) (k : KT) (p0 : Int32) (post : Int32 → Prop) (hw : wpX3_headOf p0 post) : Cti l yX3_headOf wsX3_headOf rm_X3_headOf 0 0 B k [.int p0] ([]) (fun _ : Unit => []) (fun r _ => post r) := by
  refine Cti.of M_X3_headOf (Nat.le_of_ble_eq_true rfl) ?_
  intro p e s m args below meth c A C hd ls hl
  have hx := C.1; have hb := C.2.1; have hml := C.2.2.1; have hts := C.2.2.2.2.1
  have hl : lv_has ls 1 [(0, .int p0)] := hl
  rw [wpX3_headOf] at hw
  refine lv_iload_n hx hb dX3_headOf_0 rfl (lv_at hl 0 rfl) ?_
  refine lv_bipush (v := 16) hx hb dX3_headOf_1 (by decide) ?_
  refine lv_idiv hx hb dX3_headOf_3 (by decide) ?_
  exact r_i C hd dX3_headOf_4 () rfl hw
abbrev rm_X3_placeOf : Room := { frames := 0, cells := 0, slots := 0, locals := 0 }
theorem M_X3_placeOf : MI yX3_placeOf wsX3_placeOf cX3_placeOf 1 (some .int) 1 := ⟨⟨_, rfl⟩, by decide +kernel, by decide +kernel, by decide +kernel, by decide +kernel⟩
def wpX3_placeOf (p0 : Int32) (post : Int32 → Prop) : Prop := post (p0 - p0 / 16 * 16)
set_option maxHeartbeats 4000000 in
set_option maxRecDepth 100000 in
theorem c_X3_placeOf (l : Launch) (B : va_G) (k : KT) (p0 : Int32) (post : Int32 → Prop) (hw : wpX3_placeOf p0 post) : Cti l yX3_placeOf wsX3_placeOf rm_X3_placeOf 0 0 B k [.int p0] ([]) (fun _ : Unit => []) (fun r _ => post r) := by
  refine Cti.of M_X3_placeOf (Nat.le_of_ble_eq_true rfl) ?_
  intro p e s m args below meth c A C hd ls hl
  have hx := C.1; have hb := C.2.1; have hml := C.2.2.1; have hts := C.2.2.2.2.1
  have hl : lv_has ls 1 [(0, .int p0)] := hl
  rw [wpX3_placeOf] at hw
  refine lv_iload_n hx hb dX3_placeOf_0 rfl (lv_at hl 0 rfl) ?_
  refine lv_bipush (v := 16) hx hb dX3_placeOf_1 (by decide) ?_
  refine lv_irem hx hb dX3_placeOf_3 (by decide) ?_
  exact r_i C hd dX3_placeOf_4 () rfl hw
abbrev rm_X3_stepsBetween : Room := { frames := 1, cells := 0, slots := 0, locals := 24 }
theorem M_X3_stepsBetween : MI yX3_stepsBetween wsX3_stepsBetween cX3_stepsBetween 3 (some .int) 2 := ⟨⟨_, rfl⟩, by decide +kernel, by decide +kernel, by decide +kernel, by decide +kernel⟩
def wpX3_stepsBetween (p0 : Int32) (p1 : Int32) (post : Int32 → Prop) : Prop := wpX3_placeOf p0 (fun r1 => wpX3_placeOf p1 (fun r5 => wpX3_headOf p0 (fun r14 => wpX3_headOf p1 (fun r18 => ((r14 = r18 → post (if 0 ≤ (r1 - r5) then (r1 - r5) else 0 - (r1 - r5))) ∧ (¬ r14 = r18 → post ((if 0 ≤ (r1 - r5) then (r1 - r5) else 0 - (r1 - r5)) + 2)))))))
set_option maxHeartbeats 4000000 in
set_option maxRecDepth 100000 in
theorem c_X3_stepsBetween (l : Launch) (B : va_G) (k : KT) (p0 : Int32) (p1 : Int32) (post : Int32 → Prop) (hw : wpX3_stepsBetween p0 p1 post) : Cti l yX3_stepsBetween wsX3_stepsBetween rm_X3_stepsBetween 0 0 B k [.int p0, .int p1] ([]) (fun _ : Unit => []) (fun r _ => post r) := by
  refine Cti.of M_X3_stepsBetween (Nat.le_of_ble_eq_true rfl) ?_
  intro p e s m args below meth c A C hd ls hl
  have hx := C.1; have hb := C.2.1; have hml := C.2.2.1; have hts := C.2.2.2.2.1
  have hl : lv_has ls 3 [(0, .int p0), (1, .int p1)] := hl
  rw [wpX3_stepsBetween] at hw
  refine lv_iload_n hx hb dX3_stepsBetween_0 rfl (lv_at hl 0 rfl) ?_
  refine s_i C hd hl M_X3_placeOf gX3_stepsBetween_X3_placeOf rfl (c_X3_placeOf l B k p0 _ hw) ⟨rfl, rfl⟩ ⟨Nat.le_of_ble_eq_true rfl, Nat.le_of_ble_eq_true rfl⟩ (pm_non _) (fun _ => []) (fun _ => List.Perm.refl _) rfl rfl (Nat.le_of_ble_eq_true rfl) dX3_stepsBetween_1 ⟨Nat.le_of_ble_eq_true rfl, Nat.le_of_ble_eq_true rfl⟩ (fun r1 _ H locs hw hd => ?_)
  refine lv_iload_n hx hb dX3_stepsBetween_4 rfl (lv_at hl 1 rfl) ?_
  refine s_i C hd hl M_X3_placeOf gX3_stepsBetween_X3_placeOf rfl (c_X3_placeOf l B k p1 _ hw) ⟨rfl, rfl⟩ ⟨Nat.le_of_ble_eq_true rfl, Nat.le_of_ble_eq_true rfl⟩ (pm_non _) (fun _ => []) (fun _ => List.Perm.refl _) rfl rfl (Nat.le_of_ble_eq_true rfl) dX3_stepsBetween_5 ⟨Nat.le_of_ble_eq_true rfl, Nat.le_of_ble_eq_true rfl⟩ (fun r5 _ H locs hw hd => ?_)
  refine lv_isub hx hb dX3_stepsBetween_8 ?_
  refine va_mabs hx hb (hml.trans hl.1.symm) C.2.2.2.1 (hts (.methodLink RX3 151 Lib.Math.abs.name) (List.mem_of_getElem? (i := 1) rfl)) (hts (.static Lib.Math.abs.name) (List.mem_of_getElem? (i := 2) rfl)) (hts (.initialized "java/lang/Math") (List.mem_of_getElem? (i := 3) rfl)) (hts (.code Lib.Math.abs.name Lib.Math.abs.code 1 (some .int)) (List.mem_of_getElem? (i := 4) rfl)) (Nat.le_of_ble_eq_true rfl) (Nat.le_of_ble_eq_true rfl) (Nat.zero_le _) (Nat.zero_le _) dX3_stepsBetween_9 ?_
  refine lv_istore_n (lv' := [(2, .int (if 0 ≤ (r1 - r5) then (r1 - r5) else 0 - (r1 - r5))), (0, .int p0), (1, .int p1)]) hx hb dX3_stepsBetween_12 rfl hl (by decide) rfl (fun ls hl => ?_)
  refine lv_iload_n hx hb dX3_stepsBetween_13 rfl (lv_at hl 1 rfl) ?_
  refine s_i C hd hl M_X3_headOf gX3_stepsBetween_X3_headOf rfl (c_X3_headOf l B k p0 _ hw) ⟨rfl, rfl⟩ ⟨Nat.le_of_ble_eq_true rfl, Nat.le_of_ble_eq_true rfl⟩ (pm_non _) (fun _ => []) (fun _ => List.Perm.refl _) rfl rfl (Nat.le_of_ble_eq_true rfl) dX3_stepsBetween_14 ⟨Nat.le_of_ble_eq_true rfl, Nat.le_of_ble_eq_true rfl⟩ (fun r14 _ H locs hw hd => ?_)
  refine lv_iload_n hx hb dX3_stepsBetween_17 rfl (lv_at hl 2 rfl) ?_
  refine s_i C hd hl M_X3_headOf gX3_stepsBetween_X3_headOf rfl (c_X3_headOf l B k p1 _ hw) ⟨rfl, rfl⟩ ⟨Nat.le_of_ble_eq_true rfl, Nat.le_of_ble_eq_true rfl⟩ (pm_non _) (fun _ => []) (fun _ => List.Perm.refl _) rfl rfl (Nat.le_of_ble_eq_true rfl) dX3_stepsBetween_18 ⟨Nat.le_of_ble_eq_true rfl, Nat.le_of_ble_eq_true rfl⟩ (fun r18 _ H locs hw hd => ?_)
  refine lv_icmp_ne (tgt := 28) hx hb dX3_stepsBetween_21 (by decide) (fun c2 => ?_) (fun c2 => ?_)
  · replace hw := hw.2 c2
    refine lv_iload_n hx hb dX3_stepsBetween_28 rfl (lv_at hl 0 rfl) ?_
    refine lv_iconst (v := 2) hx hb dX3_stepsBetween_29 (by decide) ?_
    refine lv_iadd hx hb dX3_stepsBetween_30 ?_
    exact r_i C hd dX3_stepsBetween_31 () rfl hw
  · replace hw := hw.1 c2
    refine lv_iload_n hx hb dX3_stepsBetween_24 rfl (lv_at hl 0 rfl) ?_
    refine lv_goto (tgt := 31) hx hb dX3_stepsBetween_25 (by decide) ?_
    exact r_i C hd dX3_stepsBetween_31 () rfl hw
