abbrev rm_X3_startTrial : Room := { frames := 2, cells := 0, slots := 0, locals := 61 }
theorem M_X3_startTrial : MI yX3_startTrial wsX3_startTrial cX3_startTrial 1 none 0 := ⟨⟨_, rfl⟩, by decide +kernel, by decide +kernel, by decide +kernel, by decide +kernel⟩
theorem iX3_startTrial_X3 : ∀ w ∈ wsX30, w ∈ wsX3_startTrial := fun _ h => List.mem_cons_of_mem _ (List.mem_append_left _ (List.mem_append_right _ h))
theorem iX3_startTrial_X1 : ∀ w ∈ wsX10, w ∈ wsX3_startTrial := fun _ h => List.mem_cons_of_mem _ (List.mem_append_right _ h)
def wpX3_startTrial (χ : XS) (post : XS → Prop) : Prop := wpX1_takeOver (xs_trial χ) (xs_now χ) (fun σ8 => post (xs_setTrial χ σ8))
set_option maxHeartbeats 4000000 in
set_option maxRecDepth 100000 in
theorem c_X3_startTrial (l : Launch) (B : va_G) (k : KT) (ad : Nat → Nat → Nat) (χ : XS) (post : XS → Prop) (hw : wpX3_startTrial χ post) : Ctv l yX3_startTrial wsX3_startTrial rm_X3_startTrial 0 0 B k [.ref (ad 9 0)] (wX3 k ad χ) (fun u => wX3 k ad u) post := by
  refine Ctv.of M_X3_startTrial (Nat.le_of_ble_eq_true rfl) ?_
  intro p e s m args below meth c A C hd ls hl
  have hx := C.1; have hb := C.2.1; have hml := C.2.2.1; have hts := C.2.2.2.2.1
  have hl : lv_has ls 1 [(0, .ref (ad 9 0))] := hl
  rw [wpX3_startTrial] at hw
  refine lv_aload_n hx hb dX3_startTrial_0 rfl (lv_at hl 0 rfl) ?_
  refine g_get (v := .ref (ad 1 0)) C hd iX3_startTrial_X3 0 3 rfl rfl 1 (by decide) (List.mem_of_getElem? (i := 1) rfl) rfl dX3_startTrial_1 ?_
  refine lv_aload_n hx hb dX3_startTrial_4 rfl (lv_at hl 0 rfl) ?_
  refine g_get (v := .ref (ad 0 0)) C hd iX3_startTrial_X3 0 3 rfl rfl 0 (by decide) (List.mem_of_getElem? (i := 2) rfl) rfl dX3_startTrial_5 ?_
  refine v_v C hd hl M_X1_takeOver gX3_startTrial_X1_takeOver (c_X1_takeOver l B k (ad 1) (ad 0) (xs_trial χ) (xs_now χ) _ hw) ⟨rfl, rfl⟩ ⟨Nat.le_of_ble_eq_true rfl, Nat.le_of_ble_eq_true rfl⟩ (pTN k ad _) (fun u => wX3 k ad (xs_setTrial χ u)) (fun u => (pTN k ad (xs_setTrial χ u)).symm) 10 1 rfl rfl rfl rfl rfl (Nat.le_of_ble_eq_true rfl) dX3_startTrial_8 ⟨Nat.le_of_ble_eq_true rfl, Nat.le_of_ble_eq_true rfl⟩ (fun σ8 H locs hw hd => ?_)
  exact r_v C hd dX3_startTrial_11 (xs_setTrial χ σ8) rfl hw
abbrev rm_X3_settle : Room := { frames := 3, cells := 0, slots := 0, locals := 82 }
theorem M_X3_settle : MI yX3_settle wsX3_settle cX3_settle 2 (some .int) 1 := ⟨⟨_, rfl⟩, by decide +kernel, by decide +kernel, by decide +kernel, by decide +kernel⟩
theorem iX3_settle_X3 : ∀ w ∈ wsX30, w ∈ wsX3_settle := fun _ h => List.mem_cons_of_mem _ (List.mem_append_left _ (List.mem_append_left _ (List.mem_append_right _ h)))
theorem iX3_settle_X2 : ∀ w ∈ wsX20, w ∈ wsX3_settle := fun _ h => List.mem_cons_of_mem _ (List.mem_append_left _ (List.mem_append_right _ h))
theorem iX3_settle_X1 : ∀ w ∈ wsX10, w ∈ wsX3_settle := fun _ h => List.mem_cons_of_mem _ (List.mem_append_right _ h)
def wpX3_settle (χ : XS) (p0 : Int32) (post : Int32 → XS → Prop) : Prop := ((p0 < 0 → post p0 χ) ∧ (¬ p0 < 0 → wpX2_record (xs_history χ) (xs_now χ) (fun η12 => wpX1_takeOver (xs_now χ) (xs_trial χ) (fun σ23 => post p0 (xs_setNow (xs_setHistory χ η12) σ23)))))
set_option maxHeartbeats 4000000 in
set_option maxRecDepth 100000 in
theorem c_X3_settle (l : Launch) (B : va_G) (k : KT) (ad : Nat → Nat → Nat) (χ : XS) (p0 : Int32) (post : Int32 → XS → Prop) (hw : wpX3_settle χ p0 post) : Cti l yX3_settle wsX3_settle rm_X3_settle 0 0 B k [.ref (ad 9 0), .int p0] (wX3 k ad χ) (fun u => wX3 k ad u) post := by
  refine Cti.of M_X3_settle (Nat.le_of_ble_eq_true rfl) ?_
  intro p e s m args below meth c A C hd ls hl
  have hx := C.1; have hb := C.2.1; have hml := C.2.2.1; have hts := C.2.2.2.2.1
  have hl : lv_has ls 2 [(0, .ref (ad 9 0)), (1, .int p0)] := hl
  rw [wpX3_settle] at hw
  refine lv_iload_n hx hb dX3_settle_0 rfl (lv_at hl 1 rfl) ?_
  refine lv_if_lt (tgt := 26) hx hb dX3_settle_1 (by decide) (fun c2 => ?_) (fun c2 => ?_)
  · replace hw := hw.1 c2
    refine lv_iload_n hx hb dX3_settle_26 rfl (lv_at hl 1 rfl) ?_
    exact r_i C hd dX3_settle_27 χ rfl hw
  · replace hw := hw.2 c2
    refine lv_aload_n hx hb dX3_settle_4 rfl (lv_at hl 0 rfl) ?_
    refine g_get (v := .ref (ad 4 0)) C hd iX3_settle_X3 0 3 rfl rfl 3 (by decide) (List.mem_of_getElem? (i := 1) rfl) rfl dX3_settle_5 ?_
    refine lv_aload_n hx hb dX3_settle_8 rfl (lv_at hl 0 rfl) ?_
    refine g_get (v := .ref (ad 0 0)) C hd iX3_settle_X3 0 3 rfl rfl 0 (by decide) (List.mem_of_getElem? (i := 2) rfl) rfl dX3_settle_9 ?_
    refine v_v C hd hl M_X2_record gX3_settle_X2_record (c_X2_record l B k (ad 4) (fun j => ad (5 + j)) (ad 0) (xs_history χ) (xs_now χ) _ hw) ⟨rfl, rfl⟩ ⟨Nat.le_of_ble_eq_true rfl, Nat.le_of_ble_eq_true rfl⟩ (pHN k ad _) (fun u => wX3 k ad (xs_setHistory χ u)) (fun u => (pHN k ad (xs_setHistory χ u)).symm) 28 2 rfl rfl rfl rfl rfl (Nat.le_of_ble_eq_true rfl) dX3_settle_12 ⟨Nat.le_of_ble_eq_true rfl, Nat.le_of_ble_eq_true rfl⟩ (fun η12 H locs hw hd => ?_)
    refine lv_aload_n hx hb dX3_settle_15 rfl (lv_at hl 0 rfl) ?_
    refine g_get (v := .ref (ad 0 0)) C hd iX3_settle_X3 0 3 rfl rfl 0 (by decide) (List.mem_of_getElem? (i := 2) rfl) rfl dX3_settle_16 ?_
    refine lv_aload_n hx hb dX3_settle_19 rfl (lv_at hl 0 rfl) ?_
    refine g_get (v := .ref (ad 1 0)) C hd iX3_settle_X3 0 3 rfl rfl 1 (by decide) (List.mem_of_getElem? (i := 3) rfl) rfl dX3_settle_20 ?_
    refine v_v C hd hl M_X1_takeOver gX3_settle_X1_takeOver (c_X1_takeOver l B k (ad 0) (ad 1) (xs_now χ) (xs_trial χ) _ hw) ⟨rfl, rfl⟩ ⟨Nat.le_of_ble_eq_true rfl, Nat.le_of_ble_eq_true rfl⟩ (pNT k ad _) (fun u => wX3 k ad (xs_setNow (xs_setHistory χ η12) u)) (fun u => (pNT k ad (xs_setNow (xs_setHistory χ η12) u)).symm) 1 1 rfl rfl rfl rfl rfl (Nat.le_of_ble_eq_true rfl) dX3_settle_23 ⟨Nat.le_of_ble_eq_true rfl, Nat.le_of_ble_eq_true rfl⟩ (fun σ23 H locs hw hd => ?_)
    refine lv_iload_n hx hb dX3_settle_26 rfl (lv_at hl 1 rfl) ?_
    exact r_i C hd dX3_settle_27 (xs_setNow (xs_setHistory χ η12) σ23) rfl hw
abbrev rm_X3_setLimit : Room := { frames := 4, cells := 0, slots := 0, locals := 103 }
theorem M_X3_setLimit : MI yX3_setLimit wsX3_setLimit cX3_setLimit 2 (some .int) 1 := ⟨⟨_, rfl⟩, by decide +kernel, by decide +kernel, by decide +kernel, by decide +kernel⟩
theorem iX3_setLimit_X3 : ∀ w ∈ wsX30, w ∈ wsX3_setLimit := fun _ h => List.mem_cons_of_mem _ (List.mem_append_left _ (List.mem_append_left _ (List.mem_append_right _ h)))
theorem iX3_setLimit_X1 : ∀ w ∈ wsX10, w ∈ wsX3_setLimit := fun _ h => List.mem_cons_of_mem _ (List.mem_append_left _ (List.mem_append_right _ h))
theorem iX3_setLimit_X2 : ∀ w ∈ wsX20, w ∈ wsX3_setLimit := fun _ h => List.mem_cons_of_mem _ (List.mem_append_right _ h)
def wpX3_setLimit (χ : XS) (p0 : Int32) (post : Int32 → XS → Prop) : Prop := wpX3_startTrial χ (fun χ1 => wpX1_changeLimit (xs_trial χ1) p0 (fun r10 σ10 => wpX3_settle (xs_setTrial χ1 σ10) r10 (fun r13 χ13 => post r13 χ13)))
set_option maxHeartbeats 4000000 in
set_option maxRecDepth 100000 in
theorem c_X3_setLimit (l : Launch) (B : va_G) (k : KT) (ad : Nat → Nat → Nat) (χ : XS) (p0 : Int32) (post : Int32 → XS → Prop) (hw : wpX3_setLimit χ p0 post) : Cti l yX3_setLimit wsX3_setLimit rm_X3_setLimit 0 0 B k [.ref (ad 9 0), .int p0] (wX3 k ad χ) (fun u => wX3 k ad u) post := by
  refine Cti.of M_X3_setLimit (Nat.le_of_ble_eq_true rfl) ?_
  intro p e s m args below meth c A C hd ls hl
  have hx := C.1; have hb := C.2.1; have hml := C.2.2.1; have hts := C.2.2.2.2.1
  have hl : lv_has ls 2 [(0, .ref (ad 9 0)), (1, .int p0)] := hl
  rw [wpX3_setLimit] at hw
  refine lv_aload_n hx hb dX3_setLimit_0 rfl (lv_at hl 0 rfl) ?_
  refine v_v C hd hl M_X3_startTrial gX3_setLimit_X3_startTrial (c_X3_startTrial l B k ad χ _ hw) ⟨rfl, rfl⟩ ⟨Nat.le_of_ble_eq_true rfl, Nat.le_of_ble_eq_true rfl⟩ (pm_all _) (fun u => wX3 k ad u) (fun _ => (pm_all _).symm) 0 3 rfl rfl rfl rfl rfl (Nat.le_of_ble_eq_true rfl) dX3_setLimit_1 ⟨Nat.le_of_ble_eq_true rfl, Nat.le_of_ble_eq_true rfl⟩ (fun χ1 H locs hw hd => ?_)
  refine lv_aload_n hx hb dX3_setLimit_4 rfl (lv_at hl 0 rfl) ?_
  refine lv_aload_n hx hb dX3_setLimit_5 rfl (lv_at hl 0 rfl) ?_
  refine g_get (v := .ref (ad 1 0)) C hd iX3_setLimit_X3 0 3 rfl rfl 1 (by decide) (List.mem_of_getElem? (i := 1) rfl) rfl dX3_setLimit_6 ?_
  refine lv_iload_n hx hb dX3_setLimit_9 rfl (lv_at hl 1 rfl) ?_
  refine v_i C hd hl M_X1_changeLimit gX3_setLimit_X1_changeLimit (c_X1_changeLimit l B k (ad 1) (xs_trial χ1) p0 _ hw) ⟨rfl, rfl⟩ ⟨Nat.le_of_ble_eq_true rfl, Nat.le_of_ble_eq_true rfl⟩ (pT k ad χ1) (fun u => wX3 k ad (xs_setTrial χ1 u)) (fun u => (pT k ad (xs_setTrial χ1 u)).symm) 10 1 rfl rfl rfl rfl rfl (Nat.le_of_ble_eq_true rfl) dX3_setLimit_10 ⟨Nat.le_of_ble_eq_true rfl, Nat.le_of_ble_eq_true rfl⟩ (fun r10 σ10 H locs hw hd => ?_)
  refine v_i C hd hl M_X3_settle gX3_setLimit_X3_settle (c_X3_settle l B k ad (xs_setTrial χ1 σ10) r10 _ hw) ⟨rfl, rfl⟩ ⟨Nat.le_of_ble_eq_true rfl, Nat.le_of_ble_eq_true rfl⟩ (pm_all _) (fun u => wX3 k ad u) (fun _ => (pm_all _).symm) 0 3 rfl rfl rfl rfl rfl (Nat.le_of_ble_eq_true rfl) dX3_setLimit_13 ⟨Nat.le_of_ble_eq_true rfl, Nat.le_of_ble_eq_true rfl⟩ (fun r13 χ13 H locs hw hd => ?_)
  exact r_i C hd dX3_setLimit_16 χ13 rfl hw
abbrev rm_X3_read : Room := { frames := 6, cells := 0, slots := 0, locals := 137 }
theorem M_X3_read : MI yX3_read wsX3_read cX3_read 2 (some .int) 1 := ⟨⟨_, rfl⟩, by decide +kernel, by decide +kernel, by decide +kernel, by decide +kernel⟩
theorem iX3_read_X3 : ∀ w ∈ wsX30, w ∈ wsX3_read := fun _ h => List.mem_cons_of_mem _ (List.mem_append_left _ (List.mem_append_left _ (List.mem_append_right _ h)))
theorem iX3_read_X1 : ∀ w ∈ wsX10, w ∈ wsX3_read := fun _ h => List.mem_cons_of_mem _ (List.mem_append_left _ (List.mem_append_right _ h))
theorem iX3_read_X2 : ∀ w ∈ wsX20, w ∈ wsX3_read := fun _ h => List.mem_cons_of_mem _ (List.mem_append_right _ h)
def wpX3_read (χ : XS) (p0 : Int32) (post : Int32 → XS → Prop) : Prop := wpX3_startTrial χ (fun χ1 => wpX1_readAt (xs_trial χ1) p0 (fun r10 σ10 => wpX3_settle (xs_setTrial χ1 σ10) r10 (fun r13 χ13 => post r13 χ13)))
set_option maxHeartbeats 4000000 in
set_option maxRecDepth 100000 in
theorem c_X3_read (l : Launch) (B : va_G) (k : KT) (ad : Nat → Nat → Nat) (χ : XS) (p0 : Int32) (post : Int32 → XS → Prop) (hw : wpX3_read χ p0 post) : Cti l yX3_read wsX3_read rm_X3_read 0 0 B k [.ref (ad 9 0), .int p0] (wX3 k ad χ) (fun u => wX3 k ad u) post := by
  refine Cti.of M_X3_read (Nat.le_of_ble_eq_true rfl) ?_
  intro p e s m args below meth c A C hd ls hl
  have hx := C.1; have hb := C.2.1; have hml := C.2.2.1; have hts := C.2.2.2.2.1
  have hl : lv_has ls 2 [(0, .ref (ad 9 0)), (1, .int p0)] := hl
  rw [wpX3_read] at hw
  refine lv_aload_n hx hb dX3_read_0 rfl (lv_at hl 0 rfl) ?_
  refine v_v C hd hl M_X3_startTrial gX3_read_X3_startTrial (c_X3_startTrial l B k ad χ _ hw) ⟨rfl, rfl⟩ ⟨Nat.le_of_ble_eq_true rfl, Nat.le_of_ble_eq_true rfl⟩ (pm_all _) (fun u => wX3 k ad u) (fun _ => (pm_all _).symm) 0 3 rfl rfl rfl rfl rfl (Nat.le_of_ble_eq_true rfl) dX3_read_1 ⟨Nat.le_of_ble_eq_true rfl, Nat.le_of_ble_eq_true rfl⟩ (fun χ1 H locs hw hd => ?_)
  refine lv_aload_n hx hb dX3_read_4 rfl (lv_at hl 0 rfl) ?_
  refine lv_aload_n hx hb dX3_read_5 rfl (lv_at hl 0 rfl) ?_
  refine g_get (v := .ref (ad 1 0)) C hd iX3_read_X3 0 3 rfl rfl 1 (by decide) (List.mem_of_getElem? (i := 1) rfl) rfl dX3_read_6 ?_
  refine lv_iload_n hx hb dX3_read_9 rfl (lv_at hl 1 rfl) ?_
  refine v_i C hd hl M_X1_readAt gX3_read_X1_readAt (c_X1_readAt l B k (ad 1) (xs_trial χ1) p0 _ hw) ⟨rfl, rfl⟩ ⟨Nat.le_of_ble_eq_true rfl, Nat.le_of_ble_eq_true rfl⟩ (pT k ad χ1) (fun u => wX3 k ad (xs_setTrial χ1 u)) (fun u => (pT k ad (xs_setTrial χ1 u)).symm) 10 1 rfl rfl rfl rfl rfl (Nat.le_of_ble_eq_true rfl) dX3_read_10 ⟨Nat.le_of_ble_eq_true rfl, Nat.le_of_ble_eq_true rfl⟩ (fun r10 σ10 H locs hw hd => ?_)
  refine v_i C hd hl M_X3_settle gX3_read_X3_settle (c_X3_settle l B k ad (xs_setTrial χ1 σ10) r10 _ hw) ⟨rfl, rfl⟩ ⟨Nat.le_of_ble_eq_true rfl, Nat.le_of_ble_eq_true rfl⟩ (pm_all _) (fun u => wX3 k ad u) (fun _ => (pm_all _).symm) 0 3 rfl rfl rfl rfl rfl (Nat.le_of_ble_eq_true rfl) dX3_read_13 ⟨Nat.le_of_ble_eq_true rfl, Nat.le_of_ble_eq_true rfl⟩ (fun r13 χ13 H locs hw hd => ?_)
  exact r_i C hd dX3_read_16 χ13 rfl hw
abbrev rm_X3_write : Room := { frames := 6, cells := 0, slots := 0, locals := 139 }
theorem M_X3_write : MI yX3_write wsX3_write cX3_write 3 (some .int) 2 := ⟨⟨_, rfl⟩, by decide +kernel, by decide +kernel, by decide +kernel, by decide +kernel⟩
theorem iX3_write_X3 : ∀ w ∈ wsX30, w ∈ wsX3_write := fun _ h => List.mem_cons_of_mem _ (List.mem_append_left _ (List.mem_append_left _ (List.mem_append_right _ h)))
theorem iX3_write_X1 : ∀ w ∈ wsX10, w ∈ wsX3_write := fun _ h => List.mem_cons_of_mem _ (List.mem_append_left _ (List.mem_append_right _ h))
theorem iX3_write_X2 : ∀ w ∈ wsX20, w ∈ wsX3_write := fun _ h => List.mem_cons_of_mem _ (List.mem_append_right _ h)
def wpX3_write (χ : XS) (p0 : Int32) (p1 : Int32) (post : Int32 → XS → Prop) : Prop := wpX3_startTrial χ (fun χ1 => wpX1_writeAt (xs_trial χ1) p0 p1 (fun r11 σ11 => wpX3_settle (xs_setTrial χ1 σ11) r11 (fun r14 χ14 => post r14 χ14)))
set_option maxHeartbeats 4000000 in
set_option maxRecDepth 100000 in
theorem c_X3_write (l : Launch) (B : va_G) (k : KT) (ad : Nat → Nat → Nat) (χ : XS) (p0 : Int32) (p1 : Int32) (post : Int32 → XS → Prop) (hw : wpX3_write χ p0 p1 post) : Cti l yX3_write wsX3_write rm_X3_write 0 0 B k [.ref (ad 9 0), .int p0, .int p1] (wX3 k ad χ) (fun u => wX3 k ad u) post := by
  refine Cti.of M_X3_write (Nat.le_of_ble_eq_true rfl) ?_
  intro p e s m args below meth c A C hd ls hl
  have hx := C.1; have hb := C.2.1; have hml := C.2.2.1; have hts := C.2.2.2.2.1
  have hl : lv_has ls 3 [(0, .ref (ad 9 0)), (1, .int p0), (2, .int p1)] := hl
  rw [wpX3_write] at hw
  refine lv_aload_n hx hb dX3_write_0 rfl (lv_at hl 0 rfl) ?_
  refine v_v C hd hl M_X3_startTrial gX3_write_X3_startTrial (c_X3_startTrial l B k ad χ _ hw) ⟨rfl, rfl⟩ ⟨Nat.le_of_ble_eq_true rfl, Nat.le_of_ble_eq_true rfl⟩ (pm_all _) (fun u => wX3 k ad u) (fun _ => (pm_all _).symm) 0 3 rfl rfl rfl rfl rfl (Nat.le_of_ble_eq_true rfl) dX3_write_1 ⟨Nat.le_of_ble_eq_true rfl, Nat.le_of_ble_eq_true rfl⟩ (fun χ1 H locs hw hd => ?_)
  refine lv_aload_n hx hb dX3_write_4 rfl (lv_at hl 0 rfl) ?_
  refine lv_aload_n hx hb dX3_write_5 rfl (lv_at hl 0 rfl) ?_
  refine g_get (v := .ref (ad 1 0)) C hd iX3_write_X3 0 3 rfl rfl 1 (by decide) (List.mem_of_getElem? (i := 1) rfl) rfl dX3_write_6 ?_
  refine lv_iload_n hx hb dX3_write_9 rfl (lv_at hl 1 rfl) ?_
  refine lv_iload_n hx hb dX3_write_10 rfl (lv_at hl 2 rfl) ?_
  refine v_i C hd hl M_X1_writeAt gX3_write_X1_writeAt (c_X1_writeAt l B k (ad 1) (xs_trial χ1) p0 p1 _ hw) ⟨rfl, rfl⟩ ⟨Nat.le_of_ble_eq_true rfl, Nat.le_of_ble_eq_true rfl⟩ (pT k ad χ1) (fun u => wX3 k ad (xs_setTrial χ1 u)) (fun u => (pT k ad (xs_setTrial χ1 u)).symm) 10 1 rfl rfl rfl rfl rfl (Nat.le_of_ble_eq_true rfl) dX3_write_11 ⟨Nat.le_of_ble_eq_true rfl, Nat.le_of_ble_eq_true rfl⟩ (fun r11 σ11 H locs hw hd => ?_)
  refine v_i C hd hl M_X3_settle gX3_write_X3_settle (c_X3_settle l B k ad (xs_setTrial χ1 σ11) r11 _ hw) ⟨rfl, rfl⟩ ⟨Nat.le_of_ble_eq_true rfl, Nat.le_of_ble_eq_true rfl⟩ (pm_all _) (fun u => wX3 k ad u) (fun _ => (pm_all _).symm) 0 3 rfl rfl rfl rfl rfl (Nat.le_of_ble_eq_true rfl) dX3_write_14 ⟨Nat.le_of_ble_eq_true rfl, Nat.le_of_ble_eq_true rfl⟩ (fun r14 χ14 H locs hw hd => ?_)
  exact r_i C hd dX3_write_17 χ14 rfl hw
abbrev rm_X3_copy : Room := { frames := 7, cells := 0, slots := 0, locals := 164 }
theorem M_X3_copy : MI yX3_copy wsX3_copy cX3_copy 5 (some .int) 3 := ⟨⟨_, rfl⟩, by decide +kernel, by decide +kernel, by decide +kernel, by decide +kernel⟩
theorem iX3_copy_X3 : ∀ w ∈ wsX30, w ∈ wsX3_copy := fun _ h => List.mem_cons_of_mem _ (List.mem_append_left _ (List.mem_append_left _ (List.mem_append_right _ h)))
theorem iX3_copy_X1 : ∀ w ∈ wsX10, w ∈ wsX3_copy := fun _ h => List.mem_cons_of_mem _ (List.mem_append_left _ (List.mem_append_right _ h))
theorem iX3_copy_X2 : ∀ w ∈ wsX20, w ∈ wsX3_copy := fun _ h => List.mem_cons_of_mem _ (List.mem_append_right _ h)
def wpX3_copy_J84 (r49 : Int32) (post : Int32 → XS → Prop) (χ84 : XS) : Prop := wpX3_settle χ84 r49 (fun r87 χ87 => post r87 χ87)
def wpX3_copy (χ : XS) (p0 : Int32) (p1 : Int32) (p2 : Int32) (post : Int32 → XS → Prop) : Prop := wpX1_isAddress (xs_now χ) p0 (fun b5 => ((b5 = true → wpX1_isAddress (xs_now χ) p1 (fun b16 => ((b16 = true → ((p2 < 1 → post (-2) χ) ∧ (¬ p2 < 1 → ((p2 ≤ 16 → wpX3_startTrial χ (fun χ39 => wpX1_copyRow (xs_trial χ39) p0 p1 p2 (fun r49 σ49 => ((r49 = 0 → post (-5) (xs_setTrial χ39 σ49)) ∧ (¬ r49 = 0 → ((p2 ≤ r49 → wpX3_copy_J84 r49 post (xs_setTrial χ39 σ49)) ∧ (¬ p2 ≤ r49 → wpX3_startTrial (xs_setTrial χ39 σ49) (fun χ69 => wpX1_copyRow (xs_trial χ69) p0 p1 r49 (fun r80 σ80 => wpX3_copy_J84 r49 post (xs_setTrial χ69 σ80)))))))))) ∧ (¬ p2 ≤ 16 → post (-2) χ))))) ∧ (b16 = false → post (-1) χ)))) ∧ (b5 = false → post (-1) χ)))
set_option maxHeartbeats 4000000 in
set_option maxRecDepth 100000 in
theorem c_X3_copy (l : Launch) (B : va_G) (k : KT) (ad : Nat → Nat → Nat) (χ : XS) (p0 : Int32) (p1 : Int32) (p2 : Int32) (post : Int32 → XS → Prop) (hw : wpX3_copy χ p0 p1 p2 post) : Cti l yX3_copy wsX3_copy rm_X3_copy 0 0 B k [.ref (ad 9 0), .int p0, .int p1, .int p2] (wX3 k ad χ) (fun u => wX3 k ad u) post := by
  refine Cti.of M_X3_copy (Nat.le_of_ble_eq_true rfl) ?_
  intro p e s m args below meth c A C hd ls hl
  have hx := C.1; have hb := C.2.1; have hml := C.2.2.1; have hts := C.2.2.2.2.1
  have hl : lv_has ls 5 [(0, .ref (ad 9 0)), (1, .int p0), (2, .int p1), (3, .int p2)] := hl
  have J84 : ∀ (r49 : Int32) (χ84 : XS) (H : Heap) (locs : List Loc) (ls : Array Slot), Wd B A s.heap (wX3 k ad χ84) H locs → lv_has ls 5 [(0, .ref (ad 9 0)), (4, .int r49)] → wpX3_copy_J84 r49 post χ84 → W p l e rm_X3_copy s m args below meth c H locs 0 0 (Qi below args s B A (fun u => wX3 k ad u) post 0 0) (F0 m 84 ls []) := by
    intro r49 χ84 H locs ls hd hl hw
    rw [wpX3_copy_J84] at hw
    refine lv_aload_n hx hb dX3_copy_84 rfl (lv_at hl 0 rfl) ?_
    refine lv_iload hx hb dX3_copy_85 (lv_at hl 1 rfl) ?_
    refine v_i C hd hl M_X3_settle gX3_copy_X3_settle (c_X3_settle l B k ad χ84 r49 _ hw) ⟨rfl, rfl⟩ ⟨Nat.le_of_ble_eq_true rfl, Nat.le_of_ble_eq_true rfl⟩ (pm_all _) (fun u => wX3 k ad u) (fun _ => (pm_all _).symm) 0 3 rfl rfl rfl rfl rfl (Nat.le_of_ble_eq_true rfl) dX3_copy_87 ⟨Nat.le_of_ble_eq_true rfl, Nat.le_of_ble_eq_true rfl⟩ (fun r87 χ87 H locs hw hd => ?_)
    exact r_i C hd dX3_copy_90 χ87 rfl hw
  rw [wpX3_copy] at hw
  refine lv_aload_n hx hb dX3_copy_0 rfl (lv_at hl 0 rfl) ?_
  refine g_get (v := .ref (ad 0 0)) C hd iX3_copy_X3 0 3 rfl rfl 0 (by decide) (List.mem_of_getElem? (i := 1) rfl) rfl dX3_copy_1 ?_
  refine lv_iload_n hx hb dX3_copy_4 rfl (lv_at hl 1 rfl) ?_
  refine v_i C hd hl M_X1_isAddress gX3_copy_X1_isAddress (c_X1_isAddress l B k (ad 0) (xs_now χ) p0 _ hw) ⟨rfl, rfl⟩ ⟨Nat.le_of_ble_eq_true rfl, Nat.le_of_ble_eq_true rfl⟩ (pN k ad χ) (fun _ => wX3 k ad χ) (fun _ => (pN k ad χ).symm) 1 1 rfl rfl rfl rfl rfl (Nat.le_of_ble_eq_true rfl) dX3_copy_5 ⟨Nat.le_of_ble_eq_true rfl, Nat.le_of_ble_eq_true rfl⟩ (fun r _ H locs hp hd => ?_)
  obtain ⟨b5, rfl, hw⟩ := hp
  refine lv_if_eq (tgt := 22) hx hb dX3_copy_8 (by decide) (fun c12 => ?_) (fun c12 => ?_)
  · replace hw := hw.2 ((bi_eq _).mp c12)
    refine lv_iconst (v := (-1)) hx hb dX3_copy_22 (by decide) ?_
    exact r_i C hd dX3_copy_23 χ rfl hw
  · replace hw := hw.1 ((bi_ne _).mp c12)
    refine lv_aload_n hx hb dX3_copy_11 rfl (lv_at hl 0 rfl) ?_
    refine g_get (v := .ref (ad 0 0)) C hd iX3_copy_X3 0 3 rfl rfl 0 (by decide) (List.mem_of_getElem? (i := 1) rfl) rfl dX3_copy_12 ?_
    refine lv_iload_n hx hb dX3_copy_15 rfl (lv_at hl 2 rfl) ?_
    refine v_i C hd hl M_X1_isAddress gX3_copy_X1_isAddress (c_X1_isAddress l B k (ad 0) (xs_now χ) p1 _ hw) ⟨rfl, rfl⟩ ⟨Nat.le_of_ble_eq_true rfl, Nat.le_of_ble_eq_true rfl⟩ (pN k ad χ) (fun _ => wX3 k ad χ) (fun _ => (pN k ad χ).symm) 1 1 rfl rfl rfl rfl rfl (Nat.le_of_ble_eq_true rfl) dX3_copy_16 ⟨Nat.le_of_ble_eq_true rfl, Nat.le_of_ble_eq_true rfl⟩ (fun r _ H locs hp hd => ?_)
    obtain ⟨b16, rfl, hw⟩ := hp
    refine lv_if_ne (tgt := 24) hx hb dX3_copy_19 (by decide) (fun c11 => ?_) (fun c11 => ?_)
    · replace hw := hw.1 ((bi_ne _).mp c11)
      refine lv_iload_n hx hb dX3_copy_24 rfl (lv_at hl 3 rfl) ?_
      refine lv_iconst (v := 1) hx hb dX3_copy_25 (by decide) ?_
      refine lv_icmp_lt (tgt := 35) hx hb dX3_copy_26 (by decide) (fun c7 => ?_) (fun c7 => ?_)
      · replace hw := hw.1 c7
        refine lv_bipush (v := (-2)) hx hb dX3_copy_35 (by decide) ?_
        exact r_i C hd dX3_copy_37 χ rfl hw
      · replace hw := hw.2 c7
        refine lv_iload_n hx hb dX3_copy_29 rfl (lv_at hl 3 rfl) ?_
        refine lv_bipush (v := 16) hx hb dX3_copy_30 (by decide) ?_
        refine lv_icmp_le (tgt := 38) hx hb dX3_copy_32 (by decide) (fun c8 => ?_) (fun c8 => ?_)
        · replace hw := hw.1 c8
          refine lv_aload_n hx hb dX3_copy_38 rfl (lv_at hl 0 rfl) ?_
          refine v_v C hd hl M_X3_startTrial gX3_copy_X3_startTrial (c_X3_startTrial l B k ad χ _ hw) ⟨rfl, rfl⟩ ⟨Nat.le_of_ble_eq_true rfl, Nat.le_of_ble_eq_true rfl⟩ (pm_all _) (fun u => wX3 k ad u) (fun _ => (pm_all _).symm) 0 3 rfl rfl rfl rfl rfl (Nat.le_of_ble_eq_true rfl) dX3_copy_39 ⟨Nat.le_of_ble_eq_true rfl, Nat.le_of_ble_eq_true rfl⟩ (fun χ39 H locs hw hd => ?_)
          refine lv_aload_n hx hb dX3_copy_42 rfl (lv_at hl 0 rfl) ?_
          refine g_get (v := .ref (ad 1 0)) C hd iX3_copy_X3 0 3 rfl rfl 1 (by decide) (List.mem_of_getElem? (i := 2) rfl) rfl dX3_copy_43 ?_
          refine lv_iload_n hx hb dX3_copy_46 rfl (lv_at hl 1 rfl) ?_
          refine lv_iload_n hx hb dX3_copy_47 rfl (lv_at hl 2 rfl) ?_
          refine lv_iload_n hx hb dX3_copy_48 rfl (lv_at hl 3 rfl) ?_
          refine v_i C hd hl M_X1_copyRow gX3_copy_X1_copyRow (c_X1_copyRow l B k (ad 1) (xs_trial χ39) p0 p1 p2 _ hw) ⟨rfl, rfl⟩ ⟨Nat.le_of_ble_eq_true rfl, Nat.le_of_ble_eq_true rfl⟩ (pT k ad χ39) (fun u => wX3 k ad (xs_setTrial χ39 u)) (fun u => (pT k ad (xs_setTrial χ39 u)).symm) 10 1 rfl rfl rfl rfl rfl (Nat.le_of_ble_eq_true rfl) dX3_copy_49 ⟨Nat.le_of_ble_eq_true rfl, Nat.le_of_ble_eq_true rfl⟩ (fun r49 σ49 H locs hw hd => ?_)
          refine lv_istore (lv' := [(4, .int r49), (0, .ref (ad 9 0)), (1, .int p0), (2, .int p1), (3, .int p2)]) hx hb dX3_copy_52 hl (by decide) rfl (fun ls hl => ?_)
          refine lv_iload hx hb dX3_copy_54 (lv_at hl 0 rfl) ?_
          refine lv_if_ne (tgt := 62) hx hb dX3_copy_56 (by decide) (fun c9 => ?_) (fun c9 => ?_)
          · replace hw := hw.2 c9
            refine lv_iload hx hb dX3_copy_62 (lv_at hl 0 rfl) ?_
            refine lv_iload_n hx hb dX3_copy_64 rfl (lv_at hl 4 rfl) ?_
            refine lv_icmp_ge (tgt := 84) hx hb dX3_copy_65 (by decide) (fun c10 => ?_) (fun c10 => ?_)
            · replace hw := hw.1 c10
              exact J84 r49 (xs_setTrial χ39 σ49) _ _ _ hd (lv_sub hl [1, 0] rfl) hw
            · replace hw := hw.2 c10
              refine lv_aload_n hx hb dX3_copy_68 rfl (lv_at hl 1 rfl) ?_
              refine v_v C hd hl M_X3_startTrial gX3_copy_X3_startTrial (c_X3_startTrial l B k ad (xs_setTrial χ39 σ49) _ hw) ⟨rfl, rfl⟩ ⟨Nat.le_of_ble_eq_true rfl, Nat.le_of_ble_eq_true rfl⟩ (pm_all _) (fun u => wX3 k ad u) (fun _ => (pm_all _).symm) 0 3 rfl rfl rfl rfl rfl (Nat.le_of_ble_eq_true rfl) dX3_copy_69 ⟨Nat.le_of_ble_eq_true rfl, Nat.le_of_ble_eq_true rfl⟩ (fun χ69 H locs hw hd => ?_)
              refine lv_aload_n hx hb dX3_copy_72 rfl (lv_at hl 1 rfl) ?_
              refine g_get (v := .ref (ad 1 0)) C hd iX3_copy_X3 0 3 rfl rfl 1 (by decide) (List.mem_of_getElem? (i := 2) rfl) rfl dX3_copy_73 ?_
              refine lv_iload_n hx hb dX3_copy_76 rfl (lv_at hl 2 rfl) ?_
              refine lv_iload_n hx hb dX3_copy_77 rfl (lv_at hl 3 rfl) ?_
              refine lv_iload hx hb dX3_copy_78 (lv_at hl 0 rfl) ?_
              refine v_i C hd hl M_X1_copyRow gX3_copy_X1_copyRow (c_X1_copyRow l B k (ad 1) (xs_trial χ69) p0 p1 r49 _ hw) ⟨rfl, rfl⟩ ⟨Nat.le_of_ble_eq_true rfl, Nat.le_of_ble_eq_true rfl⟩ (pT k ad χ69) (fun u => wX3 k ad (xs_setTrial χ69 u)) (fun u => (pT k ad (xs_setTrial χ69 u)).symm) 10 1 rfl rfl rfl rfl rfl (Nat.le_of_ble_eq_true rfl) dX3_copy_80 ⟨Nat.le_of_ble_eq_true rfl, Nat.le_of_ble_eq_true rfl⟩ (fun r80 σ80 H locs hw hd => ?_)
              refine lv_pop hx hb dX3_copy_83 rfl ?_
              exact J84 r49 (xs_setTrial χ69 σ80) _ _ _ hd (lv_sub hl [1, 0] rfl) hw
          · replace hw := hw.1 c9
            refine lv_bipush (v := (-5)) hx hb dX3_copy_59 (by decide) ?_
            exact r_i C hd dX3_copy_61 (xs_setTrial χ39 σ49) rfl hw
        · replace hw := hw.2 c8
          refine lv_bipush (v := (-2)) hx hb dX3_copy_35 (by decide) ?_
          exact r_i C hd dX3_copy_37 χ rfl hw
    · replace hw := hw.2 ((bi_eq _).mp c11)
      refine lv_iconst (v := (-1)) hx hb dX3_copy_22 (by decide) ?_
      exact r_i C hd dX3_copy_23 χ rfl hw
abbrev rm_X3_test : Room := { frames := 7, cells := 0, slots := 0, locals := 160 }
theorem M_X3_test : MI yX3_test wsX3_test cX3_test 2 (some .int) 1 := ⟨⟨_, rfl⟩, by decide +kernel, by decide +kernel, by decide +kernel, by decide +kernel⟩
theorem iX3_test_X3 : ∀ w ∈ wsX30, w ∈ wsX3_test := fun _ h => List.mem_cons_of_mem _ (List.mem_append_left _ (List.mem_append_left _ (List.mem_append_right _ h)))
theorem iX3_test_X1 : ∀ w ∈ wsX10, w ∈ wsX3_test := fun _ h => List.mem_cons_of_mem _ (List.mem_append_left _ (List.mem_append_right _ h))
theorem iX3_test_X2 : ∀ w ∈ wsX20, w ∈ wsX3_test := fun _ h => List.mem_cons_of_mem _ (List.mem_append_right _ h)
def wpX3_test (χ : XS) (p0 : Int32) (post : Int32 → XS → Prop) : Prop := wpX3_isHead p0 (fun b1 => ((b1 = true → wpX3_startTrial χ (fun χ10 => wpX1_testHead (xs_trial χ10) p0 (fun r19 σ19 => wpX3_settle (xs_setTrial χ10 σ19) r19 (fun r22 χ22 => post r22 χ22)))) ∧ (b1 = false → post (-1) χ)))
set_option maxHeartbeats 4000000 in
set_option maxRecDepth 100000 in
theorem c_X3_test (l : Launch) (B : va_G) (k : KT) (ad : Nat → Nat → Nat) (χ : XS) (p0 : Int32) (post : Int32 → XS → Prop) (hw : wpX3_test χ p0 post) : Cti l yX3_test wsX3_test rm_X3_test 0 0 B k [.ref (ad 9 0), .int p0] (wX3 k ad χ) (fun u => wX3 k ad u) post := by
  refine Cti.of M_X3_test (Nat.le_of_ble_eq_true rfl) ?_
  intro p e s m args below meth c A C hd ls hl
  have hx := C.1; have hb := C.2.1; have hml := C.2.2.1; have hts := C.2.2.2.2.1
  have hl : lv_has ls 2 [(0, .ref (ad 9 0)), (1, .int p0)] := hl
  rw [wpX3_test] at hw
  refine lv_iload_n hx hb dX3_test_0 rfl (lv_at hl 1 rfl) ?_
  refine s_i C hd hl M_X3_isHead gX3_test_X3_isHead rfl (c_X3_isHead l B k p0 _ hw) ⟨rfl, rfl⟩ ⟨Nat.le_of_ble_eq_true rfl, Nat.le_of_ble_eq_true rfl⟩ (pm_non _) (fun _ => wX3 k ad χ) (fun _ => List.Perm.refl _) rfl rfl (Nat.le_of_ble_eq_true rfl) dX3_test_1 ⟨Nat.le_of_ble_eq_true rfl, Nat.le_of_ble_eq_true rfl⟩ (fun r _ H locs hp hd => ?_)
  obtain ⟨b1, rfl, hw⟩ := hp
  refine lv_if_ne (tgt := 9) hx hb dX3_test_4 (by decide) (fun c2 => ?_) (fun c2 => ?_)
  · replace hw := hw.1 ((bi_ne _).mp c2)
    refine lv_aload_n hx hb dX3_test_9 rfl (lv_at hl 0 rfl) ?_
    refine v_v C hd hl M_X3_startTrial gX3_test_X3_startTrial (c_X3_startTrial l B k ad χ _ hw) ⟨rfl, rfl⟩ ⟨Nat.le_of_ble_eq_true rfl, Nat.le_of_ble_eq_true rfl⟩ (pm_all _) (fun u => wX3 k ad u) (fun _ => (pm_all _).symm) 0 3 rfl rfl rfl rfl rfl (Nat.le_of_ble_eq_true rfl) dX3_test_10 ⟨Nat.le_of_ble_eq_true rfl, Nat.le_of_ble_eq_true rfl⟩ (fun χ10 H locs hw hd => ?_)
    refine lv_aload_n hx hb dX3_test_13 rfl (lv_at hl 0 rfl) ?_
    refine lv_aload_n hx hb dX3_test_14 rfl (lv_at hl 0 rfl) ?_
    refine g_get (v := .ref (ad 1 0)) C hd iX3_test_X3 0 3 rfl rfl 1 (by decide) (List.mem_of_getElem? (i := 1) rfl) rfl dX3_test_15 ?_
    refine lv_iload_n hx hb dX3_test_18 rfl (lv_at hl 1 rfl) ?_
    refine v_i C hd hl M_X1_testHead gX3_test_X1_testHead (c_X1_testHead l B k (ad 1) (xs_trial χ10) p0 _ hw) ⟨rfl, rfl⟩ ⟨Nat.le_of_ble_eq_true rfl, Nat.le_of_ble_eq_true rfl⟩ (pT k ad χ10) (fun u => wX3 k ad (xs_setTrial χ10 u)) (fun u => (pT k ad (xs_setTrial χ10 u)).symm) 10 1 rfl rfl rfl rfl rfl (Nat.le_of_ble_eq_true rfl) dX3_test_19 ⟨Nat.le_of_ble_eq_true rfl, Nat.le_of_ble_eq_true rfl⟩ (fun r19 σ19 H locs hw hd => ?_)
    refine v_i C hd hl M_X3_settle gX3_test_X3_settle (c_X3_settle l B k ad (xs_setTrial χ10 σ19) r19 _ hw) ⟨rfl, rfl⟩ ⟨Nat.le_of_ble_eq_true rfl, Nat.le_of_ble_eq_true rfl⟩ (pm_all _) (fun u => wX3 k ad u) (fun _ => (pm_all _).symm) 0 3 rfl rfl rfl rfl rfl (Nat.le_of_ble_eq_true rfl) dX3_test_22 ⟨Nat.le_of_ble_eq_true rfl, Nat.le_of_ble_eq_true rfl⟩ (fun r22 χ22 H locs hw hd => ?_)
    exact r_i C hd dX3_test_25 χ22 rfl hw
  · replace hw := hw.2 ((bi_eq _).mp c2)
    refine lv_iconst (v := (-1)) hx hb dX3_test_7 (by decide) ?_
    exact r_i C hd dX3_test_8 χ rfl hw
abbrev rm_X3_perform : Room := { frames := 6, cells := 0, slots := 0, locals := 139 }
theorem M_X3_perform : MI yX3_perform wsX3_perform cX3_perform 6 (some .int) 0 := ⟨⟨_, rfl⟩, by decide +kernel, by decide +kernel, by decide +kernel, by decide +kernel⟩
theorem iX3_perform_X3 : ∀ w ∈ wsX30, w ∈ wsX3_perform := fun _ h => List.mem_cons_of_mem _ (List.mem_append_left _ (List.mem_append_left _ (List.mem_append_left _ (List.mem_append_right _ h))))
theorem iX3_perform_X0 : ∀ w ∈ wsX00, w ∈ wsX3_perform := fun _ h => List.mem_cons_of_mem _ (List.mem_append_left _ (List.mem_append_left _ (List.mem_append_right _ h)))
theorem iX3_perform_X1 : ∀ w ∈ wsX10, w ∈ wsX3_perform := fun _ h => List.mem_cons_of_mem _ (List.mem_append_left _ (List.mem_append_right _ h))
theorem iX3_perform_X2 : ∀ w ∈ wsX20, w ∈ wsX3_perform := fun _ h => List.mem_cons_of_mem _ (List.mem_append_right _ h)
def wpX3_perform_J83 (v25l2 : Int32) (post : Int32 → XS → Prop) (κ25 : Int32 → XS → Prop) (v83s0 : Int32) (χ83 : XS) : Prop := ((0 ≤ v83s0 → κ25 (v25l2 + 1) χ83) ∧ (¬ 0 ≤ v83s0 → post v83s0 χ83))
def wpX3_perform_L25  (post : Int32 → XS → Prop) : Nat → Int32 → XS → Prop
  | 0, _, _ => False
  | n25 + 1, v25l2, χ25 => wpX0_commandCount (xs_text χ25) (fun r30 => ((r30 ≤ v25l2 → wpX0_commandCount (xs_text χ25) (fun r104 => wpX3_settle χ25 r104 (fun r107 χ107 => post r107 χ107))) ∧ (¬ r30 ≤ v25l2 → wpX0_commandSector (xs_text χ25) v25l2 (fun r41 => wpX0_commandValue (xs_text χ25) v25l2 (fun r50 => ((r50 = (-5) → wpX1_readAt (xs_trial χ25) r41 (fun r67 σ67 => wpX3_perform_J83 v25l2 post (wpX3_perform_L25 post n25) r67 (xs_setTrial χ25 σ67))) ∧ (¬ r50 = (-5) → wpX1_writeAt (xs_trial χ25) r41 r50 (fun r80 σ80 => wpX3_perform_J83 v25l2 post (wpX3_perform_L25 post n25) r80 (xs_setTrial χ25 σ80)))))))))
def wpX3_perform (χ : XS) (post : Int32 → XS → Prop) : Prop := wpX0_parse (xs_text χ) (fun r4 τ4 => ((r4 = (-5) → wpX3_startTrial (xs_setText χ τ4) (fun χ20 => ∃ n25 : Nat, wpX3_perform_L25 post n25 0 χ20)) ∧ (¬ r4 = (-5) → post ((-100) - r4) (xs_setText χ τ4))))
set_option maxHeartbeats 4000000 in
set_option maxRecDepth 100000 in
theorem c_X3_perform (l : Launch) (B : va_G) (k : KT) (ad : Nat → Nat → Nat) (χ : XS) (post : Int32 → XS → Prop) (hw : wpX3_perform χ post) : Cti l yX3_perform wsX3_perform rm_X3_perform 0 0 B k [.ref (ad 9 0)] (wX3 k ad χ) (fun u => wX3 k ad u) post := by
  refine Cti.of M_X3_perform (Nat.le_of_ble_eq_true rfl) ?_
  intro p e s m args below meth c A C hd ls hl
  have hx := C.1; have hb := C.2.1; have hml := C.2.2.1; have hts := C.2.2.2.2.1
  have hl : lv_has ls 6 [(0, .ref (ad 9 0))] := hl
  have L25 : ∀ (n25 : Nat), ∀ (v25l2 : Int32) (χ25 : XS) (H : Heap) (locs : List Loc) (ls : Array Slot), Wd B A s.heap (wX3 k ad χ25) H locs → lv_has ls 6 [(0, .ref (ad 9 0)), (2, .int v25l2)] → wpX3_perform_L25  post n25 v25l2 χ25 → W p l e rm_X3_perform s m args below meth c H locs 0 0 (Qi below args s B A (fun u => wX3 k ad u) post 0 0) (F0 m 25 ls []) := by
    intro n25
    induction n25 with
    | zero => intro v25l2 χ25 H locs ls hd hl hw; exact absurd hw (by simp [wpX3_perform_L25])
    | succ n25 ih25 =>
      intro v25l2 χ25 H locs ls hd hl hw
      rw [wpX3_perform_L25] at hw
      have J83 : ∀ (v25l2 : Int32) (v83s0 : Int32) (χ83 : XS) (H : Heap) (locs : List Loc) (ls : Array Slot), Wd B A s.heap (wX3 k ad χ83) H locs → lv_has ls 6 [(0, .ref (ad 9 0)), (2, .int v25l2)] → wpX3_perform_J83 v25l2 post (wpX3_perform_L25 post n25) v83s0 χ83 → W p l e rm_X3_perform s m args below meth c H locs 0 0 (Qi below args s B A (fun u => wX3 k ad u) post 0 0) (F0 m 83 ls [.int v83s0]) := by
        intro v25l2 v83s0 χ83 H locs ls hd hl hw
        rw [wpX3_perform_J83] at hw
        refine lv_istore (lv' := [(5, .int v83s0), (0, .ref (ad 9 0)), (2, .int v25l2)]) hx hb dX3_perform_83 hl (by decide) rfl (fun ls hl => ?_)
        refine lv_iload hx hb dX3_perform_85 (lv_at hl 0 rfl) ?_
        refine lv_if_ge (tgt := 93) hx hb dX3_perform_87 (by decide) (fun c14 => ?_) (fun c14 => ?_)
        · replace hw := hw.1 c14
          refine lv_iinc (v := v25l2 + 1) (lv' := [(2, .int (v25l2 + 1)), (5, .int v83s0), (0, .ref (ad 9 0))]) hx hb dX3_perform_93 hl (k := 2) rfl rfl (by decide) rfl (fun ls hl => ?_)
          refine lv_goto (tgt := 25) hx hb dX3_perform_96 (by decide) ?_
          exact ih25 (v25l2 + 1) χ83 _ _ _ hd (lv_sub hl [2, 0] rfl) hw
        · replace hw := hw.2 c14
          refine lv_iload hx hb dX3_perform_90 (lv_at hl 0 rfl) ?_
          exact r_i C hd dX3_perform_92 χ83 rfl hw
      refine lv_iload_n hx hb dX3_perform_25 rfl (lv_at hl 1 rfl) ?_
      refine lv_aload_n hx hb dX3_perform_26 rfl (lv_at hl 0 rfl) ?_
      refine g_get (v := .ref (ad 3 0)) C hd iX3_perform_X3 0 3 rfl rfl 4 (by decide) (List.mem_of_getElem? (i := 1) rfl) rfl dX3_perform_27 ?_
      refine v_i C hd hl M_X0_commandCount gX3_perform_X0_commandCount (c_X0_commandCount l B k (ad 3) (xs_text χ25) _ hw) ⟨rfl, rfl⟩ ⟨Nat.le_of_ble_eq_true rfl, Nat.le_of_ble_eq_true rfl⟩ (pC k ad χ25) (fun _ => wX3 k ad χ25) (fun _ => (pC k ad χ25).symm) 66 0 rfl rfl rfl rfl rfl (Nat.le_of_ble_eq_true rfl) dX3_perform_30 ⟨Nat.le_of_ble_eq_true rfl, Nat.le_of_ble_eq_true rfl⟩ (fun r30 _ H locs hw hd => ?_)
      refine lv_icmp_ge (tgt := 99) hx hb dX3_perform_33 (by decide) (fun c15 => ?_) (fun c15 => ?_)
      · replace hw := hw.1 c15
        refine lv_aload_n hx hb dX3_perform_99 rfl (lv_at hl 0 rfl) ?_
        refine lv_aload_n hx hb dX3_perform_100 rfl (lv_at hl 0 rfl) ?_
        refine g_get (v := .ref (ad 3 0)) C hd iX3_perform_X3 0 3 rfl rfl 4 (by decide) (List.mem_of_getElem? (i := 1) rfl) rfl dX3_perform_101 ?_
        refine v_i C hd hl M_X0_commandCount gX3_perform_X0_commandCount (c_X0_commandCount l B k (ad 3) (xs_text χ25) _ hw) ⟨rfl, rfl⟩ ⟨Nat.le_of_ble_eq_true rfl, Nat.le_of_ble_eq_true rfl⟩ (pC k ad χ25) (fun _ => wX3 k ad χ25) (fun _ => (pC k ad χ25).symm) 66 0 rfl rfl rfl rfl rfl (Nat.le_of_ble_eq_true rfl) dX3_perform_104 ⟨Nat.le_of_ble_eq_true rfl, Nat.le_of_ble_eq_true rfl⟩ (fun r104 _ H locs hw hd => ?_)
        refine v_i C hd hl M_X3_settle gX3_perform_X3_settle (c_X3_settle l B k ad χ25 r104 _ hw) ⟨rfl, rfl⟩ ⟨Nat.le_of_ble_eq_true rfl, Nat.le_of_ble_eq_true rfl⟩ (pm_all _) (fun u => wX3 k ad u) (fun _ => (pm_all _).symm) 0 3 rfl rfl rfl rfl rfl (Nat.le_of_ble_eq_true rfl) dX3_perform_107 ⟨Nat.le_of_ble_eq_true rfl, Nat.le_of_ble_eq_true rfl⟩ (fun r107 χ107 H locs hw hd => ?_)
        exact r_i C hd dX3_perform_110 χ107 rfl hw
      · replace hw := hw.2 c15
        refine lv_aload_n hx hb dX3_perform_36 rfl (lv_at hl 0 rfl) ?_
        refine g_get (v := .ref (ad 3 0)) C hd iX3_perform_X3 0 3 rfl rfl 4 (by decide) (List.mem_of_getElem? (i := 1) rfl) rfl dX3_perform_37 ?_
        refine lv_iload_n hx hb dX3_perform_40 rfl (lv_at hl 1 rfl) ?_
        refine v_i C hd hl M_X0_commandSector gX3_perform_X0_commandSector (c_X0_commandSector l B k (ad 3) (xs_text χ25) v25l2 _ hw) ⟨rfl, rfl⟩ ⟨Nat.le_of_ble_eq_true rfl, Nat.le_of_ble_eq_true rfl⟩ (pC k ad χ25) (fun _ => wX3 k ad χ25) (fun _ => (pC k ad χ25).symm) 66 0 rfl rfl rfl rfl rfl (Nat.le_of_ble_eq_true rfl) dX3_perform_41 ⟨Nat.le_of_ble_eq_true rfl, Nat.le_of_ble_eq_true rfl⟩ (fun r41 _ H locs hw hd => ?_)
        refine lv_istore_n (lv' := [(3, .int r41), (0, .ref (ad 9 0)), (2, .int v25l2)]) hx hb dX3_perform_44 rfl hl (by decide) rfl (fun ls hl => ?_)
        refine lv_aload_n hx hb dX3_perform_45 rfl (lv_at hl 1 rfl) ?_
        refine g_get (v := .ref (ad 3 0)) C hd iX3_perform_X3 0 3 rfl rfl 4 (by decide) (List.mem_of_getElem? (i := 1) rfl) rfl dX3_perform_46 ?_
        refine lv_iload_n hx hb dX3_perform_49 rfl (lv_at hl 2 rfl) ?_
        refine v_i C hd hl M_X0_commandValue gX3_perform_X0_commandValue (c_X0_commandValue l B k (ad 3) (xs_text χ25) v25l2 _ hw) ⟨rfl, rfl⟩ ⟨Nat.le_of_ble_eq_true rfl, Nat.le_of_ble_eq_true rfl⟩ (pC k ad χ25) (fun _ => wX3 k ad χ25) (fun _ => (pC k ad χ25).symm) 66 0 rfl rfl rfl rfl rfl (Nat.le_of_ble_eq_true rfl) dX3_perform_50 ⟨Nat.le_of_ble_eq_true rfl, Nat.le_of_ble_eq_true rfl⟩ (fun r50 _ H locs hw hd => ?_)
        refine lv_istore (lv' := [(4, .int r50), (3, .int r41), (0, .ref (ad 9 0)), (2, .int v25l2)]) hx hb dX3_perform_53 hl (by decide) rfl (fun ls hl => ?_)
        refine lv_iload hx hb dX3_perform_55 (lv_at hl 0 rfl) ?_
        refine lv_bipush (v := (-5)) hx hb dX3_perform_57 (by decide) ?_
        refine lv_icmp_ne (tgt := 73) hx hb dX3_perform_59 (by decide) (fun c16 => ?_) (fun c16 => ?_)
        · replace hw := hw.2 c16
          refine lv_aload_n hx hb dX3_perform_73 rfl (lv_at hl 2 rfl) ?_
          refine g_get (v := .ref (ad 1 0)) C hd iX3_perform_X3 0 3 rfl rfl 1 (by decide) (List.mem_of_getElem? (i := 2) rfl) rfl dX3_perform_74 ?_
          refine lv_iload_n hx hb dX3_perform_77 rfl (lv_at hl 1 rfl) ?_
          refine lv_iload hx hb dX3_perform_78 (lv_at hl 0 rfl) ?_
          refine v_i C hd hl M_X1_writeAt gX3_perform_X1_writeAt (c_X1_writeAt l B k (ad 1) (xs_trial χ25) r41 r50 _ hw) ⟨rfl, rfl⟩ ⟨Nat.le_of_ble_eq_true rfl, Nat.le_of_ble_eq_true rfl⟩ (pT k ad χ25) (fun u => wX3 k ad (xs_setTrial χ25 u)) (fun u => (pT k ad (xs_setTrial χ25 u)).symm) 10 1 rfl rfl rfl rfl rfl (Nat.le_of_ble_eq_true rfl) dX3_perform_80 ⟨Nat.le_of_ble_eq_true rfl, Nat.le_of_ble_eq_true rfl⟩ (fun r80 σ80 H locs hw hd => ?_)
          exact J83 v25l2 r80 (xs_setTrial χ25 σ80) _ _ _ hd (lv_sub hl [2, 3] rfl) hw
        · replace hw := hw.1 c16
          refine lv_aload_n hx hb dX3_perform_62 rfl (lv_at hl 2 rfl) ?_
          refine g_get (v := .ref (ad 1 0)) C hd iX3_perform_X3 0 3 rfl rfl 1 (by decide) (List.mem_of_getElem? (i := 2) rfl) rfl dX3_perform_63 ?_
          refine lv_iload_n hx hb dX3_perform_66 rfl (lv_at hl 1 rfl) ?_
          refine v_i C hd hl M_X1_readAt gX3_perform_X1_readAt (c_X1_readAt l B k (ad 1) (xs_trial χ25) r41 _ hw) ⟨rfl, rfl⟩ ⟨Nat.le_of_ble_eq_true rfl, Nat.le_of_ble_eq_true rfl⟩ (pT k ad χ25) (fun u => wX3 k ad (xs_setTrial χ25 u)) (fun u => (pT k ad (xs_setTrial χ25 u)).symm) 10 1 rfl rfl rfl rfl rfl (Nat.le_of_ble_eq_true rfl) dX3_perform_67 ⟨Nat.le_of_ble_eq_true rfl, Nat.le_of_ble_eq_true rfl⟩ (fun r67 σ67 H locs hw hd => ?_)
          refine lv_goto (tgt := 83) hx hb dX3_perform_70 (by decide) ?_
          exact J83 v25l2 r67 (xs_setTrial χ25 σ67) _ _ _ hd (lv_sub hl [2, 3] rfl) hw
  rw [wpX3_perform] at hw
  refine lv_aload_n hx hb dX3_perform_0 rfl (lv_at hl 0 rfl) ?_
  refine g_get (v := .ref (ad 3 0)) C hd iX3_perform_X3 0 3 rfl rfl 4 (by decide) (List.mem_of_getElem? (i := 1) rfl) rfl dX3_perform_1 ?_
  refine v_i C hd hl M_X0_parse gX3_perform_X0_parse (c_X0_parse l B k (ad 3) (xs_text χ) _ hw) ⟨rfl, rfl⟩ ⟨Nat.le_of_ble_eq_true rfl, Nat.le_of_ble_eq_true rfl⟩ (pC k ad χ) (fun u => wX3 k ad (xs_setText χ u)) (fun u => (pC k ad (xs_setText χ u)).symm) 66 0 rfl rfl rfl rfl rfl (Nat.le_of_ble_eq_true rfl) dX3_perform_4 ⟨Nat.le_of_ble_eq_true rfl, Nat.le_of_ble_eq_true rfl⟩ (fun r4 τ4 H locs hw hd => ?_)
  refine lv_istore_n (lv' := [(1, .int r4), (0, .ref (ad 9 0))]) hx hb dX3_perform_7 rfl hl (by decide) rfl (fun ls hl => ?_)
  refine lv_iload_n hx hb dX3_perform_8 rfl (lv_at hl 0 rfl) ?_
  refine lv_bipush (v := (-5)) hx hb dX3_perform_9 (by decide) ?_
  refine lv_icmp_eq (tgt := 19) hx hb dX3_perform_11 (by decide) (fun c17 => ?_) (fun c17 => ?_)
  · replace hw := hw.1 c17
    refine lv_aload_n hx hb dX3_perform_19 rfl (lv_at hl 1 rfl) ?_
    refine v_v C hd hl M_X3_startTrial gX3_perform_X3_startTrial (c_X3_startTrial l B k ad (xs_setText χ τ4) _ hw) ⟨rfl, rfl⟩ ⟨Nat.le_of_ble_eq_true rfl, Nat.le_of_ble_eq_true rfl⟩ (pm_all _) (fun u => wX3 k ad u) (fun _ => (pm_all _).symm) 0 3 rfl rfl rfl rfl rfl (Nat.le_of_ble_eq_true rfl) dX3_perform_20 ⟨Nat.le_of_ble_eq_true rfl, Nat.le_of_ble_eq_true rfl⟩ (fun χ20 H locs hw hd => ?_)
    refine lv_iconst (v := 0) hx hb dX3_perform_23 (by decide) ?_
    refine lv_istore_n (lv' := [(2, .int 0), (1, .int r4), (0, .ref (ad 9 0))]) hx hb dX3_perform_24 rfl hl (by decide) rfl (fun ls hl => ?_)
    obtain ⟨n, hw⟩ := hw
    exact L25 n 0 χ20 _ _ _ hd (lv_sub hl [2, 0] rfl) hw
  · replace hw := hw.2 c17
    refine lv_bipush (v := (-100)) hx hb dX3_perform_14 (by decide) ?_
    refine lv_iload_n hx hb dX3_perform_16 rfl (lv_at hl 0 rfl) ?_
    refine lv_isub hx hb dX3_perform_17 ?_
    exact r_i C hd dX3_perform_18 (xs_setText χ τ4) rfl hw
abbrev rm_X3_giveBack : Room := { frames := 5, cells := 0, slots := 0, locals := 111 }
theorem M_X3_giveBack : MI yX3_giveBack wsX3_giveBack cX3_giveBack 2 (some .int) 1 := ⟨⟨_, rfl⟩, by decide +kernel, by decide +kernel, by decide +kernel, by decide +kernel⟩
theorem iX3_giveBack_X3 : ∀ w ∈ wsX30, w ∈ wsX3_giveBack := fun _ h => List.mem_cons_of_mem _ (List.mem_append_left _ (List.mem_append_left _ (List.mem_append_right _ h)))
theorem iX3_giveBack_X1 : ∀ w ∈ wsX10, w ∈ wsX3_giveBack := fun _ h => List.mem_cons_of_mem _ (List.mem_append_left _ (List.mem_append_right _ h))
theorem iX3_giveBack_X2 : ∀ w ∈ wsX20, w ∈ wsX3_giveBack := fun _ h => List.mem_cons_of_mem _ (List.mem_append_right _ h)
def wpX3_giveBack (χ : XS) (p0 : Int32) (post : Int32 → XS → Prop) : Prop := wpX3_startTrial χ (fun χ1 => wpX1_giveBackAt (xs_trial χ1) p0 (fun r10 σ10 => wpX3_settle (xs_setTrial χ1 σ10) r10 (fun r13 χ13 => post r13 χ13)))
set_option maxHeartbeats 4000000 in
set_option maxRecDepth 100000 in
theorem c_X3_giveBack (l : Launch) (B : va_G) (k : KT) (ad : Nat → Nat → Nat) (χ : XS) (p0 : Int32) (post : Int32 → XS → Prop) (hw : wpX3_giveBack χ p0 post) : Cti l yX3_giveBack wsX3_giveBack rm_X3_giveBack 0 0 B k [.ref (ad 9 0), .int p0] (wX3 k ad χ) (fun u => wX3 k ad u) post := by
  refine Cti.of M_X3_giveBack (Nat.le_of_ble_eq_true rfl) ?_
  intro p e s m args below meth c A C hd ls hl
  have hx := C.1; have hb := C.2.1; have hml := C.2.2.1; have hts := C.2.2.2.2.1
  have hl : lv_has ls 2 [(0, .ref (ad 9 0)), (1, .int p0)] := hl
  rw [wpX3_giveBack] at hw
  refine lv_aload_n hx hb dX3_giveBack_0 rfl (lv_at hl 0 rfl) ?_
  refine v_v C hd hl M_X3_startTrial gX3_giveBack_X3_startTrial (c_X3_startTrial l B k ad χ _ hw) ⟨rfl, rfl⟩ ⟨Nat.le_of_ble_eq_true rfl, Nat.le_of_ble_eq_true rfl⟩ (pm_all _) (fun u => wX3 k ad u) (fun _ => (pm_all _).symm) 0 3 rfl rfl rfl rfl rfl (Nat.le_of_ble_eq_true rfl) dX3_giveBack_1 ⟨Nat.le_of_ble_eq_true rfl, Nat.le_of_ble_eq_true rfl⟩ (fun χ1 H locs hw hd => ?_)
  refine lv_aload_n hx hb dX3_giveBack_4 rfl (lv_at hl 0 rfl) ?_
  refine lv_aload_n hx hb dX3_giveBack_5 rfl (lv_at hl 0 rfl) ?_
  refine g_get (v := .ref (ad 1 0)) C hd iX3_giveBack_X3 0 3 rfl rfl 1 (by decide) (List.mem_of_getElem? (i := 1) rfl) rfl dX3_giveBack_6 ?_
  refine lv_iload_n hx hb dX3_giveBack_9 rfl (lv_at hl 1 rfl) ?_
  refine v_i C hd hl M_X1_giveBackAt gX3_giveBack_X1_giveBackAt (c_X1_giveBackAt l B k (ad 1) (xs_trial χ1) p0 _ hw) ⟨rfl, rfl⟩ ⟨Nat.le_of_ble_eq_true rfl, Nat.le_of_ble_eq_true rfl⟩ (pT k ad χ1) (fun u => wX3 k ad (xs_setTrial χ1 u)) (fun u => (pT k ad (xs_setTrial χ1 u)).symm) 10 1 rfl rfl rfl rfl rfl (Nat.le_of_ble_eq_true rfl) dX3_giveBack_10 ⟨Nat.le_of_ble_eq_true rfl, Nat.le_of_ble_eq_true rfl⟩ (fun r10 σ10 H locs hw hd => ?_)
  refine v_i C hd hl M_X3_settle gX3_giveBack_X3_settle (c_X3_settle l B k ad (xs_setTrial χ1 σ10) r10 _ hw) ⟨rfl, rfl⟩ ⟨Nat.le_of_ble_eq_true rfl, Nat.le_of_ble_eq_true rfl⟩ (pm_all _) (fun u => wX3 k ad u) (fun _ => (pm_all _).symm) 0 3 rfl rfl rfl rfl rfl (Nat.le_of_ble_eq_true rfl) dX3_giveBack_13 ⟨Nat.le_of_ble_eq_true rfl, Nat.le_of_ble_eq_true rfl⟩ (fun r13 χ13 H locs hw hd => ?_)
  exact r_i C hd dX3_giveBack_16 χ13 rfl hw
abbrev rm_X3_giveUp : Room := { frames := 6, cells := 0, slots := 0, locals := 138 }
theorem M_X3_giveUp : MI yX3_giveUp wsX3_giveUp cX3_giveUp 2 (some .int) 1 := ⟨⟨_, rfl⟩, by decide +kernel, by decide +kernel, by decide +kernel, by decide +kernel⟩
theorem iX3_giveUp_X3 : ∀ w ∈ wsX30, w ∈ wsX3_giveUp := fun _ h => List.mem_cons_of_mem _ (List.mem_append_left _ (List.mem_append_left _ (List.mem_append_right _ h)))
theorem iX3_giveUp_X1 : ∀ w ∈ wsX10, w ∈ wsX3_giveUp := fun _ h => List.mem_cons_of_mem _ (List.mem_append_left _ (List.mem_append_right _ h))
theorem iX3_giveUp_X2 : ∀ w ∈ wsX20, w ∈ wsX3_giveUp := fun _ h => List.mem_cons_of_mem _ (List.mem_append_right _ h)
def wpX3_giveUp (χ : XS) (p0 : Int32) (post : Int32 → XS → Prop) : Prop := wpX3_isHead p0 (fun b1 => ((b1 = true → wpX1_othersAreGivenUp (xs_now χ) p0 (fun b14 => ((b14 = true → post (-4) χ) ∧ (b14 = false → wpX1_isGivenUp (xs_now χ) p0 (fun b28 => ((b28 = true → post (-5) χ) ∧ (b28 = false → wpX3_startTrial χ (fun χ38 => wpX1_vacate (xs_trial χ38) p0 (fun r47 σ47 => wpX3_settle (xs_setTrial χ38 σ47) r47 (fun r50 χ50 => post r50 χ50)))))))))) ∧ (b1 = false → post (-1) χ)))
set_option maxHeartbeats 4000000 in
set_option maxRecDepth 100000 in
theorem c_X3_giveUp (l : Launch) (B : va_G) (k : KT) (ad : Nat → Nat → Nat) (χ : XS) (p0 : Int32) (post : Int32 → XS → Prop) (hw : wpX3_giveUp χ p0 post) : Cti l yX3_giveUp wsX3_giveUp rm_X3_giveUp 0 0 B k [.ref (ad 9 0), .int p0] (wX3 k ad χ) (fun u => wX3 k ad u) post := by
  refine Cti.of M_X3_giveUp (Nat.le_of_ble_eq_true rfl) ?_
  intro p e s m args below meth c A C hd ls hl
  have hx := C.1; have hb := C.2.1; have hml := C.2.2.1; have hts := C.2.2.2.2.1
  have hl : lv_has ls 2 [(0, .ref (ad 9 0)), (1, .int p0)] := hl
  rw [wpX3_giveUp] at hw
  refine lv_iload_n hx hb dX3_giveUp_0 rfl (lv_at hl 1 rfl) ?_
  refine s_i C hd hl M_X3_isHead gX3_giveUp_X3_isHead rfl (c_X3_isHead l B k p0 _ hw) ⟨rfl, rfl⟩ ⟨Nat.le_of_ble_eq_true rfl, Nat.le_of_ble_eq_true rfl⟩ (pm_non _) (fun _ => wX3 k ad χ) (fun _ => List.Perm.refl _) rfl rfl (Nat.le_of_ble_eq_true rfl) dX3_giveUp_1 ⟨Nat.le_of_ble_eq_true rfl, Nat.le_of_ble_eq_true rfl⟩ (fun r _ H locs hp hd => ?_)
  obtain ⟨b1, rfl, hw⟩ := hp
  refine lv_if_ne (tgt := 9) hx hb dX3_giveUp_4 (by decide) (fun c6 => ?_) (fun c6 => ?_)
  · replace hw := hw.1 ((bi_ne _).mp c6)
    refine lv_aload_n hx hb dX3_giveUp_9 rfl (lv_at hl 0 rfl) ?_
    refine g_get (v := .ref (ad 0 0)) C hd iX3_giveUp_X3 0 3 rfl rfl 0 (by decide) (List.mem_of_getElem? (i := 1) rfl) rfl dX3_giveUp_10 ?_
    refine lv_iload_n hx hb dX3_giveUp_13 rfl (lv_at hl 1 rfl) ?_
    refine v_i C hd hl M_X1_othersAreGivenUp gX3_giveUp_X1_othersAreGivenUp (c_X1_othersAreGivenUp l B k (ad 0) (xs_now χ) p0 _ hw) ⟨rfl, rfl⟩ ⟨Nat.le_of_ble_eq_true rfl, Nat.le_of_ble_eq_true rfl⟩ (pN k ad χ) (fun _ => wX3 k ad χ) (fun _ => (pN k ad χ).symm) 1 1 rfl rfl rfl rfl rfl (Nat.le_of_ble_eq_true rfl) dX3_giveUp_14 ⟨Nat.le_of_ble_eq_true rfl, Nat.le_of_ble_eq_true rfl⟩ (fun r _ H locs hp hd => ?_)
    obtain ⟨b14, rfl, hw⟩ := hp
    refine lv_if_eq (tgt := 23) hx hb dX3_giveUp_17 (by decide) (fun c5 => ?_) (fun c5 => ?_)
    · replace hw := hw.2 ((bi_eq _).mp c5)
      refine lv_aload_n hx hb dX3_giveUp_23 rfl (lv_at hl 0 rfl) ?_
      refine g_get (v := .ref (ad 0 0)) C hd iX3_giveUp_X3 0 3 rfl rfl 0 (by decide) (List.mem_of_getElem? (i := 1) rfl) rfl dX3_giveUp_24 ?_
      refine lv_iload_n hx hb dX3_giveUp_27 rfl (lv_at hl 1 rfl) ?_
      refine v_i C hd hl M_X1_isGivenUp gX3_giveUp_X1_isGivenUp (c_X1_isGivenUp l B k (ad 0) (xs_now χ) p0 _ hw) ⟨rfl, rfl⟩ ⟨Nat.le_of_ble_eq_true rfl, Nat.le_of_ble_eq_true rfl⟩ (pN k ad χ) (fun _ => wX3 k ad χ) (fun _ => (pN k ad χ).symm) 1 1 rfl rfl rfl rfl rfl (Nat.le_of_ble_eq_true rfl) dX3_giveUp_28 ⟨Nat.le_of_ble_eq_true rfl, Nat.le_of_ble_eq_true rfl⟩ (fun r _ H locs hp hd => ?_)
      obtain ⟨b28, rfl, hw⟩ := hp
      refine lv_if_eq (tgt := 37) hx hb dX3_giveUp_31 (by decide) (fun c4 => ?_) (fun c4 => ?_)
      · replace hw := hw.2 ((bi_eq _).mp c4)
        refine lv_aload_n hx hb dX3_giveUp_37 rfl (lv_at hl 0 rfl) ?_
        refine v_v C hd hl M_X3_startTrial gX3_giveUp_X3_startTrial (c_X3_startTrial l B k ad χ _ hw) ⟨rfl, rfl⟩ ⟨Nat.le_of_ble_eq_true rfl, Nat.le_of_ble_eq_true rfl⟩ (pm_all _) (fun u => wX3 k ad u) (fun _ => (pm_all _).symm) 0 3 rfl rfl rfl rfl rfl (Nat.le_of_ble_eq_true rfl) dX3_giveUp_38 ⟨Nat.le_of_ble_eq_true rfl, Nat.le_of_ble_eq_true rfl⟩ (fun χ38 H locs hw hd => ?_)
        refine lv_aload_n hx hb dX3_giveUp_41 rfl (lv_at hl 0 rfl) ?_
        refine lv_aload_n hx hb dX3_giveUp_42 rfl (lv_at hl 0 rfl) ?_
        refine g_get (v := .ref (ad 1 0)) C hd iX3_giveUp_X3 0 3 rfl rfl 1 (by decide) (List.mem_of_getElem? (i := 2) rfl) rfl dX3_giveUp_43 ?_
        refine lv_iload_n hx hb dX3_giveUp_46 rfl (lv_at hl 1 rfl) ?_
        refine v_i C hd hl M_X1_vacate gX3_giveUp_X1_vacate (c_X1_vacate l B k (ad 1) (xs_trial χ38) p0 _ hw) ⟨rfl, rfl⟩ ⟨Nat.le_of_ble_eq_true rfl, Nat.le_of_ble_eq_true rfl⟩ (pT k ad χ38) (fun u => wX3 k ad (xs_setTrial χ38 u)) (fun u => (pT k ad (xs_setTrial χ38 u)).symm) 10 1 rfl rfl rfl rfl rfl (Nat.le_of_ble_eq_true rfl) dX3_giveUp_47 ⟨Nat.le_of_ble_eq_true rfl, Nat.le_of_ble_eq_true rfl⟩ (fun r47 σ47 H locs hw hd => ?_)
        refine v_i C hd hl M_X3_settle gX3_giveUp_X3_settle (c_X3_settle l B k ad (xs_setTrial χ38 σ47) r47 _ hw) ⟨rfl, rfl⟩ ⟨Nat.le_of_ble_eq_true rfl, Nat.le_of_ble_eq_true rfl⟩ (pm_all _) (fun u => wX3 k ad u) (fun _ => (pm_all _).symm) 0 3 rfl rfl rfl rfl rfl (Nat.le_of_ble_eq_true rfl) dX3_giveUp_50 ⟨Nat.le_of_ble_eq_true rfl, Nat.le_of_ble_eq_true rfl⟩ (fun r50 χ50 H locs hw hd => ?_)
        exact r_i C hd dX3_giveUp_53 χ50 rfl hw
      · replace hw := hw.1 ((bi_ne _).mp c4)
        refine lv_bipush (v := (-5)) hx hb dX3_giveUp_34 (by decide) ?_
        exact r_i C hd dX3_giveUp_36 χ rfl hw
    · replace hw := hw.1 ((bi_ne _).mp c5)
      refine lv_bipush (v := (-4)) hx hb dX3_giveUp_20 (by decide) ?_
      exact r_i C hd dX3_giveUp_22 χ rfl hw
  · replace hw := hw.2 ((bi_eq _).mp c6)
    refine lv_iconst (v := (-1)) hx hb dX3_giveUp_7 (by decide) ?_
    exact r_i C hd dX3_giveUp_8 χ rfl hw
abbrev rm_X3_undo : Room := { frames := 3, cells := 0, slots := 0, locals := 82 }
theorem M_X3_undo : MI yX3_undo wsX3_undo cX3_undo 1 (some .int) 0 := ⟨⟨_, rfl⟩, by decide +kernel, by decide +kernel, by decide +kernel, by decide +kernel⟩
theorem iX3_undo_X3 : ∀ w ∈ wsX30, w ∈ wsX3_undo := fun _ h => List.mem_cons_of_mem _ (List.mem_append_left _ (List.mem_append_left _ (List.mem_append_right _ h)))
theorem iX3_undo_X2 : ∀ w ∈ wsX20, w ∈ wsX3_undo := fun _ h => List.mem_cons_of_mem _ (List.mem_append_left _ (List.mem_append_right _ h))
theorem iX3_undo_X1 : ∀ w ∈ wsX10, w ∈ wsX3_undo := fun _ h => List.mem_cons_of_mem _ (List.mem_append_right _ h)
def wpX3_undo (χ : XS) (post : Int32 → XS → Prop) : Prop := wpX2_states (xs_history χ) (fun r4 => ((r4 = 0 → post (-5) χ) ∧ (¬ r4 = 0 → wpX2_takeBack (xs_history χ) (xs_now χ) (fun η21 σ21 => wpX2_states η21 (fun r28 => post r28 (xs_setNow (xs_setHistory χ η21) σ21))))))
set_option maxHeartbeats 4000000 in
set_option maxRecDepth 100000 in
theorem c_X3_undo (l : Launch) (B : va_G) (k : KT) (ad : Nat → Nat → Nat) (χ : XS) (post : Int32 → XS → Prop) (hw : wpX3_undo χ post) : Cti l yX3_undo wsX3_undo rm_X3_undo 0 0 B k [.ref (ad 9 0)] (wX3 k ad χ) (fun u => wX3 k ad u) post := by
  refine Cti.of M_X3_undo (Nat.le_of_ble_eq_true rfl) ?_
  intro p e s m args below meth c A C hd ls hl
  have hx := C.1; have hb := C.2.1; have hml := C.2.2.1; have hts := C.2.2.2.2.1
  have hl : lv_has ls 1 [(0, .ref (ad 9 0))] := hl
  rw [wpX3_undo] at hw
  refine lv_aload_n hx hb dX3_undo_0 rfl (lv_at hl 0 rfl) ?_
  refine g_get (v := .ref (ad 4 0)) C hd iX3_undo_X3 0 3 rfl rfl 3 (by decide) (List.mem_of_getElem? (i := 1) rfl) rfl dX3_undo_1 ?_
  refine v_i C hd hl M_X2_states gX3_undo_X2_states (c_X2_states l B k (ad 4) (fun j => ad (5 + j)) (xs_history χ) _ hw) ⟨rfl, rfl⟩ ⟨Nat.le_of_ble_eq_true rfl, Nat.le_of_ble_eq_true rfl⟩ (pH k ad χ) (fun _ => wX3 k ad χ) (fun _ => (pH k ad χ).symm) 28 2 rfl rfl rfl rfl rfl (Nat.le_of_ble_eq_true rfl) dX3_undo_4 ⟨Nat.le_of_ble_eq_true rfl, Nat.le_of_ble_eq_true rfl⟩ (fun r4 _ H locs hw hd => ?_)
  refine lv_if_ne (tgt := 13) hx hb dX3_undo_7 (by decide) (fun c2 => ?_) (fun c2 => ?_)
  · replace hw := hw.2 c2
    refine lv_aload_n hx hb dX3_undo_13 rfl (lv_at hl 0 rfl) ?_
    refine g_get (v := .ref (ad 4 0)) C hd iX3_undo_X3 0 3 rfl rfl 3 (by decide) (List.mem_of_getElem? (i := 1) rfl) rfl dX3_undo_14 ?_
    refine lv_aload_n hx hb dX3_undo_17 rfl (lv_at hl 0 rfl) ?_
    refine g_get (v := .ref (ad 0 0)) C hd iX3_undo_X3 0 3 rfl rfl 0 (by decide) (List.mem_of_getElem? (i := 2) rfl) rfl dX3_undo_18 ?_
    refine v_v C hd hl M_X2_takeBack gX3_undo_X2_takeBack (c_X2_takeBack l B k (ad 4) (fun j => ad (5 + j)) (ad 0) (xs_history χ) (xs_now χ) _ hw) ⟨rfl, rfl⟩ ⟨Nat.le_of_ble_eq_true rfl, Nat.le_of_ble_eq_true rfl⟩ (pHN k ad _) (fun u => wX3 k ad (xs_setNow (xs_setHistory χ u.1) u.2)) (fun u => (pHN k ad (xs_setNow (xs_setHistory χ u.1) u.2)).symm) 28 2 rfl rfl rfl rfl rfl (Nat.le_of_ble_eq_true rfl) dX3_undo_21 ⟨Nat.le_of_ble_eq_true rfl, Nat.le_of_ble_eq_true rfl⟩ (fun ⟨η21, σ21⟩ H locs hw hd => ?_)
    refine lv_aload_n hx hb dX3_undo_24 rfl (lv_at hl 0 rfl) ?_
    refine g_get (v := .ref (ad 4 0)) C hd iX3_undo_X3 0 3 rfl rfl 3 (by decide) (List.mem_of_getElem? (i := 1) rfl) rfl dX3_undo_25 ?_
    refine v_i C hd hl M_X2_states gX3_undo_X2_states (c_X2_states l B k (ad 4) (fun j => ad (5 + j)) η21 _ hw) ⟨rfl, rfl⟩ ⟨Nat.le_of_ble_eq_true rfl, Nat.le_of_ble_eq_true rfl⟩ (pH k ad (xs_setNow (xs_setHistory χ η21) σ21)) (fun _ => wX3 k ad (xs_setNow (xs_setHistory χ η21) σ21)) (fun _ => (pH k ad (xs_setNow (xs_setHistory χ η21) σ21)).symm) 28 2 rfl rfl rfl rfl rfl (Nat.le_of_ble_eq_true rfl) dX3_undo_28 ⟨Nat.le_of_ble_eq_true rfl, Nat.le_of_ble_eq_true rfl⟩ (fun r28 _ H locs hw hd => ?_)
    exact r_i C hd dX3_undo_31 (xs_setNow (xs_setHistory χ η21) σ21) rfl hw
  · replace hw := hw.1 c2
    refine lv_bipush (v := (-5)) hx hb dX3_undo_10 (by decide) ?_
    exact r_i C hd dX3_undo_12 χ rfl hw
abbrev rm_X3_restore : Room := { frames := 4, cells := 0, slots := 0, locals := 103 }
theorem M_X3_restore : MI yX3_restore wsX3_restore cX3_restore 1 (some .int) 0 := ⟨⟨_, rfl⟩, by decide +kernel, by decide +kernel, by decide +kernel, by decide +kernel⟩
theorem iX3_restore_X3 : ∀ w ∈ wsX30, w ∈ wsX3_restore := fun _ h => List.mem_cons_of_mem _ (List.mem_append_left _ (List.mem_append_left _ (List.mem_append_right _ h)))
theorem iX3_restore_X1 : ∀ w ∈ wsX10, w ∈ wsX3_restore := fun _ h => List.mem_cons_of_mem _ (List.mem_append_left _ (List.mem_append_right _ h))
theorem iX3_restore_X2 : ∀ w ∈ wsX20, w ∈ wsX3_restore := fun _ h => List.mem_cons_of_mem _ (List.mem_append_right _ h)
def wpX3_restore (χ : XS) (post : Int32 → XS → Prop) : Prop := (((xs_hasKept χ) = 0 → post (-5) χ) ∧ (¬ (xs_hasKept χ) = 0 → wpX1_takeOver (xs_trial χ) (xs_kept χ) (fun σ18 => wpX1_stepsSoFar σ18 (fun r26 => wpX3_settle (xs_setTrial χ σ18) r26 (fun r29 χ29 => post r29 χ29)))))
set_option maxHeartbeats 4000000 in
set_option maxRecDepth 100000 in
theorem c_X3_restore (l : Launch) (B : va_G) (k : KT) (ad : Nat → Nat → Nat) (χ : XS) (post : Int32 → XS → Prop) (hw : wpX3_restore χ post) : Cti l yX3_restore wsX3_restore rm_X3_restore 0 0 B k [.ref (ad 9 0)] (wX3 k ad χ) (fun u => wX3 k ad u) post := by
  refine Cti.of M_X3_restore (Nat.le_of_ble_eq_true rfl) ?_
  intro p e s m args below meth c A C hd ls hl
  have hx := C.1; have hb := C.2.1; have hml := C.2.2.1; have hts := C.2.2.2.2.1
  have hl : lv_has ls 1 [(0, .ref (ad 9 0))] := hl
  rw [wpX3_restore] at hw
  refine lv_aload_n hx hb dX3_restore_0 rfl (lv_at hl 0 rfl) ?_
  refine g_get (v := .int (xs_hasKept χ)) C hd iX3_restore_X3 0 3 rfl rfl 5 (by decide) (List.mem_of_getElem? (i := 1) rfl) rfl dX3_restore_1 ?_
  refine lv_if_ne (tgt := 10) hx hb dX3_restore_4 (by decide) (fun c2 => ?_) (fun c2 => ?_)
  · replace hw := hw.2 c2
    refine lv_aload_n hx hb dX3_restore_10 rfl (lv_at hl 0 rfl) ?_
    refine g_get (v := .ref (ad 1 0)) C hd iX3_restore_X3 0 3 rfl rfl 1 (by decide) (List.mem_of_getElem? (i := 2) rfl) rfl dX3_restore_11 ?_
    refine lv_aload_n hx hb dX3_restore_14 rfl (lv_at hl 0 rfl) ?_
    refine g_get (v := .ref (ad 2 0)) C hd iX3_restore_X3 0 3 rfl rfl 2 (by decide) (List.mem_of_getElem? (i := 3) rfl) rfl dX3_restore_15 ?_
    refine v_v C hd hl M_X1_takeOver gX3_restore_X1_takeOver (c_X1_takeOver l B k (ad 1) (ad 2) (xs_trial χ) (xs_kept χ) _ hw) ⟨rfl, rfl⟩ ⟨Nat.le_of_ble_eq_true rfl, Nat.le_of_ble_eq_true rfl⟩ (pTK k ad _) (fun u => wX3 k ad (xs_setTrial χ u)) (fun u => (pTK k ad (xs_setTrial χ u)).symm) 10 1 rfl rfl rfl rfl rfl (Nat.le_of_ble_eq_true rfl) dX3_restore_18 ⟨Nat.le_of_ble_eq_true rfl, Nat.le_of_ble_eq_true rfl⟩ (fun σ18 H locs hw hd => ?_)
    refine lv_aload_n hx hb dX3_restore_21 rfl (lv_at hl 0 rfl) ?_
    refine lv_aload_n hx hb dX3_restore_22 rfl (lv_at hl 0 rfl) ?_
    refine g_get (v := .ref (ad 1 0)) C hd iX3_restore_X3 0 3 rfl rfl 1 (by decide) (List.mem_of_getElem? (i := 2) rfl) rfl dX3_restore_23 ?_
    refine v_i C hd hl M_X1_stepsSoFar gX3_restore_X1_stepsSoFar (c_X1_stepsSoFar l B k (ad 1) σ18 _ hw) ⟨rfl, rfl⟩ ⟨Nat.le_of_ble_eq_true rfl, Nat.le_of_ble_eq_true rfl⟩ (pT k ad (xs_setTrial χ σ18)) (fun _ => wX3 k ad (xs_setTrial χ σ18)) (fun _ => (pT k ad (xs_setTrial χ σ18)).symm) 10 1 rfl rfl rfl rfl rfl (Nat.le_of_ble_eq_true rfl) dX3_restore_26 ⟨Nat.le_of_ble_eq_true rfl, Nat.le_of_ble_eq_true rfl⟩ (fun r26 _ H locs hw hd => ?_)
    refine v_i C hd hl M_X3_settle gX3_restore_X3_settle (c_X3_settle l B k ad (xs_setTrial χ σ18) r26 _ hw) ⟨rfl, rfl⟩ ⟨Nat.le_of_ble_eq_true rfl, Nat.le_of_ble_eq_true rfl⟩ (pm_all _) (fun u => wX3 k ad u) (fun _ => (pm_all _).symm) 0 3 rfl rfl rfl rfl rfl (Nat.le_of_ble_eq_true rfl) dX3_restore_29 ⟨Nat.le_of_ble_eq_true rfl, Nat.le_of_ble_eq_true rfl⟩ (fun r29 χ29 H locs hw hd => ?_)
    exact r_i C hd dX3_restore_32 χ29 rfl hw
  · replace hw := hw.1 c2
    refine lv_bipush (v := (-5)) hx hb dX3_restore_7 (by decide) ?_
    exact r_i C hd dX3_restore_9 χ rfl hw
abbrev rm_X3_address : Room := { frames := 5, cells := 0, slots := 0, locals := 115 }
theorem M_X3_address : MI yX3_address wsX3_address cX3_address 3 (some .int) 2 := ⟨⟨_, rfl⟩, by decide +kernel, by decide +kernel, by decide +kernel, by decide +kernel⟩
theorem iX3_address_X3 : ∀ w ∈ wsX30, w ∈ wsX3_address := fun _ h => List.mem_cons_of_mem _ (List.mem_append_left _ (List.mem_append_right _ h))
theorem iX3_address_X1 : ∀ w ∈ wsX10, w ∈ wsX3_address := fun _ h => List.mem_cons_of_mem _ (List.mem_append_right _ h)
def wpX3_address (χ : XS) (p0 : Int32) (p1 : Int32) (post : Int32 → Prop) : Prop := wpX1_isAddress (xs_now χ) p0 (fun b5 => ((b5 = true → wpX1_tellAddress (xs_now χ) p0 p1 (fun r17 => post r17)) ∧ (b5 = false → post (-1))))
set_option maxHeartbeats 4000000 in
set_option maxRecDepth 100000 in
theorem c_X3_address (l : Launch) (B : va_G) (k : KT) (ad : Nat → Nat → Nat) (χ : XS) (p0 : Int32) (p1 : Int32) (post : Int32 → Prop) (hw : wpX3_address χ p0 p1 post) : Cti l yX3_address wsX3_address rm_X3_address 0 0 B k [.ref (ad 9 0), .int p0, .int p1] (wX3 k ad χ) (fun _ : Unit => wX3 k ad χ) (fun r _ => post r) := by
  refine Cti.of M_X3_address (Nat.le_of_ble_eq_true rfl) ?_
  intro p e s m args below meth c A C hd ls hl
  have hx := C.1; have hb := C.2.1; have hml := C.2.2.1; have hts := C.2.2.2.2.1
  have hl : lv_has ls 3 [(0, .ref (ad 9 0)), (1, .int p0), (2, .int p1)] := hl
  rw [wpX3_address] at hw
  refine lv_aload_n hx hb dX3_address_0 rfl (lv_at hl 0 rfl) ?_
  refine g_get (v := .ref (ad 0 0)) C hd iX3_address_X3 0 3 rfl rfl 0 (by decide) (List.mem_of_getElem? (i := 1) rfl) rfl dX3_address_1 ?_
  refine lv_iload_n hx hb dX3_address_4 rfl (lv_at hl 1 rfl) ?_
  refine v_i C hd hl M_X1_isAddress gX3_address_X1_isAddress (c_X1_isAddress l B k (ad 0) (xs_now χ) p0 _ hw) ⟨rfl, rfl⟩ ⟨Nat.le_of_ble_eq_true rfl, Nat.le_of_ble_eq_true rfl⟩ (pN k ad χ) (fun _ => wX3 k ad χ) (fun _ => (pN k ad χ).symm) 1 1 rfl rfl rfl rfl rfl (Nat.le_of_ble_eq_true rfl) dX3_address_5 ⟨Nat.le_of_ble_eq_true rfl, Nat.le_of_ble_eq_true rfl⟩ (fun r _ H locs hp hd => ?_)
  obtain ⟨b5, rfl, hw⟩ := hp
  refine lv_if_eq (tgt := 23) hx hb dX3_address_8 (by decide) (fun c2 => ?_) (fun c2 => ?_)
  · replace hw := hw.2 ((bi_eq _).mp c2)
    refine lv_iconst (v := (-1)) hx hb dX3_address_23 (by decide) ?_
    exact r_i C hd dX3_address_24 () rfl hw
  · replace hw := hw.1 ((bi_ne _).mp c2)
    refine lv_aload_n hx hb dX3_address_11 rfl (lv_at hl 0 rfl) ?_
    refine g_get (v := .ref (ad 0 0)) C hd iX3_address_X3 0 3 rfl rfl 0 (by decide) (List.mem_of_getElem? (i := 1) rfl) rfl dX3_address_12 ?_
    refine lv_iload_n hx hb dX3_address_15 rfl (lv_at hl 1 rfl) ?_
    refine lv_iload_n hx hb dX3_address_16 rfl (lv_at hl 2 rfl) ?_
    refine v_i C hd hl M_X1_tellAddress gX3_address_X1_tellAddress (c_X1_tellAddress l B k (ad 0) (xs_now χ) p0 p1 _ hw) ⟨rfl, rfl⟩ ⟨Nat.le_of_ble_eq_true rfl, Nat.le_of_ble_eq_true rfl⟩ (pN k ad χ) (fun _ => wX3 k ad χ) (fun _ => (pN k ad χ).symm) 1 1 rfl rfl rfl rfl rfl (Nat.le_of_ble_eq_true rfl) dX3_address_17 ⟨Nat.le_of_ble_eq_true rfl, Nat.le_of_ble_eq_true rfl⟩ (fun r17 _ H locs hw hd => ?_)
    refine lv_goto (tgt := 24) hx hb dX3_address_20 (by decide) ?_
    exact r_i C hd dX3_address_24 () rfl hw
abbrev rm_X3_sector : Room := { frames := 3, cells := 0, slots := 0, locals := 66 }
theorem M_X3_sector : MI yX3_sector wsX3_sector cX3_sector 3 (some .int) 2 := ⟨⟨_, rfl⟩, by decide +kernel, by decide +kernel, by decide +kernel, by decide +kernel⟩
theorem iX3_sector_X3 : ∀ w ∈ wsX30, w ∈ wsX3_sector := fun _ h => List.mem_cons_of_mem _ (List.mem_append_left _ (List.mem_append_right _ h))
theorem iX3_sector_X1 : ∀ w ∈ wsX10, w ∈ wsX3_sector := fun _ h => List.mem_cons_of_mem _ (List.mem_append_right _ h)
def wpX3_sector (χ : XS) (p0 : Int32) (p1 : Int32) (post : Int32 → Prop) : Prop := wpX3_isSector p0 (fun b1 => ((b1 = true → wpX1_tellSector (xs_now χ) p0 p1 (fun r13 => post r13)) ∧ (b1 = false → post (-1))))
set_option maxHeartbeats 4000000 in
set_option maxRecDepth 100000 in
theorem c_X3_sector (l : Launch) (B : va_G) (k : KT) (ad : Nat → Nat → Nat) (χ : XS) (p0 : Int32) (p1 : Int32) (post : Int32 → Prop) (hw : wpX3_sector χ p0 p1 post) : Cti l yX3_sector wsX3_sector rm_X3_sector 0 0 B k [.ref (ad 9 0), .int p0, .int p1] (wX3 k ad χ) (fun _ : Unit => wX3 k ad χ) (fun r _ => post r) := by
  refine Cti.of M_X3_sector (Nat.le_of_ble_eq_true rfl) ?_
  intro p e s m args below meth c A C hd ls hl
  have hx := C.1; have hb := C.2.1; have hml := C.2.2.1; have hts := C.2.2.2.2.1
  have hl : lv_has ls 3 [(0, .ref (ad 9 0)), (1, .int p0), (2, .int p1)] := hl
  rw [wpX3_sector] at hw
  refine lv_iload_n hx hb dX3_sector_0 rfl (lv_at hl 1 rfl) ?_
  refine s_i C hd hl M_X3_isSector gX3_sector_X3_isSector rfl (c_X3_isSector l B k p0 _ hw) ⟨rfl, rfl⟩ ⟨Nat.le_of_ble_eq_true rfl, Nat.le_of_ble_eq_true rfl⟩ (pm_non _) (fun _ => wX3 k ad χ) (fun _ => List.Perm.refl _) rfl rfl (Nat.le_of_ble_eq_true rfl) dX3_sector_1 ⟨Nat.le_of_ble_eq_true rfl, Nat.le_of_ble_eq_true rfl⟩ (fun r _ H locs hp hd => ?_)
  obtain ⟨b1, rfl, hw⟩ := hp
  refine lv_if_eq (tgt := 19) hx hb dX3_sector_4 (by decide) (fun c2 => ?_) (fun c2 => ?_)
  · replace hw := hw.2 ((bi_eq _).mp c2)
    refine lv_iconst (v := (-1)) hx hb dX3_sector_19 (by decide) ?_
    exact r_i C hd dX3_sector_20 () rfl hw
  · replace hw := hw.1 ((bi_ne _).mp c2)
    refine lv_aload_n hx hb dX3_sector_7 rfl (lv_at hl 0 rfl) ?_
    refine g_get (v := .ref (ad 0 0)) C hd iX3_sector_X3 0 3 rfl rfl 0 (by decide) (List.mem_of_getElem? (i := 1) rfl) rfl dX3_sector_8 ?_
    refine lv_iload_n hx hb dX3_sector_11 rfl (lv_at hl 1 rfl) ?_
    refine lv_iload_n hx hb dX3_sector_12 rfl (lv_at hl 2 rfl) ?_
    refine v_i C hd hl M_X1_tellSector gX3_sector_X1_tellSector (c_X1_tellSector l B k (ad 0) (xs_now χ) p0 p1 _ hw) ⟨rfl, rfl⟩ ⟨Nat.le_of_ble_eq_true rfl, Nat.le_of_ble_eq_true rfl⟩ (pN k ad χ) (fun _ => wX3 k ad χ) (fun _ => (pN k ad χ).symm) 1 1 rfl rfl rfl rfl rfl (Nat.le_of_ble_eq_true rfl) dX3_sector_13 ⟨Nat.le_of_ble_eq_true rfl, Nat.le_of_ble_eq_true rfl⟩ (fun r13 _ H locs hw hd => ?_)
    refine lv_goto (tgt := 20) hx hb dX3_sector_16 (by decide) ?_
    exact r_i C hd dX3_sector_20 () rfl hw
abbrev rm_X3_head : Room := { frames := 4, cells := 0, slots := 0, locals := 89 }
theorem M_X3_head : MI yX3_head wsX3_head cX3_head 3 (some .int) 2 := ⟨⟨_, rfl⟩, by decide +kernel, by decide +kernel, by decide +kernel, by decide +kernel⟩
theorem iX3_head_X3 : ∀ w ∈ wsX30, w ∈ wsX3_head := fun _ h => List.mem_cons_of_mem _ (List.mem_append_left _ (List.mem_append_right _ h))
theorem iX3_head_X1 : ∀ w ∈ wsX10, w ∈ wsX3_head := fun _ h => List.mem_cons_of_mem _ (List.mem_append_right _ h)
def wpX3_head (χ : XS) (p0 : Int32) (p1 : Int32) (post : Int32 → Prop) : Prop := wpX3_isHead p0 (fun b1 => ((b1 = true → wpX1_tellHead (xs_now χ) p0 p1 (fun r13 => post r13)) ∧ (b1 = false → post (-1))))
set_option maxHeartbeats 4000000 in
set_option maxRecDepth 100000 in
theorem c_X3_head (l : Launch) (B : va_G) (k : KT) (ad : Nat → Nat → Nat) (χ : XS) (p0 : Int32) (p1 : Int32) (post : Int32 → Prop) (hw : wpX3_head χ p0 p1 post) : Cti l yX3_head wsX3_head rm_X3_head 0 0 B k [.ref (ad 9 0), .int p0, .int p1] (wX3 k ad χ) (fun _ : Unit => wX3 k ad χ) (fun r _ => post r) := by
  refine Cti.of M_X3_head (Nat.le_of_ble_eq_true rfl) ?_
  intro p e s m args below meth c A C hd ls hl
  have hx := C.1; have hb := C.2.1; have hml := C.2.2.1; have hts := C.2.2.2.2.1
  have hl : lv_has ls 3 [(0, .ref (ad 9 0)), (1, .int p0), (2, .int p1)] := hl
  rw [wpX3_head] at hw
  refine lv_iload_n hx hb dX3_head_0 rfl (lv_at hl 1 rfl) ?_
  refine s_i C hd hl M_X3_isHead gX3_head_X3_isHead rfl (c_X3_isHead l B k p0 _ hw) ⟨rfl, rfl⟩ ⟨Nat.le_of_ble_eq_true rfl, Nat.le_of_ble_eq_true rfl⟩ (pm_non _) (fun _ => wX3 k ad χ) (fun _ => List.Perm.refl _) rfl rfl (Nat.le_of_ble_eq_true rfl) dX3_head_1 ⟨Nat.le_of_ble_eq_true rfl, Nat.le_of_ble_eq_true rfl⟩ (fun r _ H locs hp hd => ?_)
  obtain ⟨b1, rfl, hw⟩ := hp
  refine lv_if_eq (tgt := 19) hx hb dX3_head_4 (by decide) (fun c2 => ?_) (fun c2 => ?_)
  · replace hw := hw.2 ((bi_eq _).mp c2)
    refine lv_iconst (v := (-1)) hx hb dX3_head_19 (by decide) ?_
    exact r_i C hd dX3_head_20 () rfl hw
  · replace hw := hw.1 ((bi_ne _).mp c2)
    refine lv_aload_n hx hb dX3_head_7 rfl (lv_at hl 0 rfl) ?_
    refine g_get (v := .ref (ad 0 0)) C hd iX3_head_X3 0 3 rfl rfl 0 (by decide) (List.mem_of_getElem? (i := 1) rfl) rfl dX3_head_8 ?_
    refine lv_iload_n hx hb dX3_head_11 rfl (lv_at hl 1 rfl) ?_
    refine lv_iload_n hx hb dX3_head_12 rfl (lv_at hl 2 rfl) ?_
    refine v_i C hd hl M_X1_tellHead gX3_head_X1_tellHead (c_X1_tellHead l B k (ad 0) (xs_now χ) p0 p1 _ hw) ⟨rfl, rfl⟩ ⟨Nat.le_of_ble_eq_true rfl, Nat.le_of_ble_eq_true rfl⟩ (pN k ad χ) (fun _ => wX3 k ad χ) (fun _ => (pN k ad χ).symm) 1 1 rfl rfl rfl rfl rfl (Nat.le_of_ble_eq_true rfl) dX3_head_13 ⟨Nat.le_of_ble_eq_true rfl, Nat.le_of_ble_eq_true rfl⟩ (fun r13 _ H locs hw hd => ?_)
    refine lv_goto (tgt := 20) hx hb dX3_head_16 (by decide) ?_
    exact r_i C hd dX3_head_20 () rfl hw
abbrev rm_X3_readsLeft : Room := { frames := 5, cells := 0, slots := 0, locals := 118 }
theorem M_X3_readsLeft : MI yX3_readsLeft wsX3_readsLeft cX3_readsLeft 2 (some .int) 1 := ⟨⟨_, rfl⟩, by decide +kernel, by decide +kernel, by decide +kernel, by decide +kernel⟩
theorem iX3_readsLeft_X3 : ∀ w ∈ wsX30, w ∈ wsX3_readsLeft := fun _ h => List.mem_cons_of_mem _ (List.mem_append_left _ (List.mem_append_right _ h))
theorem iX3_readsLeft_X1 : ∀ w ∈ wsX10, w ∈ wsX3_readsLeft := fun _ h => List.mem_cons_of_mem _ (List.mem_append_right _ h)
def wpX3_readsLeft (χ : XS) (p0 : Int32) (post : Int32 → Prop) : Prop := wpX1_readsUntilChange (xs_now χ) p0 (fun r5 => post r5)
set_option maxHeartbeats 4000000 in
set_option maxRecDepth 100000 in
theorem c_X3_readsLeft (l : Launch) (B : va_G) (k : KT) (ad : Nat → Nat → Nat) (χ : XS) (p0 : Int32) (post : Int32 → Prop) (hw : wpX3_readsLeft χ p0 post) : Cti l yX3_readsLeft wsX3_readsLeft rm_X3_readsLeft 0 0 B k [.ref (ad 9 0), .int p0] (wX3 k ad χ) (fun _ : Unit => wX3 k ad χ) (fun r _ => post r) := by
  refine Cti.of M_X3_readsLeft (Nat.le_of_ble_eq_true rfl) ?_
  intro p e s m args below meth c A C hd ls hl
  have hx := C.1; have hb := C.2.1; have hml := C.2.2.1; have hts := C.2.2.2.2.1
  have hl : lv_has ls 2 [(0, .ref (ad 9 0)), (1, .int p0)] := hl
  rw [wpX3_readsLeft] at hw
  refine lv_aload_n hx hb dX3_readsLeft_0 rfl (lv_at hl 0 rfl) ?_
  refine g_get (v := .ref (ad 0 0)) C hd iX3_readsLeft_X3 0 3 rfl rfl 0 (by decide) (List.mem_of_getElem? (i := 1) rfl) rfl dX3_readsLeft_1 ?_
  refine lv_iload_n hx hb dX3_readsLeft_4 rfl (lv_at hl 1 rfl) ?_
  refine v_i C hd hl M_X1_readsUntilChange gX3_readsLeft_X1_readsUntilChange (c_X1_readsUntilChange l B k (ad 0) (xs_now χ) p0 _ hw) ⟨rfl, rfl⟩ ⟨Nat.le_of_ble_eq_true rfl, Nat.le_of_ble_eq_true rfl⟩ (pN k ad χ) (fun _ => wX3 k ad χ) (fun _ => (pN k ad χ).symm) 1 1 rfl rfl rfl rfl rfl (Nat.le_of_ble_eq_true rfl) dX3_readsLeft_5 ⟨Nat.le_of_ble_eq_true rfl, Nat.le_of_ble_eq_true rfl⟩ (fun r5 _ H locs hw hd => ?_)
  exact r_i C hd dX3_readsLeft_8 () rfl hw
abbrev rm_X3_wouldLose : Room := { frames := 6, cells := 0, slots := 0, locals := 138 }
theorem M_X3_wouldLose : MI yX3_wouldLose wsX3_wouldLose cX3_wouldLose 2 (some .int) 1 := ⟨⟨_, rfl⟩, by decide +kernel, by decide +kernel, by decide +kernel, by decide +kernel⟩
theorem iX3_wouldLose_X3 : ∀ w ∈ wsX30, w ∈ wsX3_wouldLose := fun _ h => List.mem_cons_of_mem _ (List.mem_append_left _ (List.mem_append_right _ h))
theorem iX3_wouldLose_X1 : ∀ w ∈ wsX10, w ∈ wsX3_wouldLose := fun _ h => List.mem_cons_of_mem _ (List.mem_append_right _ h)
def wpX3_wouldLose (χ : XS) (p0 : Int32) (post : Int32 → XS → Prop) : Prop := wpX3_isHead p0 (fun b1 => ((b1 = true → wpX1_isGivenUp (xs_now χ) p0 (fun b14 => ((b14 = true → post (-5) χ) ∧ (b14 = false → wpX3_startTrial χ (fun χ24 => wpX1_vacate (xs_trial χ24) p0 (fun r32 σ32 => post r32 (xs_setTrial χ24 σ32))))))) ∧ (b1 = false → post (-1) χ)))
set_option maxHeartbeats 4000000 in
set_option maxRecDepth 100000 in
theorem c_X3_wouldLose (l : Launch) (B : va_G) (k : KT) (ad : Nat → Nat → Nat) (χ : XS) (p0 : Int32) (post : Int32 → XS → Prop) (hw : wpX3_wouldLose χ p0 post) : Cti l yX3_wouldLose wsX3_wouldLose rm_X3_wouldLose 0 0 B k [.ref (ad 9 0), .int p0] (wX3 k ad χ) (fun u => wX3 k ad u) post := by
  refine Cti.of M_X3_wouldLose (Nat.le_of_ble_eq_true rfl) ?_
  intro p e s m args below meth c A C hd ls hl
  have hx := C.1; have hb := C.2.1; have hml := C.2.2.1; have hts := C.2.2.2.2.1
  have hl : lv_has ls 2 [(0, .ref (ad 9 0)), (1, .int p0)] := hl
  rw [wpX3_wouldLose] at hw
  refine lv_iload_n hx hb dX3_wouldLose_0 rfl (lv_at hl 1 rfl) ?_
  refine s_i C hd hl M_X3_isHead gX3_wouldLose_X3_isHead rfl (c_X3_isHead l B k p0 _ hw) ⟨rfl, rfl⟩ ⟨Nat.le_of_ble_eq_true rfl, Nat.le_of_ble_eq_true rfl⟩ (pm_non _) (fun _ => wX3 k ad χ) (fun _ => List.Perm.refl _) rfl rfl (Nat.le_of_ble_eq_true rfl) dX3_wouldLose_1 ⟨Nat.le_of_ble_eq_true rfl, Nat.le_of_ble_eq_true rfl⟩ (fun r _ H locs hp hd => ?_)
  obtain ⟨b1, rfl, hw⟩ := hp
  refine lv_if_ne (tgt := 9) hx hb dX3_wouldLose_4 (by decide) (fun c4 => ?_) (fun c4 => ?_)
  · replace hw := hw.1 ((bi_ne _).mp c4)
    refine lv_aload_n hx hb dX3_wouldLose_9 rfl (lv_at hl 0 rfl) ?_
    refine g_get (v := .ref (ad 0 0)) C hd iX3_wouldLose_X3 0 3 rfl rfl 0 (by decide) (List.mem_of_getElem? (i := 1) rfl) rfl dX3_wouldLose_10 ?_
    refine lv_iload_n hx hb dX3_wouldLose_13 rfl (lv_at hl 1 rfl) ?_
    refine v_i C hd hl M_X1_isGivenUp gX3_wouldLose_X1_isGivenUp (c_X1_isGivenUp l B k (ad 0) (xs_now χ) p0 _ hw) ⟨rfl, rfl⟩ ⟨Nat.le_of_ble_eq_true rfl, Nat.le_of_ble_eq_true rfl⟩ (pN k ad χ) (fun _ => wX3 k ad χ) (fun _ => (pN k ad χ).symm) 1 1 rfl rfl rfl rfl rfl (Nat.le_of_ble_eq_true rfl) dX3_wouldLose_14 ⟨Nat.le_of_ble_eq_true rfl, Nat.le_of_ble_eq_true rfl⟩ (fun r _ H locs hp hd => ?_)
    obtain ⟨b14, rfl, hw⟩ := hp
    refine lv_if_eq (tgt := 23) hx hb dX3_wouldLose_17 (by decide) (fun c3 => ?_) (fun c3 => ?_)
    · replace hw := hw.2 ((bi_eq _).mp c3)
      refine lv_aload_n hx hb dX3_wouldLose_23 rfl (lv_at hl 0 rfl) ?_
      refine v_v C hd hl M_X3_startTrial gX3_wouldLose_X3_startTrial (c_X3_startTrial l B k ad χ _ hw) ⟨rfl, rfl⟩ ⟨Nat.le_of_ble_eq_true rfl, Nat.le_of_ble_eq_true rfl⟩ (pm_all _) (fun u => wX3 k ad u) (fun _ => (pm_all _).symm) 0 3 rfl rfl rfl rfl rfl (Nat.le_of_ble_eq_true rfl) dX3_wouldLose_24 ⟨Nat.le_of_ble_eq_true rfl, Nat.le_of_ble_eq_true rfl⟩ (fun χ24 H locs hw hd => ?_)
      refine lv_aload_n hx hb dX3_wouldLose_27 rfl (lv_at hl 0 rfl) ?_
      refine g_get (v := .ref (ad 1 0)) C hd iX3_wouldLose_X3 0 3 rfl rfl 1 (by decide) (List.mem_of_getElem? (i := 2) rfl) rfl dX3_wouldLose_28 ?_
      refine lv_iload_n hx hb dX3_wouldLose_31 rfl (lv_at hl 1 rfl) ?_
      refine v_i C hd hl M_X1_vacate gX3_wouldLose_X1_vacate (c_X1_vacate l B k (ad 1) (xs_trial χ24) p0 _ hw) ⟨rfl, rfl⟩ ⟨Nat.le_of_ble_eq_true rfl, Nat.le_of_ble_eq_true rfl⟩ (pT k ad χ24) (fun u => wX3 k ad (xs_setTrial χ24 u)) (fun u => (pT k ad (xs_setTrial χ24 u)).symm) 10 1 rfl rfl rfl rfl rfl (Nat.le_of_ble_eq_true rfl) dX3_wouldLose_32 ⟨Nat.le_of_ble_eq_true rfl, Nat.le_of_ble_eq_true rfl⟩ (fun r32 σ32 H locs hw hd => ?_)
      exact r_i C hd dX3_wouldLose_35 (xs_setTrial χ24 σ32) rfl hw
    · replace hw := hw.1 ((bi_ne _).mp c3)
      refine lv_bipush (v := (-5)) hx hb dX3_wouldLose_20 (by decide) ?_
      exact r_i C hd dX3_wouldLose_22 χ rfl hw
  · replace hw := hw.2 ((bi_eq _).mp c4)
    refine lv_iconst (v := (-1)) hx hb dX3_wouldLose_7 (by decide) ?_
    exact r_i C hd dX3_wouldLose_8 χ rfl hw
abbrev rm_X3_worst : Room := { frames := 5, cells := 0, slots := 0, locals := 109 }
theorem M_X3_worst : MI yX3_worst wsX3_worst cX3_worst 2 (some .int) 1 := ⟨⟨_, rfl⟩, by decide +kernel, by decide +kernel, by decide +kernel, by decide +kernel⟩
theorem iX3_worst_X3 : ∀ w ∈ wsX30, w ∈ wsX3_worst := fun _ h => List.mem_cons_of_mem _ (List.mem_append_left _ (List.mem_append_right _ h))
theorem iX3_worst_X1 : ∀ w ∈ wsX10, w ∈ wsX3_worst := fun _ h => List.mem_cons_of_mem _ (List.mem_append_right _ h)
def wpX3_worst (χ : XS) (p0 : Int32) (post : Int32 → Prop) : Prop := ((0 ≤ p0 → wpX1_addressOfRank (xs_now χ) p0 (fun r14 => post r14)) ∧ (¬ 0 ≤ p0 → post (-2)))
set_option maxHeartbeats 4000000 in
set_option maxRecDepth 100000 in
theorem c_X3_worst (l : Launch) (B : va_G) (k : KT) (ad : Nat → Nat → Nat) (χ : XS) (p0 : Int32) (post : Int32 → Prop) (hw : wpX3_worst χ p0 post) : Cti l yX3_worst wsX3_worst rm_X3_worst 0 0 B k [.ref (ad 9 0), .int p0] (wX3 k ad χ) (fun _ : Unit => wX3 k ad χ) (fun r _ => post r) := by
  refine Cti.of M_X3_worst (Nat.le_of_ble_eq_true rfl) ?_
  intro p e s m args below meth c A C hd ls hl
  have hx := C.1; have hb := C.2.1; have hml := C.2.2.1; have hts := C.2.2.2.2.1
  have hl : lv_has ls 2 [(0, .ref (ad 9 0)), (1, .int p0)] := hl
  rw [wpX3_worst] at hw
  refine lv_iload_n hx hb dX3_worst_0 rfl (lv_at hl 1 rfl) ?_
  refine lv_if_ge (tgt := 9) hx hb dX3_worst_1 (by decide) (fun c2 => ?_) (fun c2 => ?_)
  · replace hw := hw.1 c2
    refine lv_aload_n hx hb dX3_worst_9 rfl (lv_at hl 0 rfl) ?_
    refine g_get (v := .ref (ad 0 0)) C hd iX3_worst_X3 0 3 rfl rfl 0 (by decide) (List.mem_of_getElem? (i := 1) rfl) rfl dX3_worst_10 ?_
    refine lv_iload_n hx hb dX3_worst_13 rfl (lv_at hl 1 rfl) ?_
    refine v_i C hd hl M_X1_addressOfRank gX3_worst_X1_addressOfRank (c_X1_addressOfRank l B k (ad 0) (xs_now χ) p0 _ hw) ⟨rfl, rfl⟩ ⟨Nat.le_of_ble_eq_true rfl, Nat.le_of_ble_eq_true rfl⟩ (pN k ad χ) (fun _ => wX3 k ad χ) (fun _ => (pN k ad χ).symm) 1 1 rfl rfl rfl rfl rfl (Nat.le_of_ble_eq_true rfl) dX3_worst_14 ⟨Nat.le_of_ble_eq_true rfl, Nat.le_of_ble_eq_true rfl⟩ (fun r14 _ H locs hw hd => ?_)
    exact r_i C hd dX3_worst_17 () rfl hw
  · replace hw := hw.2 c2
    refine lv_bipush (v := (-2)) hx hb dX3_worst_4 (by decide) ?_
    refine lv_goto (tgt := 17) hx hb dX3_worst_6 (by decide) ?_
    exact r_i C hd dX3_worst_17 () rfl hw
abbrev rm_X3_count : Room := { frames := 6, cells := 0, slots := 0, locals := 133 }
theorem M_X3_count : MI yX3_count wsX3_count cX3_count 2 (some .int) 1 := ⟨⟨_, rfl⟩, by decide +kernel, by decide +kernel, by decide +kernel, by decide +kernel⟩
theorem iX3_count_X3 : ∀ w ∈ wsX30, w ∈ wsX3_count := fun _ h => List.mem_cons_of_mem _ (List.mem_append_left _ (List.mem_append_left _ (List.mem_append_left _ (List.mem_append_right _ h))))
theorem iX3_count_X2 : ∀ w ∈ wsX20, w ∈ wsX3_count := fun _ h => List.mem_cons_of_mem _ (List.mem_append_left _ (List.mem_append_left _ (List.mem_append_right _ h)))
theorem iX3_count_X0 : ∀ w ∈ wsX00, w ∈ wsX3_count := fun _ h => List.mem_cons_of_mem _ (List.mem_append_left _ (List.mem_append_right _ h))
theorem iX3_count_X1 : ∀ w ∈ wsX10, w ∈ wsX3_count := fun _ h => List.mem_cons_of_mem _ (List.mem_append_right _ h)
def wpX3_count (χ : XS) (p0 : Int32) (post : Int32 → Prop) : Prop := ((p0 = 12 → wpX2_states (xs_history χ) (fun r32 => post r32)) ∧ (p0 = 13 → wpX0_length (xs_text χ) (fun r40 => post r40)) ∧ (¬ p0 = 12 → ¬ p0 = 13 → wpX1_tellWhole (xs_now χ) p0 (fun r49 => post r49)))
set_option maxHeartbeats 4000000 in
set_option maxRecDepth 100000 in
theorem c_X3_count (l : Launch) (B : va_G) (k : KT) (ad : Nat → Nat → Nat) (χ : XS) (p0 : Int32) (post : Int32 → Prop) (hw : wpX3_count χ p0 post) : Cti l yX3_count wsX3_count rm_X3_count 0 0 B k [.ref (ad 9 0), .int p0] (wX3 k ad χ) (fun _ : Unit => wX3 k ad χ) (fun r _ => post r) := by
  refine Cti.of M_X3_count (Nat.le_of_ble_eq_true rfl) ?_
  intro p e s m args below meth c A C hd ls hl
  have hx := C.1; have hb := C.2.1; have hml := C.2.2.1; have hts := C.2.2.2.2.1
  have hl : lv_has ls 2 [(0, .ref (ad 9 0)), (1, .int p0)] := hl
  rw [wpX3_count] at hw
  refine lv_iload_n hx hb dX3_count_0 rfl (lv_at hl 1 rfl) ?_
  by_cases c3 : p0 = 12
  · replace hw := hw.1 c3
    refine lv_lookup (tgt := 28) hx hb dX3_count_1 (by decide) (by rw [c3]; try rfl) (by decide) ?_
    refine lv_aload_n hx hb dX3_count_28 rfl (lv_at hl 0 rfl) ?_
    refine g_get (v := .ref (ad 4 0)) C hd iX3_count_X3 0 3 rfl rfl 3 (by decide) (List.mem_of_getElem? (i := 1) rfl) rfl dX3_count_29 ?_
    refine v_i C hd hl M_X2_states gX3_count_X2_states (c_X2_states l B k (ad 4) (fun j => ad (5 + j)) (xs_history χ) _ hw) ⟨rfl, rfl⟩ ⟨Nat.le_of_ble_eq_true rfl, Nat.le_of_ble_eq_true rfl⟩ (pH k ad χ) (fun _ => wX3 k ad χ) (fun _ => (pH k ad χ).symm) 28 2 rfl rfl rfl rfl rfl (Nat.le_of_ble_eq_true rfl) dX3_count_32 ⟨Nat.le_of_ble_eq_true rfl, Nat.le_of_ble_eq_true rfl⟩ (fun r32 _ H locs hw hd => ?_)
    exact r_i C hd dX3_count_35 () rfl hw
  · by_cases c4 : p0 = 13
    · replace hw := hw.2.1 c4
      refine lv_lookup (tgt := 36) hx hb dX3_count_1 (by decide) (by rw [c4]; try rfl) (by decide) ?_
      refine lv_aload_n hx hb dX3_count_36 rfl (lv_at hl 0 rfl) ?_
      refine g_get (v := .ref (ad 3 0)) C hd iX3_count_X3 0 3 rfl rfl 4 (by decide) (List.mem_of_getElem? (i := 2) rfl) rfl dX3_count_37 ?_
      refine v_i C hd hl M_X0_length gX3_count_X0_length (c_X0_length l B k (ad 3) (xs_text χ) _ hw) ⟨rfl, rfl⟩ ⟨Nat.le_of_ble_eq_true rfl, Nat.le_of_ble_eq_true rfl⟩ (pC k ad χ) (fun _ => wX3 k ad χ) (fun _ => (pC k ad χ).symm) 66 0 rfl rfl rfl rfl rfl (Nat.le_of_ble_eq_true rfl) dX3_count_40 ⟨Nat.le_of_ble_eq_true rfl, Nat.le_of_ble_eq_true rfl⟩ (fun r40 _ H locs hw hd => ?_)
      exact r_i C hd dX3_count_43 () rfl hw
    · replace hw := hw.2.2 c3 c4
      refine lv_lookup (tgt := 44) (off := 43) hx hb dX3_count_1 (by decide) (by have q12 := sw_ne (z := 12) c3 (by decide); have q13 := sw_ne (z := 13) c4 (by decide); simp [Op.lookupswitch.offset, Ne.symm q12, Ne.symm q13]) (by decide) ?_
      refine lv_aload_n hx hb dX3_count_44 rfl (lv_at hl 0 rfl) ?_
      refine g_get (v := .ref (ad 0 0)) C hd iX3_count_X3 0 3 rfl rfl 0 (by decide) (List.mem_of_getElem? (i := 3) rfl) rfl dX3_count_45 ?_
      refine lv_iload_n hx hb dX3_count_48 rfl (lv_at hl 1 rfl) ?_
      refine v_i C hd hl M_X1_tellWhole gX3_count_X1_tellWhole (c_X1_tellWhole l B k (ad 0) (xs_now χ) p0 _ hw) ⟨rfl, rfl⟩ ⟨Nat.le_of_ble_eq_true rfl, Nat.le_of_ble_eq_true rfl⟩ (pN k ad χ) (fun _ => wX3 k ad χ) (fun _ => (pN k ad χ).symm) 1 1 rfl rfl rfl rfl rfl (Nat.le_of_ble_eq_true rfl) dX3_count_49 ⟨Nat.le_of_ble_eq_true rfl, Nat.le_of_ble_eq_true rfl⟩ (fun r49 _ H locs hw hd => ?_)
      exact r_i C hd dX3_count_52 () rfl hw
