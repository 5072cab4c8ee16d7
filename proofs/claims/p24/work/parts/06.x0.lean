abbrev rm_X0_length : Room := { frames := 0, cells := 0, slots := 0, locals := 0 }
theorem M_X0_length : MI yX0_length wsX0_length cX0_length 1 (some .int) 0 := ⟨⟨_, rfl⟩, by decide +kernel, by decide +kernel, by decide +kernel, by decide +kernel⟩
theorem iX0_length_X0 : ∀ w ∈ wsX00, w ∈ wsX0_length := fun _ h => List.mem_cons_of_mem _ (List.mem_append_right _ h)
def wpX0_length (τ : CT) (post : Int32 → Prop) : Prop := post (ct_length τ)
set_option maxHeartbeats 4000000 in
set_option maxRecDepth 100000 in
theorem c_X0_length (l : Launch) (B : va_G) (k : KT) (a : Nat → Nat) (τ : CT) (post : Int32 → Prop) (hw : wpX0_length τ post) : Cti l yX0_length wsX0_length rm_X0_length 0 0 B k [.ref (a 0)] (wX0 k a τ) (fun _ : Unit => wX0 k a τ) (fun r _ => post r) := by
  refine Cti.of M_X0_length (Nat.le_of_ble_eq_true rfl) ?_
  intro p e s m args below meth c A C hd ls hl
  have hx := C.1; have hb := C.2.1; have hml := C.2.2.1; have hts := C.2.2.2.2.1
  have hl : lv_has ls 1 [(0, .ref (a 0))] := hl
  rw [wpX0_length] at hw
  refine lv_aload_n hx hb dX0_length_0 rfl (lv_at hl 0 rfl) ?_
  refine g_get (v := .int (ct_length τ)) C hd iX0_length_X0 0 0 rfl rfl 1 (by decide) (List.mem_of_getElem? (i := 1) rfl) rfl dX0_length_1 ?_
  exact r_i C hd dX0_length_4 () rfl hw
abbrev rm_X0_commandCount : Room := { frames := 0, cells := 0, slots := 0, locals := 0 }
theorem M_X0_commandCount : MI yX0_commandCount wsX0_commandCount cX0_commandCount 1 (some .int) 0 := ⟨⟨_, rfl⟩, by decide +kernel, by decide +kernel, by decide +kernel, by decide +kernel⟩
theorem iX0_commandCount_X0 : ∀ w ∈ wsX00, w ∈ wsX0_commandCount := fun _ h => List.mem_cons_of_mem _ (List.mem_append_right _ h)
def wpX0_commandCount (τ : CT) (post : Int32 → Prop) : Prop := post (ct_commands τ)
set_option maxHeartbeats 4000000 in
set_option maxRecDepth 100000 in
theorem c_X0_commandCount (l : Launch) (B : va_G) (k : KT) (a : Nat → Nat) (τ : CT) (post : Int32 → Prop) (hw : wpX0_commandCount τ post) : Cti l yX0_commandCount wsX0_commandCount rm_X0_commandCount 0 0 B k [.ref (a 0)] (wX0 k a τ) (fun _ : Unit => wX0 k a τ) (fun r _ => post r) := by
  refine Cti.of M_X0_commandCount (Nat.le_of_ble_eq_true rfl) ?_
  intro p e s m args below meth c A C hd ls hl
  have hx := C.1; have hb := C.2.1; have hml := C.2.2.1; have hts := C.2.2.2.2.1
  have hl : lv_has ls 1 [(0, .ref (a 0))] := hl
  rw [wpX0_commandCount] at hw
  refine lv_aload_n hx hb dX0_commandCount_0 rfl (lv_at hl 0 rfl) ?_
  refine g_get (v := .int (ct_commands τ)) C hd iX0_commandCount_X0 0 0 rfl rfl 4 (by decide) (List.mem_of_getElem? (i := 1) rfl) rfl dX0_commandCount_1 ?_
  exact r_i C hd dX0_commandCount_4 () rfl hw
abbrev rm_X0_commandSector : Room := { frames := 0, cells := 0, slots := 0, locals := 0 }
theorem M_X0_commandSector : MI yX0_commandSector wsX0_commandSector cX0_commandSector 2 (some .int) 1 := ⟨⟨_, rfl⟩, by decide +kernel, by decide +kernel, by decide +kernel, by decide +kernel⟩
theorem iX0_commandSector_X0 : ∀ w ∈ wsX00, w ∈ wsX0_commandSector := fun _ h => List.mem_cons_of_mem _ (List.mem_append_right _ h)
def wpX0_commandSector (τ : CT) (p0 : Int32) (post : Int32 → Prop) : Prop := (vp_in p0 20 ∧ post ((ct_sectors τ) p0.toNatClampNeg))
set_option maxHeartbeats 4000000 in
set_option maxRecDepth 100000 in
theorem c_X0_commandSector (l : Launch) (B : va_G) (k : KT) (a : Nat → Nat) (τ : CT) (p0 : Int32) (post : Int32 → Prop) (hw : wpX0_commandSector τ p0 post) : Cti l yX0_commandSector wsX0_commandSector rm_X0_commandSector 0 0 B k [.ref (a 0), .int p0] (wX0 k a τ) (fun _ : Unit => wX0 k a τ) (fun r _ => post r) := by
  refine Cti.of M_X0_commandSector (Nat.le_of_ble_eq_true rfl) ?_
  intro p e s m args below meth c A C hd ls hl
  have hx := C.1; have hb := C.2.1; have hml := C.2.2.1; have hts := C.2.2.2.2.1
  have hl : lv_has ls 2 [(0, .ref (a 0)), (1, .int p0)] := hl
  rw [wpX0_commandSector] at hw
  refine lv_aload_n hx hb dX0_commandSector_0 rfl (lv_at hl 0 rfl) ?_
  refine g_get (v := .ref (a 2)) C hd iX0_commandSector_X0 0 0 rfl rfl 2 (by decide) (List.mem_of_getElem? (i := 1) rfl) rfl dX0_commandSector_1 ?_
  refine lv_iload_n hx hb dX0_commandSector_4 rfl (lv_at hl 1 rfl) ?_
  obtain ⟨h2, hw⟩ := hw
  refine g_ild (f := ct_sectors τ) C hd 2 rfl h2 dX0_commandSector_5 ?_
  exact r_i C hd dX0_commandSector_6 () rfl hw
abbrev rm_X0_commandValue : Room := { frames := 0, cells := 0, slots := 0, locals := 0 }
theorem M_X0_commandValue : MI yX0_commandValue wsX0_commandValue cX0_commandValue 2 (some .int) 1 := ⟨⟨_, rfl⟩, by decide +kernel, by decide +kernel, by decide +kernel, by decide +kernel⟩
theorem iX0_commandValue_X0 : ∀ w ∈ wsX00, w ∈ wsX0_commandValue := fun _ h => List.mem_cons_of_mem _ (List.mem_append_right _ h)
def wpX0_commandValue (τ : CT) (p0 : Int32) (post : Int32 → Prop) : Prop := (vp_in p0 20 ∧ post ((ct_values τ) p0.toNatClampNeg))
set_option maxHeartbeats 4000000 in
set_option maxRecDepth 100000 in
theorem c_X0_commandValue (l : Launch) (B : va_G) (k : KT) (a : Nat → Nat) (τ : CT) (p0 : Int32) (post : Int32 → Prop) (hw : wpX0_commandValue τ p0 post) : Cti l yX0_commandValue wsX0_commandValue rm_X0_commandValue 0 0 B k [.ref (a 0), .int p0] (wX0 k a τ) (fun _ : Unit => wX0 k a τ) (fun r _ => post r) := by
  refine Cti.of M_X0_commandValue (Nat.le_of_ble_eq_true rfl) ?_
  intro p e s m args below meth c A C hd ls hl
  have hx := C.1; have hb := C.2.1; have hml := C.2.2.1; have hts := C.2.2.2.2.1
  have hl : lv_has ls 2 [(0, .ref (a 0)), (1, .int p0)] := hl
  rw [wpX0_commandValue] at hw
  refine lv_aload_n hx hb dX0_commandValue_0 rfl (lv_at hl 0 rfl) ?_
  refine g_get (v := .ref (a 3)) C hd iX0_commandValue_X0 0 0 rfl rfl 3 (by decide) (List.mem_of_getElem? (i := 1) rfl) rfl dX0_commandValue_1 ?_
  refine lv_iload_n hx hb dX0_commandValue_4 rfl (lv_at hl 1 rfl) ?_
  obtain ⟨h2, hw⟩ := hw
  refine g_ild (f := ct_values τ) C hd 3 rfl h2 dX0_commandValue_5 ?_
  exact r_i C hd dX0_commandValue_6 () rfl hw
abbrev rm_X0_peek : Room := { frames := 0, cells := 0, slots := 0, locals := 0 }
theorem M_X0_peek : MI yX0_peek wsX0_peek cX0_peek 1 (some .int) 0 := ⟨⟨_, rfl⟩, by decide +kernel, by decide +kernel, by decide +kernel, by decide +kernel⟩
theorem iX0_peek_X0 : ∀ w ∈ wsX00, w ∈ wsX0_peek := fun _ h => List.mem_cons_of_mem _ (List.mem_append_right _ h)
def wpX0_peek (τ : CT) (post : Int32 → Prop) : Prop := (((ct_length τ) ≤ (ct_at τ) → post (-1)) ∧ (¬ (ct_length τ) ≤ (ct_at τ) → (vp_in (ct_at τ) 60 ∧ post ((ct_codes τ) (ct_at τ).toNatClampNeg))))
set_option maxHeartbeats 4000000 in
set_option maxRecDepth 100000 in
theorem c_X0_peek (l : Launch) (B : va_G) (k : KT) (a : Nat → Nat) (τ : CT) (post : Int32 → Prop) (hw : wpX0_peek τ post) : Cti l yX0_peek wsX0_peek rm_X0_peek 0 0 B k [.ref (a 0)] (wX0 k a τ) (fun _ : Unit => wX0 k a τ) (fun r _ => post r) := by
  refine Cti.of M_X0_peek (Nat.le_of_ble_eq_true rfl) ?_
  intro p e s m args below meth c A C hd ls hl
  have hx := C.1; have hb := C.2.1; have hml := C.2.2.1; have hts := C.2.2.2.2.1
  have hl : lv_has ls 1 [(0, .ref (a 0))] := hl
  rw [wpX0_peek] at hw
  refine lv_aload_n hx hb dX0_peek_0 rfl (lv_at hl 0 rfl) ?_
  refine g_get (v := .int (ct_at τ)) C hd iX0_peek_X0 0 0 rfl rfl 5 (by decide) (List.mem_of_getElem? (i := 1) rfl) rfl dX0_peek_1 ?_
  refine lv_aload_n hx hb dX0_peek_4 rfl (lv_at hl 0 rfl) ?_
  refine g_get (v := .int (ct_length τ)) C hd iX0_peek_X0 0 0 rfl rfl 1 (by decide) (List.mem_of_getElem? (i := 2) rfl) rfl dX0_peek_5 ?_
  refine lv_icmp_ge (tgt := 23) hx hb dX0_peek_8 (by decide) (fun c2 => ?_) (fun c2 => ?_)
  · replace hw := hw.1 c2
    refine lv_iconst (v := (-1)) hx hb dX0_peek_23 (by decide) ?_
    exact r_i C hd dX0_peek_24 () rfl hw
  · replace hw := hw.2 c2
    refine lv_aload_n hx hb dX0_peek_11 rfl (lv_at hl 0 rfl) ?_
    refine g_get (v := .ref (a 1)) C hd iX0_peek_X0 0 0 rfl rfl 0 (by decide) (List.mem_of_getElem? (i := 3) rfl) rfl dX0_peek_12 ?_
    refine lv_aload_n hx hb dX0_peek_15 rfl (lv_at hl 0 rfl) ?_
    refine g_get (v := .int (ct_at τ)) C hd iX0_peek_X0 0 0 rfl rfl 5 (by decide) (List.mem_of_getElem? (i := 1) rfl) rfl dX0_peek_16 ?_
    obtain ⟨h2, hw⟩ := hw
    refine g_ild (f := ct_codes τ) C hd 1 rfl h2 dX0_peek_19 ?_
    refine lv_goto (tgt := 24) hx hb dX0_peek_20 (by decide) ?_
    exact r_i C hd dX0_peek_24 () rfl hw
abbrev rm_X0_take : Room := { frames := 1, cells := 0, slots := 0, locals := 20 }
theorem M_X0_take : MI yX0_take wsX0_take cX0_take 2 (some .boolean) 1 := ⟨⟨_, rfl⟩, by decide +kernel, by decide +kernel, by decide +kernel, by decide +kernel⟩
theorem iX0_take_X0 : ∀ w ∈ wsX00, w ∈ wsX0_take := fun _ h => List.mem_cons_of_mem _ (List.mem_append_right _ h)
def wpX0_take (τ : CT) (p0 : Int32) (post : Bool → CT → Prop) : Prop := wpX0_peek τ (fun r1 => ((r1 = p0 → post true (ct_setAt τ ((ct_at τ) + 1))) ∧ (¬ r1 = p0 → post false τ)))
set_option maxHeartbeats 4000000 in
set_option maxRecDepth 100000 in
theorem c_X0_take (l : Launch) (B : va_G) (k : KT) (a : Nat → Nat) (τ : CT) (p0 : Int32) (post : Bool → CT → Prop) (hw : wpX0_take τ p0 post) : Cti l yX0_take wsX0_take rm_X0_take 0 0 B k [.ref (a 0), .int p0] (wX0 k a τ) (fun u => wX0 k a u) (bpost post) := by
  refine Cti.of M_X0_take (Nat.le_of_ble_eq_true rfl) ?_
  intro p e s m args below meth c A C hd ls hl
  have hx := C.1; have hb := C.2.1; have hml := C.2.2.1; have hts := C.2.2.2.2.1
  have hl : lv_has ls 2 [(0, .ref (a 0)), (1, .int p0)] := hl
  rw [wpX0_take] at hw
  refine lv_aload_n hx hb dX0_take_0 rfl (lv_at hl 0 rfl) ?_
  refine v_i C hd hl M_X0_peek gX0_take_X0_peek (c_X0_peek l B k a τ _ hw) ⟨rfl, rfl⟩ ⟨Nat.le_of_ble_eq_true rfl, Nat.le_of_ble_eq_true rfl⟩ (pm_all _) (fun _ => wX0 k a τ) (fun _ => (pm_all _).symm) 0 0 rfl rfl rfl rfl rfl (Nat.le_of_ble_eq_true rfl) dX0_take_1 ⟨Nat.le_of_ble_eq_true rfl, Nat.le_of_ble_eq_true rfl⟩ (fun r1 _ H locs hw hd => ?_)
  refine lv_iload_n hx hb dX0_take_4 rfl (lv_at hl 1 rfl) ?_
  refine lv_icmp_eq (tgt := 10) hx hb dX0_take_5 (by decide) (fun c2 => ?_) (fun c2 => ?_)
  · replace hw := hw.1 c2
    refine lv_aload_n hx hb dX0_take_10 rfl (lv_at hl 0 rfl) ?_
    refine lv_dup hx hb dX0_take_11 rfl ?_
    refine g_get (v := .int (ct_at τ)) C hd iX0_take_X0 0 0 rfl rfl 5 (by decide) (List.mem_of_getElem? (i := 1) rfl) rfl dX0_take_12 ?_
    refine lv_iconst (v := 1) hx hb dX0_take_15 (by decide) ?_
    refine lv_iadd hx hb dX0_take_16 ?_
    refine g_put C hd iX0_take_X0 tyX0 tyX0_ok nmX0 0 0 rfl rfl 5 (by decide) (List.mem_of_getElem? (i := 1) rfl) rfl rfl rfl (Nat.le_of_ble_eq_true rfl) (wX0 k a (ct_setAt τ ((ct_at τ) + 1))) (wX0_putAt k a _ _) dX0_take_17 (fun H locs hd => ?_)
    refine lv_iconst (v := 1) hx hb dX0_take_20 (by decide) ?_
    exact r_z true C hd dX0_take_21 (ct_setAt τ ((ct_at τ) + 1)) rfl hw
  · replace hw := hw.2 c2
    refine lv_iconst (v := 0) hx hb dX0_take_8 (by decide) ?_
    exact r_z false C hd dX0_take_9 τ rfl hw
abbrev rm_X0_digitAt : Room := { frames := 0, cells := 0, slots := 0, locals := 0 }
theorem M_X0_digitAt : MI yX0_digitAt wsX0_digitAt cX0_digitAt 2 (some .int) 1 := ⟨⟨_, rfl⟩, by decide +kernel, by decide +kernel, by decide +kernel, by decide +kernel⟩
theorem iX0_digitAt_X0 : ∀ w ∈ wsX00, w ∈ wsX0_digitAt := fun _ h => List.mem_cons_of_mem _ (List.mem_append_right _ h)
def wpX0_digitAt (τ : CT) (p0 : Int32) (post : Int32 → Prop) : Prop := (((ct_length τ) ≤ p0 → post (-5)) ∧ (¬ (ct_length τ) ≤ p0 → (vp_in p0 60 ∧ ((((ct_codes τ) p0.toNatClampNeg) < 48 → post (-5)) ∧ (¬ ((ct_codes τ) p0.toNatClampNeg) < 48 → ((((ct_codes τ) p0.toNatClampNeg) ≤ 57 → post (((ct_codes τ) p0.toNatClampNeg) - 48)) ∧ (¬ ((ct_codes τ) p0.toNatClampNeg) ≤ 57 → post (-5))))))))
set_option maxHeartbeats 4000000 in
set_option maxRecDepth 100000 in
theorem c_X0_digitAt (l : Launch) (B : va_G) (k : KT) (a : Nat → Nat) (τ : CT) (p0 : Int32) (post : Int32 → Prop) (hw : wpX0_digitAt τ p0 post) : Cti l yX0_digitAt wsX0_digitAt rm_X0_digitAt 0 0 B k [.ref (a 0), .int p0] (wX0 k a τ) (fun _ : Unit => wX0 k a τ) (fun r _ => post r) := by
  refine Cti.of M_X0_digitAt (Nat.le_of_ble_eq_true rfl) ?_
  intro p e s m args below meth c A C hd ls hl
  have hx := C.1; have hb := C.2.1; have hml := C.2.2.1; have hts := C.2.2.2.2.1
  have hl : lv_has ls 2 [(0, .ref (a 0)), (1, .int p0)] := hl
  rw [wpX0_digitAt] at hw
  refine lv_iload_n hx hb dX0_digitAt_0 rfl (lv_at hl 1 rfl) ?_
  refine lv_aload_n hx hb dX0_digitAt_1 rfl (lv_at hl 0 rfl) ?_
  refine g_get (v := .int (ct_length τ)) C hd iX0_digitAt_X0 0 0 rfl rfl 1 (by decide) (List.mem_of_getElem? (i := 1) rfl) rfl dX0_digitAt_2 ?_
  refine lv_icmp_ge (tgt := 30) hx hb dX0_digitAt_5 (by decide) (fun c4 => ?_) (fun c4 => ?_)
  · replace hw := hw.1 c4
    refine lv_bipush (v := (-5)) hx hb dX0_digitAt_30 (by decide) ?_
    exact r_i C hd dX0_digitAt_32 () rfl hw
  · replace hw := hw.2 c4
    refine lv_aload_n hx hb dX0_digitAt_8 rfl (lv_at hl 0 rfl) ?_
    refine g_get (v := .ref (a 1)) C hd iX0_digitAt_X0 0 0 rfl rfl 0 (by decide) (List.mem_of_getElem? (i := 2) rfl) rfl dX0_digitAt_9 ?_
    refine lv_iload_n hx hb dX0_digitAt_12 rfl (lv_at hl 1 rfl) ?_
    obtain ⟨h2, hw⟩ := hw
    refine g_ild (f := ct_codes τ) C hd 1 rfl h2 dX0_digitAt_13 ?_
    refine lv_bipush (v := 48) hx hb dX0_digitAt_14 (by decide) ?_
    refine lv_icmp_lt (tgt := 30) hx hb dX0_digitAt_16 (by decide) (fun c5 => ?_) (fun c5 => ?_)
    · replace hw := hw.1 c5
      refine lv_bipush (v := (-5)) hx hb dX0_digitAt_30 (by decide) ?_
      exact r_i C hd dX0_digitAt_32 () rfl hw
    · replace hw := hw.2 c5
      refine lv_aload_n hx hb dX0_digitAt_19 rfl (lv_at hl 0 rfl) ?_
      refine g_get (v := .ref (a 1)) C hd iX0_digitAt_X0 0 0 rfl rfl 0 (by decide) (List.mem_of_getElem? (i := 2) rfl) rfl dX0_digitAt_20 ?_
      refine lv_iload_n hx hb dX0_digitAt_23 rfl (lv_at hl 1 rfl) ?_
      refine g_ild (f := ct_codes τ) C hd 1 rfl h2 dX0_digitAt_24 ?_
      refine lv_bipush (v := 57) hx hb dX0_digitAt_25 (by decide) ?_
      refine lv_icmp_le (tgt := 33) hx hb dX0_digitAt_27 (by decide) (fun c6 => ?_) (fun c6 => ?_)
      · replace hw := hw.1 c6
        refine lv_aload_n hx hb dX0_digitAt_33 rfl (lv_at hl 0 rfl) ?_
        refine g_get (v := .ref (a 1)) C hd iX0_digitAt_X0 0 0 rfl rfl 0 (by decide) (List.mem_of_getElem? (i := 2) rfl) rfl dX0_digitAt_34 ?_
        refine lv_iload_n hx hb dX0_digitAt_37 rfl (lv_at hl 1 rfl) ?_
        refine g_ild (f := ct_codes τ) C hd 1 rfl h2 dX0_digitAt_38 ?_
        refine lv_bipush (v := 48) hx hb dX0_digitAt_39 (by decide) ?_
        refine lv_isub hx hb dX0_digitAt_41 ?_
        exact r_i C hd dX0_digitAt_42 () rfl hw
      · replace hw := hw.2 c6
        refine lv_bipush (v := (-5)) hx hb dX0_digitAt_30 (by decide) ?_
        exact r_i C hd dX0_digitAt_32 () rfl hw
abbrev rm_X0_takeNumber : Room := { frames := 1, cells := 0, slots := 0, locals := 21 }
theorem M_X0_takeNumber : MI yX0_takeNumber wsX0_takeNumber cX0_takeNumber 4 (some .int) 1 := ⟨⟨_, rfl⟩, by decide +kernel, by decide +kernel, by decide +kernel, by decide +kernel⟩
theorem iX0_takeNumber_X0 : ∀ w ∈ wsX00, w ∈ wsX0_takeNumber := fun _ h => List.mem_cons_of_mem _ (List.mem_append_right _ h)
def wpX0_takeNumber_L28 (p0 : Int32) (post : Int32 → CT → Prop) : Nat → Int32 → CT → Prop
  | 0, _, _ => False
  | n28 + 1, v28l2, τ28 => (((ct_length τ28) ≤ (ct_at τ28) → post v28l2 τ28) ∧ (¬ (ct_length τ28) ≤ (ct_at τ28) → ((v28l2 ≤ 0 → post v28l2 τ28) ∧ (¬ v28l2 ≤ 0 → wpX0_digitAt τ28 (ct_at τ28) (fun r48 => ((r48 = (-5) → post v28l2 τ28) ∧ (¬ r48 = (-5) → ((((10 * v28l2) + r48) ≤ p0 → wpX0_takeNumber_L28 p0 post n28 ((10 * v28l2) + r48) (ct_setAt τ28 ((ct_at τ28) + 1))) ∧ (¬ ((10 * v28l2) + r48) ≤ p0 → post v28l2 τ28)))))))))
def wpX0_takeNumber (τ : CT) (p0 : Int32) (post : Int32 → CT → Prop) : Prop := wpX0_digitAt τ (ct_at τ) (fun r5 => ((r5 = (-5) → post (-5) τ) ∧ (¬ r5 = (-5) → ∃ n28 : Nat, wpX0_takeNumber_L28 p0 post n28 r5 (ct_setAt τ ((ct_at τ) + 1)))))
set_option maxHeartbeats 4000000 in
set_option maxRecDepth 100000 in
theorem c_X0_takeNumber (l : Launch) (B : va_G) (k : KT) (a : Nat → Nat) (τ : CT) (p0 : Int32) (post : Int32 → CT → Prop) (hw : wpX0_takeNumber τ p0 post) : Cti l yX0_takeNumber wsX0_takeNumber rm_X0_takeNumber 0 0 B k [.ref (a 0), .int p0] (wX0 k a τ) (fun u => wX0 k a u) post := by
  refine Cti.of M_X0_takeNumber (Nat.le_of_ble_eq_true rfl) ?_
  intro p e s m args below meth c A C hd ls hl
  have hx := C.1; have hb := C.2.1; have hml := C.2.2.1; have hts := C.2.2.2.2.1
  have hl : lv_has ls 4 [(0, .ref (a 0)), (1, .int p0)] := hl
  have L28 : ∀ (n28 : Nat), ∀ (v28l2 : Int32) (τ28 : CT) (H : Heap) (locs : List Loc) (ls : Array Slot), Wd B A s.heap (wX0 k a τ28) H locs → lv_has ls 4 [(0, .ref (a 0)), (1, .int p0), (2, .int v28l2)] → wpX0_takeNumber_L28 p0 post n28 v28l2 τ28 → W p l e rm_X0_takeNumber s m args below meth c H locs 0 0 (Qi below args s B A (fun u => wX0 k a u) post 0 0) (F0 m 28 ls []) := by
    intro n28
    induction n28 with
    | zero => intro v28l2 τ28 H locs ls hd hl hw; exact absurd hw (by simp [wpX0_takeNumber_L28])
    | succ n28 ih28 =>
      intro v28l2 τ28 H locs ls hd hl hw
      rw [wpX0_takeNumber_L28] at hw
      refine lv_aload_n hx hb dX0_takeNumber_28 rfl (lv_at hl 0 rfl) ?_
      refine g_get (v := .int (ct_at τ28)) C hd iX0_takeNumber_X0 0 0 rfl rfl 5 (by decide) (List.mem_of_getElem? (i := 1) rfl) rfl dX0_takeNumber_29 ?_
      refine lv_aload_n hx hb dX0_takeNumber_32 rfl (lv_at hl 0 rfl) ?_
      refine g_get (v := .int (ct_length τ28)) C hd iX0_takeNumber_X0 0 0 rfl rfl 1 (by decide) (List.mem_of_getElem? (i := 2) rfl) rfl dX0_takeNumber_33 ?_
      refine lv_icmp_ge (tgt := 90) hx hb dX0_takeNumber_36 (by decide) (fun c18 => ?_) (fun c18 => ?_)
      · replace hw := hw.1 c18
        refine lv_iload_n hx hb dX0_takeNumber_90 rfl (lv_at hl 2 rfl) ?_
        exact r_i C hd dX0_takeNumber_91 τ28 rfl hw
      · replace hw := hw.2 c18
        refine lv_iload_n hx hb dX0_takeNumber_39 rfl (lv_at hl 2 rfl) ?_
        refine lv_if_le (tgt := 90) hx hb dX0_takeNumber_40 (by decide) (fun c19 => ?_) (fun c19 => ?_)
        · replace hw := hw.1 c19
          refine lv_iload_n hx hb dX0_takeNumber_90 rfl (lv_at hl 2 rfl) ?_
          exact r_i C hd dX0_takeNumber_91 τ28 rfl hw
        · replace hw := hw.2 c19
          refine lv_aload_n hx hb dX0_takeNumber_43 rfl (lv_at hl 0 rfl) ?_
          refine lv_aload_n hx hb dX0_takeNumber_44 rfl (lv_at hl 0 rfl) ?_
          refine g_get (v := .int (ct_at τ28)) C hd iX0_takeNumber_X0 0 0 rfl rfl 5 (by decide) (List.mem_of_getElem? (i := 1) rfl) rfl dX0_takeNumber_45 ?_
          refine v_i C hd hl M_X0_digitAt gX0_takeNumber_X0_digitAt (c_X0_digitAt l B k a τ28 (ct_at τ28) _ hw) ⟨rfl, rfl⟩ ⟨Nat.le_of_ble_eq_true rfl, Nat.le_of_ble_eq_true rfl⟩ (pm_all _) (fun _ => wX0 k a τ28) (fun _ => (pm_all _).symm) 0 0 rfl rfl rfl rfl rfl (Nat.le_of_ble_eq_true rfl) dX0_takeNumber_48 ⟨Nat.le_of_ble_eq_true rfl, Nat.le_of_ble_eq_true rfl⟩ (fun r48 _ H locs hw hd => ?_)
          refine lv_istore_n (lv' := [(3, .int r48), (0, .ref (a 0)), (1, .int p0), (2, .int v28l2)]) hx hb dX0_takeNumber_51 rfl hl (by decide) rfl (fun ls hl => ?_)
          refine lv_iload_n hx hb dX0_takeNumber_52 rfl (lv_at hl 0 rfl) ?_
          refine lv_bipush (v := (-5)) hx hb dX0_takeNumber_53 (by decide) ?_
          refine lv_icmp_eq (tgt := 68) hx hb dX0_takeNumber_55 (by decide) (fun c20 => ?_) (fun c20 => ?_)
          · replace hw := hw.1 c20
            refine lv_iload_n hx hb dX0_takeNumber_68 rfl (lv_at hl 3 rfl) ?_
            exact r_i C hd dX0_takeNumber_69 τ28 rfl hw
          · replace hw := hw.2 c20
            refine lv_bipush (v := 10) hx hb dX0_takeNumber_58 (by decide) ?_
            refine lv_iload_n hx hb dX0_takeNumber_60 rfl (lv_at hl 3 rfl) ?_
            refine lv_imul hx hb dX0_takeNumber_61 ?_
            refine lv_iload_n hx hb dX0_takeNumber_62 rfl (lv_at hl 0 rfl) ?_
            refine lv_iadd hx hb dX0_takeNumber_63 ?_
            refine lv_iload_n hx hb dX0_takeNumber_64 rfl (lv_at hl 2 rfl) ?_
            refine lv_icmp_le (tgt := 70) hx hb dX0_takeNumber_65 (by decide) (fun c21 => ?_) (fun c21 => ?_)
            · replace hw := hw.1 c21
              refine lv_bipush (v := 10) hx hb dX0_takeNumber_70 (by decide) ?_
              refine lv_iload_n hx hb dX0_takeNumber_72 rfl (lv_at hl 3 rfl) ?_
              refine lv_imul hx hb dX0_takeNumber_73 ?_
              refine lv_iload_n hx hb dX0_takeNumber_74 rfl (lv_at hl 0 rfl) ?_
              refine lv_iadd hx hb dX0_takeNumber_75 ?_
              refine lv_istore_n (lv' := [(2, .int ((10 * v28l2) + r48)), (3, .int r48), (0, .ref (a 0)), (1, .int p0)]) hx hb dX0_takeNumber_76 rfl hl (by decide) rfl (fun ls hl => ?_)
              refine lv_aload_n hx hb dX0_takeNumber_77 rfl (lv_at hl 2 rfl) ?_
              refine lv_dup hx hb dX0_takeNumber_78 rfl ?_
              refine g_get (v := .int (ct_at τ28)) C hd iX0_takeNumber_X0 0 0 rfl rfl 5 (by decide) (List.mem_of_getElem? (i := 1) rfl) rfl dX0_takeNumber_79 ?_
              refine lv_iconst (v := 1) hx hb dX0_takeNumber_82 (by decide) ?_
              refine lv_iadd hx hb dX0_takeNumber_83 ?_
              refine g_put C hd iX0_takeNumber_X0 tyX0 tyX0_ok nmX0 0 0 rfl rfl 5 (by decide) (List.mem_of_getElem? (i := 1) rfl) rfl rfl rfl (Nat.le_of_ble_eq_true rfl) (wX0 k a (ct_setAt τ28 ((ct_at τ28) + 1))) (wX0_putAt k a _ _) dX0_takeNumber_84 (fun H locs hd => ?_)
              refine lv_goto (tgt := 28) hx hb dX0_takeNumber_87 (by decide) ?_
              exact ih28 ((10 * v28l2) + r48) (ct_setAt τ28 ((ct_at τ28) + 1)) _ _ _ hd (lv_sub hl [2, 3, 0] rfl) hw
            · replace hw := hw.2 c21
              refine lv_iload_n hx hb dX0_takeNumber_68 rfl (lv_at hl 3 rfl) ?_
              exact r_i C hd dX0_takeNumber_69 τ28 rfl hw
  rw [wpX0_takeNumber] at hw
  refine lv_aload_n hx hb dX0_takeNumber_0 rfl (lv_at hl 0 rfl) ?_
  refine lv_aload_n hx hb dX0_takeNumber_1 rfl (lv_at hl 0 rfl) ?_
  refine g_get (v := .int (ct_at τ)) C hd iX0_takeNumber_X0 0 0 rfl rfl 5 (by decide) (List.mem_of_getElem? (i := 1) rfl) rfl dX0_takeNumber_2 ?_
  refine v_i C hd hl M_X0_digitAt gX0_takeNumber_X0_digitAt (c_X0_digitAt l B k a τ (ct_at τ) _ hw) ⟨rfl, rfl⟩ ⟨Nat.le_of_ble_eq_true rfl, Nat.le_of_ble_eq_true rfl⟩ (pm_all _) (fun _ => wX0 k a τ) (fun _ => (pm_all _).symm) 0 0 rfl rfl rfl rfl rfl (Nat.le_of_ble_eq_true rfl) dX0_takeNumber_5 ⟨Nat.le_of_ble_eq_true rfl, Nat.le_of_ble_eq_true rfl⟩ (fun r5 _ H locs hw hd => ?_)
  refine lv_istore_n (lv' := [(2, .int r5), (0, .ref (a 0)), (1, .int p0)]) hx hb dX0_takeNumber_8 rfl hl (by decide) rfl (fun ls hl => ?_)
  refine lv_iload_n hx hb dX0_takeNumber_9 rfl (lv_at hl 0 rfl) ?_
  refine lv_bipush (v := (-5)) hx hb dX0_takeNumber_10 (by decide) ?_
  refine lv_icmp_ne (tgt := 18) hx hb dX0_takeNumber_12 (by decide) (fun c22 => ?_) (fun c22 => ?_)
  · replace hw := hw.2 c22
    refine lv_aload_n hx hb dX0_takeNumber_18 rfl (lv_at hl 1 rfl) ?_
    refine lv_dup hx hb dX0_takeNumber_19 rfl ?_
    refine g_get (v := .int (ct_at τ)) C hd iX0_takeNumber_X0 0 0 rfl rfl 5 (by decide) (List.mem_of_getElem? (i := 1) rfl) rfl dX0_takeNumber_20 ?_
    refine lv_iconst (v := 1) hx hb dX0_takeNumber_23 (by decide) ?_
    refine lv_iadd hx hb dX0_takeNumber_24 ?_
    refine g_put C hd iX0_takeNumber_X0 tyX0 tyX0_ok nmX0 0 0 rfl rfl 5 (by decide) (List.mem_of_getElem? (i := 1) rfl) rfl rfl rfl (Nat.le_of_ble_eq_true rfl) (wX0 k a (ct_setAt τ ((ct_at τ) + 1))) (wX0_putAt k a _ _) dX0_takeNumber_25 (fun H locs hd => ?_)
    obtain ⟨n, hw⟩ := hw
    exact L28 n r5 (ct_setAt τ ((ct_at τ) + 1)) _ _ _ hd (lv_sub hl [1, 2, 0] rfl) hw
  · replace hw := hw.1 c22
    refine lv_bipush (v := (-5)) hx hb dX0_takeNumber_15 (by decide) ?_
    exact r_i C hd dX0_takeNumber_17 τ rfl hw
abbrev rm_X0_addCommand : Room := { frames := 0, cells := 0, slots := 0, locals := 0 }
theorem M_X0_addCommand : MI yX0_addCommand wsX0_addCommand cX0_addCommand 3 none 2 := ⟨⟨_, rfl⟩, by decide +kernel, by decide +kernel, by decide +kernel, by decide +kernel⟩
theorem iX0_addCommand_X0 : ∀ w ∈ wsX00, w ∈ wsX0_addCommand := fun _ h => List.mem_cons_of_mem _ (List.mem_append_right _ h)
def wpX0_addCommand (τ : CT) (p0 : Int32) (p1 : Int32) (post : CT → Prop) : Prop := ((20 ≤ (ct_commands τ) → post τ) ∧ (¬ 20 ≤ (ct_commands τ) → (vp_in (ct_commands τ) 20 ∧ post (ct_setCommands (ct_setValues (ct_setSectors τ (upd (ct_sectors τ) (ct_commands τ).toNatClampNeg p0)) (upd (ct_values τ) (ct_commands τ).toNatClampNeg p1)) ((ct_commands τ) + 1)))))
set_option maxHeartbeats 4000000 in
set_option maxRecDepth 100000 in
theorem c_X0_addCommand (l : Launch) (B : va_G) (k : KT) (a : Nat → Nat) (τ : CT) (p0 : Int32) (p1 : Int32) (post : CT → Prop) (hw : wpX0_addCommand τ p0 p1 post) : Ctv l yX0_addCommand wsX0_addCommand rm_X0_addCommand 0 0 B k [.ref (a 0), .int p0, .int p1] (wX0 k a τ) (fun u => wX0 k a u) post := by
  refine Ctv.of M_X0_addCommand (Nat.le_of_ble_eq_true rfl) ?_
  intro p e s m args below meth c A C hd ls hl
  have hx := C.1; have hb := C.2.1; have hml := C.2.2.1; have hts := C.2.2.2.2.1
  have hl : lv_has ls 3 [(0, .ref (a 0)), (1, .int p0), (2, .int p1)] := hl
  rw [wpX0_addCommand] at hw
  refine lv_aload_n hx hb dX0_addCommand_0 rfl (lv_at hl 0 rfl) ?_
  refine g_get (v := .int (ct_commands τ)) C hd iX0_addCommand_X0 0 0 rfl rfl 4 (by decide) (List.mem_of_getElem? (i := 1) rfl) rfl dX0_addCommand_1 ?_
  refine lv_bipush (v := 20) hx hb dX0_addCommand_4 (by decide) ?_
  refine lv_icmp_ge (tgt := 39) hx hb dX0_addCommand_6 (by decide) (fun c2 => ?_) (fun c2 => ?_)
  · replace hw := hw.1 c2
    exact r_v C hd dX0_addCommand_39 τ rfl hw
  · replace hw := hw.2 c2
    refine lv_aload_n hx hb dX0_addCommand_9 rfl (lv_at hl 0 rfl) ?_
    refine g_get (v := .ref (a 2)) C hd iX0_addCommand_X0 0 0 rfl rfl 2 (by decide) (List.mem_of_getElem? (i := 2) rfl) rfl dX0_addCommand_10 ?_
    refine lv_aload_n hx hb dX0_addCommand_13 rfl (lv_at hl 0 rfl) ?_
    refine g_get (v := .int (ct_commands τ)) C hd iX0_addCommand_X0 0 0 rfl rfl 4 (by decide) (List.mem_of_getElem? (i := 1) rfl) rfl dX0_addCommand_14 ?_
    refine lv_iload_n hx hb dX0_addCommand_17 rfl (lv_at hl 1 rfl) ?_
    obtain ⟨h2, hw⟩ := hw
    refine g_ist (f := ct_sectors τ) C hd 2 rfl h2 (wX0 k a (ct_setSectors τ (upd (ct_sectors τ) (ct_commands τ).toNatClampNeg p0))) (wX0_stSectors k a _ _) dX0_addCommand_18 (fun H locs hd => ?_)
    refine lv_aload_n hx hb dX0_addCommand_19 rfl (lv_at hl 0 rfl) ?_
    refine g_get (v := .ref (a 3)) C hd iX0_addCommand_X0 0 0 rfl rfl 3 (by decide) (List.mem_of_getElem? (i := 3) rfl) rfl dX0_addCommand_20 ?_
    refine lv_aload_n hx hb dX0_addCommand_23 rfl (lv_at hl 0 rfl) ?_
    refine g_get (v := .int (ct_commands τ)) C hd iX0_addCommand_X0 0 0 rfl rfl 4 (by decide) (List.mem_of_getElem? (i := 1) rfl) rfl dX0_addCommand_24 ?_
    refine lv_iload_n hx hb dX0_addCommand_27 rfl (lv_at hl 2 rfl) ?_
    refine g_ist (f := ct_values τ) C hd 3 rfl h2 (wX0 k a (ct_setValues (ct_setSectors τ (upd (ct_sectors τ) (ct_commands τ).toNatClampNeg p0)) (upd (ct_values τ) (ct_commands τ).toNatClampNeg p1))) (wX0_stValues k a _ _) dX0_addCommand_28 (fun H locs hd => ?_)
    refine lv_aload_n hx hb dX0_addCommand_29 rfl (lv_at hl 0 rfl) ?_
    refine lv_dup hx hb dX0_addCommand_30 rfl ?_
    refine g_get (v := .int (ct_commands τ)) C hd iX0_addCommand_X0 0 0 rfl rfl 4 (by decide) (List.mem_of_getElem? (i := 1) rfl) rfl dX0_addCommand_31 ?_
    refine lv_iconst (v := 1) hx hb dX0_addCommand_34 (by decide) ?_
    refine lv_iadd hx hb dX0_addCommand_35 ?_
    refine g_put C hd iX0_addCommand_X0 tyX0 tyX0_ok nmX0 0 0 rfl rfl 4 (by decide) (List.mem_of_getElem? (i := 1) rfl) rfl rfl rfl (Nat.le_of_ble_eq_true rfl) (wX0 k a (ct_setCommands (ct_setValues (ct_setSectors τ (upd (ct_sectors τ) (ct_commands τ).toNatClampNeg p0)) (upd (ct_values τ) (ct_commands τ).toNatClampNeg p1)) ((ct_commands τ) + 1))) (wX0_putCommands k a _ _) dX0_addCommand_36 (fun H locs hd => ?_)
    exact r_v C hd dX0_addCommand_39 (ct_setCommands (ct_setValues (ct_setSectors τ (upd (ct_sectors τ) (ct_commands τ).toNatClampNeg p0)) (upd (ct_values τ) (ct_commands τ).toNatClampNeg p1)) ((ct_commands τ) + 1)) rfl hw
abbrev rm_X0_takeCommand : Room := { frames := 2, cells := 0, slots := 0, locals := 44 }
theorem M_X0_takeCommand : MI yX0_takeCommand wsX0_takeCommand cX0_takeCommand 4 (some .boolean) 0 := ⟨⟨_, rfl⟩, by decide +kernel, by decide +kernel, by decide +kernel, by decide +kernel⟩
theorem iX0_takeCommand_X0 : ∀ w ∈ wsX00, w ∈ wsX0_takeCommand := fun _ h => List.mem_cons_of_mem _ (List.mem_append_right _ h)
def wpX0_takeCommand_J71 (r25 : Int32) (post : Bool → CT → Prop) (v71l3 : Int32) (τ71 : CT) : Prop := wpX0_addCommand τ71 r25 v71l3 (fun τ74 => post true τ74)
def wpX0_takeCommand_J22 (b3 : Bool) (post : Bool → CT → Prop) (τ22 : CT) : Prop := wpX0_takeNumber τ22 63 (fun r25 τ25 => ((r25 = (-5) → post false τ25) ∧ (¬ r25 = (-5) → ((b3 = true → wpX0_take τ25 61 (fun b47 τ47 => ((b47 = true → wpX0_takeNumber τ47 999 (fun r59 τ59 => ((r59 = (-5) → post false τ59) ∧ (¬ r59 = (-5) → wpX0_takeCommand_J71 r25 post r59 τ59)))) ∧ (b47 = false → post false τ47)))) ∧ (b3 = false → wpX0_takeCommand_J71 r25 post (-5) τ25)))))
def wpX0_takeCommand (τ : CT) (post : Bool → CT → Prop) : Prop := wpX0_take τ 119 (fun b3 τ3 => ((b3 = true → wpX0_takeCommand_J22 b3 post τ3) ∧ (b3 = false → wpX0_take τ3 114 (fun b14 τ14 => ((b14 = true → wpX0_takeCommand_J22 b3 post τ14) ∧ (b14 = false → post false τ14))))))
set_option maxHeartbeats 4000000 in
set_option maxRecDepth 100000 in
theorem c_X0_takeCommand (l : Launch) (B : va_G) (k : KT) (a : Nat → Nat) (τ : CT) (post : Bool → CT → Prop) (hw : wpX0_takeCommand τ post) : Cti l yX0_takeCommand wsX0_takeCommand rm_X0_takeCommand 0 0 B k [.ref (a 0)] (wX0 k a τ) (fun u => wX0 k a u) (bpost post) := by
  refine Cti.of M_X0_takeCommand (Nat.le_of_ble_eq_true rfl) ?_
  intro p e s m args below meth c A C hd ls hl
  have hx := C.1; have hb := C.2.1; have hml := C.2.2.1; have hts := C.2.2.2.2.1
  have hl : lv_has ls 4 [(0, .ref (a 0))] := hl
  have J71 : ∀ (r25 : Int32) (v71l3 : Int32) (τ71 : CT) (H : Heap) (locs : List Loc) (ls : Array Slot), Wd B A s.heap (wX0 k a τ71) H locs → lv_has ls 4 [(0, .ref (a 0)), (2, .int r25), (3, .int v71l3)] → wpX0_takeCommand_J71 r25 post v71l3 τ71 → W p l e rm_X0_takeCommand s m args below meth c H locs 0 0 (Qi below args s B A (fun u => wX0 k a u) (bpost post) 0 0) (F0 m 71 ls []) := by
    intro r25 v71l3 τ71 H locs ls hd hl hw
    rw [wpX0_takeCommand_J71] at hw
    refine lv_aload_n hx hb dX0_takeCommand_71 rfl (lv_at hl 0 rfl) ?_
    refine lv_iload_n hx hb dX0_takeCommand_72 rfl (lv_at hl 1 rfl) ?_
    refine lv_iload_n hx hb dX0_takeCommand_73 rfl (lv_at hl 2 rfl) ?_
    refine v_v C hd hl M_X0_addCommand gX0_takeCommand_X0_addCommand (c_X0_addCommand l B k a τ71 r25 v71l3 _ hw) ⟨rfl, rfl⟩ ⟨Nat.le_of_ble_eq_true rfl, Nat.le_of_ble_eq_true rfl⟩ (pm_all _) (fun u => wX0 k a u) (fun _ => (pm_all _).symm) 0 0 rfl rfl rfl rfl rfl (Nat.le_of_ble_eq_true rfl) dX0_takeCommand_74 ⟨Nat.le_of_ble_eq_true rfl, Nat.le_of_ble_eq_true rfl⟩ (fun τ74 H locs hw hd => ?_)
    refine lv_iconst (v := 1) hx hb dX0_takeCommand_77 (by decide) ?_
    exact r_z true C hd dX0_takeCommand_78 τ74 rfl hw
  have J22 : ∀ (b3 : Bool) (τ22 : CT) (H : Heap) (locs : List Loc) (ls : Array Slot), Wd B A s.heap (wX0 k a τ22) H locs → lv_has ls 4 [(0, .ref (a 0)), (1, .int (bi b3))] → wpX0_takeCommand_J22 b3 post τ22 → W p l e rm_X0_takeCommand s m args below meth c H locs 0 0 (Qi below args s B A (fun u => wX0 k a u) (bpost post) 0 0) (F0 m 22 ls []) := by
    intro b3 τ22 H locs ls hd hl hw
    rw [wpX0_takeCommand_J22] at hw
    refine lv_aload_n hx hb dX0_takeCommand_22 rfl (lv_at hl 0 rfl) ?_
    refine lv_bipush (v := 63) hx hb dX0_takeCommand_23 (by decide) ?_
    refine v_i C hd hl M_X0_takeNumber gX0_takeCommand_X0_takeNumber (c_X0_takeNumber l B k a τ22 63 _ hw) ⟨rfl, rfl⟩ ⟨Nat.le_of_ble_eq_true rfl, Nat.le_of_ble_eq_true rfl⟩ (pm_all _) (fun u => wX0 k a u) (fun _ => (pm_all _).symm) 0 0 rfl rfl rfl rfl rfl (Nat.le_of_ble_eq_true rfl) dX0_takeCommand_25 ⟨Nat.le_of_ble_eq_true rfl, Nat.le_of_ble_eq_true rfl⟩ (fun r25 τ25 H locs hw hd => ?_)
    refine lv_istore_n (lv' := [(2, .int r25), (0, .ref (a 0)), (1, .int (bi b3))]) hx hb dX0_takeCommand_28 rfl hl (by decide) rfl (fun ls hl => ?_)
    refine lv_iload_n hx hb dX0_takeCommand_29 rfl (lv_at hl 0 rfl) ?_
    refine lv_bipush (v := (-5)) hx hb dX0_takeCommand_30 (by decide) ?_
    refine lv_icmp_ne (tgt := 37) hx hb dX0_takeCommand_32 (by decide) (fun c19 => ?_) (fun c19 => ?_)
    · replace hw := hw.2 c19
      refine lv_bipush (v := (-5)) hx hb dX0_takeCommand_37 (by decide) ?_
      refine lv_istore_n (lv' := [(3, .int (-5)), (2, .int r25), (0, .ref (a 0)), (1, .int (bi b3))]) hx hb dX0_takeCommand_39 rfl hl (by decide) rfl (fun ls hl => ?_)
      refine lv_iload_n hx hb dX0_takeCommand_40 rfl (lv_at hl 3 rfl) ?_
      refine lv_if_eq (tgt := 71) hx hb dX0_takeCommand_41 (by decide) (fun c22 => ?_) (fun c22 => ?_)
      · replace hw := hw.2 ((bi_eq _).mp c22)
        exact J71 r25 (-5) τ25 _ _ _ hd (lv_sub hl [2, 1, 0] rfl) hw
      · replace hw := hw.1 ((bi_ne _).mp c22)
        refine lv_aload_n hx hb dX0_takeCommand_44 rfl (lv_at hl 2 rfl) ?_
        refine lv_bipush (v := 61) hx hb dX0_takeCommand_45 (by decide) ?_
        refine v_i C hd hl M_X0_take gX0_takeCommand_X0_take (c_X0_take l B k a τ25 61 _ hw) ⟨rfl, rfl⟩ ⟨Nat.le_of_ble_eq_true rfl, Nat.le_of_ble_eq_true rfl⟩ (pm_all _) (fun u => wX0 k a u) (fun _ => (pm_all _).symm) 0 0 rfl rfl rfl rfl rfl (Nat.le_of_ble_eq_true rfl) dX0_takeCommand_47 ⟨Nat.le_of_ble_eq_true rfl, Nat.le_of_ble_eq_true rfl⟩ (fun r τ47 H locs hp hd => ?_)
        obtain ⟨b47, rfl, hw⟩ := hp
        refine lv_if_ne (tgt := 55) hx hb dX0_takeCommand_50 (by decide) (fun c21 => ?_) (fun c21 => ?_)
        · replace hw := hw.1 ((bi_ne _).mp c21)
          refine lv_aload_n hx hb dX0_takeCommand_55 rfl (lv_at hl 2 rfl) ?_
          refine lv_sipush (v := 999) hx hb dX0_takeCommand_56 (by decide) ?_
          refine v_i C hd hl M_X0_takeNumber gX0_takeCommand_X0_takeNumber (c_X0_takeNumber l B k a τ47 999 _ hw) ⟨rfl, rfl⟩ ⟨Nat.le_of_ble_eq_true rfl, Nat.le_of_ble_eq_true rfl⟩ (pm_all _) (fun u => wX0 k a u) (fun _ => (pm_all _).symm) 0 0 rfl rfl rfl rfl rfl (Nat.le_of_ble_eq_true rfl) dX0_takeCommand_59 ⟨Nat.le_of_ble_eq_true rfl, Nat.le_of_ble_eq_true rfl⟩ (fun r59 τ59 H locs hw hd => ?_)
          refine lv_istore_n (lv' := [(3, .int r59), (2, .int r25), (0, .ref (a 0)), (1, .int (bi b3))]) hx hb dX0_takeCommand_62 rfl hl (by decide) rfl (fun ls hl => ?_)
          refine lv_iload_n hx hb dX0_takeCommand_63 rfl (lv_at hl 0 rfl) ?_
          refine lv_bipush (v := (-5)) hx hb dX0_takeCommand_64 (by decide) ?_
          refine lv_icmp_ne (tgt := 71) hx hb dX0_takeCommand_66 (by decide) (fun c20 => ?_) (fun c20 => ?_)
          · replace hw := hw.2 c20
            exact J71 r25 r59 τ59 _ _ _ hd (lv_sub hl [2, 1, 0] rfl) hw
          · replace hw := hw.1 c20
            refine lv_iconst (v := 0) hx hb dX0_takeCommand_69 (by decide) ?_
            exact r_z false C hd dX0_takeCommand_70 τ59 rfl hw
        · replace hw := hw.2 ((bi_eq _).mp c21)
          refine lv_iconst (v := 0) hx hb dX0_takeCommand_53 (by decide) ?_
          exact r_z false C hd dX0_takeCommand_54 τ47 rfl hw
    · replace hw := hw.1 c19
      refine lv_iconst (v := 0) hx hb dX0_takeCommand_35 (by decide) ?_
      exact r_z false C hd dX0_takeCommand_36 τ25 rfl hw
  rw [wpX0_takeCommand] at hw
  refine lv_aload_n hx hb dX0_takeCommand_0 rfl (lv_at hl 0 rfl) ?_
  refine lv_bipush (v := 119) hx hb dX0_takeCommand_1 (by decide) ?_
  refine v_i C hd hl M_X0_take gX0_takeCommand_X0_take (c_X0_take l B k a τ 119 _ hw) ⟨rfl, rfl⟩ ⟨Nat.le_of_ble_eq_true rfl, Nat.le_of_ble_eq_true rfl⟩ (pm_all _) (fun u => wX0 k a u) (fun _ => (pm_all _).symm) 0 0 rfl rfl rfl rfl rfl (Nat.le_of_ble_eq_true rfl) dX0_takeCommand_3 ⟨Nat.le_of_ble_eq_true rfl, Nat.le_of_ble_eq_true rfl⟩ (fun r τ3 H locs hp hd => ?_)
  obtain ⟨b3, rfl, hw⟩ := hp
  refine lv_istore_n (lv' := [(1, .int (bi b3)), (0, .ref (a 0))]) hx hb dX0_takeCommand_6 rfl hl (by decide) rfl (fun ls hl => ?_)
  refine lv_iload_n hx hb dX0_takeCommand_7 rfl (lv_at hl 0 rfl) ?_
  refine lv_if_ne (tgt := 22) hx hb dX0_takeCommand_8 (by decide) (fun c24 => ?_) (fun c24 => ?_)
  · replace hw := hw.1 ((bi_ne _).mp c24)
    exact J22 b3 τ3 _ _ _ hd (lv_sub hl [1, 0] rfl) hw
  · replace hw := hw.2 ((bi_eq _).mp c24)
    refine lv_aload_n hx hb dX0_takeCommand_11 rfl (lv_at hl 1 rfl) ?_
    refine lv_bipush (v := 114) hx hb dX0_takeCommand_12 (by decide) ?_
    refine v_i C hd hl M_X0_take gX0_takeCommand_X0_take (c_X0_take l B k a τ3 114 _ hw) ⟨rfl, rfl⟩ ⟨Nat.le_of_ble_eq_true rfl, Nat.le_of_ble_eq_true rfl⟩ (pm_all _) (fun u => wX0 k a u) (fun _ => (pm_all _).symm) 0 0 rfl rfl rfl rfl rfl (Nat.le_of_ble_eq_true rfl) dX0_takeCommand_14 ⟨Nat.le_of_ble_eq_true rfl, Nat.le_of_ble_eq_true rfl⟩ (fun r τ14 H locs hp hd => ?_)
    obtain ⟨b14, rfl, hw⟩ := hp
    refine lv_if_ne (tgt := 22) hx hb dX0_takeCommand_17 (by decide) (fun c23 => ?_) (fun c23 => ?_)
    · replace hw := hw.1 ((bi_ne _).mp c23)
      exact J22 b3 τ14 _ _ _ hd (lv_sub hl [1, 0] rfl) hw
    · replace hw := hw.2 ((bi_eq _).mp c23)
      refine lv_iconst (v := 0) hx hb dX0_takeCommand_20 (by decide) ?_
      exact r_z false C hd dX0_takeCommand_21 τ14 rfl hw
abbrev rm_X0_parse : Room := { frames := 3, cells := 0, slots := 0, locals := 67 }
theorem M_X0_parse : MI yX0_parse wsX0_parse cX0_parse 2 (some .int) 0 := ⟨⟨_, rfl⟩, by decide +kernel, by decide +kernel, by decide +kernel, by decide +kernel⟩
theorem iX0_parse_X0 : ∀ w ∈ wsX00, w ∈ wsX0_parse := fun _ h => List.mem_cons_of_mem _ (List.mem_append_right _ h)
def wpX0_parse_L12  (post : Int32 → CT → Prop) : Nat → Int32 → CT → Prop
  | 0, _, _ => False
  | n12 + 1, v12l1, τ12 => ((20 ≤ v12l1 → post (ct_at τ12) τ12) ∧ (¬ 20 ≤ v12l1 → wpX0_takeCommand τ12 (fun b19 τ19 => ((b19 = true → wpX0_peek τ19 (fun r31 => ((r31 = (-1) → post (-5) τ19) ∧ (¬ r31 = (-1) → wpX0_take τ19 59 (fun b44 τ44 => ((b44 = true → wpX0_parse_L12 post n12 (v12l1 + 1) τ44) ∧ (b44 = false → post (ct_at τ44) τ44))))))) ∧ (b19 = false → post (ct_at τ19) τ19)))))
def wpX0_parse (τ : CT) (post : Int32 → CT → Prop) : Prop := ∃ n12 : Nat, wpX0_parse_L12 post n12 0 (ct_setCommands (ct_setAt τ 0) 0)
set_option maxHeartbeats 4000000 in
set_option maxRecDepth 100000 in
theorem c_X0_parse (l : Launch) (B : va_G) (k : KT) (a : Nat → Nat) (τ : CT) (post : Int32 → CT → Prop) (hw : wpX0_parse τ post) : Cti l yX0_parse wsX0_parse rm_X0_parse 0 0 B k [.ref (a 0)] (wX0 k a τ) (fun u => wX0 k a u) post := by
  refine Cti.of M_X0_parse (Nat.le_of_ble_eq_true rfl) ?_
  intro p e s m args below meth c A C hd ls hl
  have hx := C.1; have hb := C.2.1; have hml := C.2.2.1; have hts := C.2.2.2.2.1
  have hl : lv_has ls 2 [(0, .ref (a 0))] := hl
  have L12 : ∀ (n12 : Nat), ∀ (v12l1 : Int32) (τ12 : CT) (H : Heap) (locs : List Loc) (ls : Array Slot), Wd B A s.heap (wX0 k a τ12) H locs → lv_has ls 2 [(0, .ref (a 0)), (1, .int v12l1)] → wpX0_parse_L12  post n12 v12l1 τ12 → W p l e rm_X0_parse s m args below meth c H locs 0 0 (Qi below args s B A (fun u => wX0 k a u) post 0 0) (F0 m 12 ls []) := by
    intro n12
    induction n12 with
    | zero => intro v12l1 τ12 H locs ls hd hl hw; exact absurd hw (by simp [wpX0_parse_L12])
    | succ n12 ih12 =>
      intro v12l1 τ12 H locs ls hd hl hw
      rw [wpX0_parse_L12] at hw
      refine lv_iload_n hx hb dX0_parse_12 rfl (lv_at hl 1 rfl) ?_
      refine lv_bipush (v := 20) hx hb dX0_parse_13 (by decide) ?_
      refine lv_icmp_ge (tgt := 61) hx hb dX0_parse_15 (by decide) (fun c17 => ?_) (fun c17 => ?_)
      · replace hw := hw.1 c17
        refine lv_aload_n hx hb dX0_parse_61 rfl (lv_at hl 0 rfl) ?_
        refine g_get (v := .int (ct_at τ12)) C hd iX0_parse_X0 0 0 rfl rfl 5 (by decide) (List.mem_of_getElem? (i := 1) rfl) rfl dX0_parse_62 ?_
        exact r_i C hd dX0_parse_65 τ12 rfl hw
      · replace hw := hw.2 c17
        refine lv_aload_n hx hb dX0_parse_18 rfl (lv_at hl 0 rfl) ?_
        refine v_i C hd hl M_X0_takeCommand gX0_parse_X0_takeCommand (c_X0_takeCommand l B k a τ12 _ hw) ⟨rfl, rfl⟩ ⟨Nat.le_of_ble_eq_true rfl, Nat.le_of_ble_eq_true rfl⟩ (pm_all _) (fun u => wX0 k a u) (fun _ => (pm_all _).symm) 0 0 rfl rfl rfl rfl rfl (Nat.le_of_ble_eq_true rfl) dX0_parse_19 ⟨Nat.le_of_ble_eq_true rfl, Nat.le_of_ble_eq_true rfl⟩ (fun r τ19 H locs hp hd => ?_)
        obtain ⟨b19, rfl, hw⟩ := hp
        refine lv_if_ne (tgt := 30) hx hb dX0_parse_22 (by decide) (fun c20 => ?_) (fun c20 => ?_)
        · replace hw := hw.1 ((bi_ne _).mp c20)
          refine lv_aload_n hx hb dX0_parse_30 rfl (lv_at hl 0 rfl) ?_
          refine v_i C hd hl M_X0_peek gX0_parse_X0_peek (c_X0_peek l B k a τ19 _ hw) ⟨rfl, rfl⟩ ⟨Nat.le_of_ble_eq_true rfl, Nat.le_of_ble_eq_true rfl⟩ (pm_all _) (fun _ => wX0 k a τ19) (fun _ => (pm_all _).symm) 0 0 rfl rfl rfl rfl rfl (Nat.le_of_ble_eq_true rfl) dX0_parse_31 ⟨Nat.le_of_ble_eq_true rfl, Nat.le_of_ble_eq_true rfl⟩ (fun r31 _ H locs hw hd => ?_)
          refine lv_iconst (v := (-1)) hx hb dX0_parse_34 (by decide) ?_
          refine lv_icmp_ne (tgt := 41) hx hb dX0_parse_35 (by decide) (fun c18 => ?_) (fun c18 => ?_)
          · replace hw := hw.2 c18
            refine lv_aload_n hx hb dX0_parse_41 rfl (lv_at hl 0 rfl) ?_
            refine lv_bipush (v := 59) hx hb dX0_parse_42 (by decide) ?_
            refine v_i C hd hl M_X0_take gX0_parse_X0_take (c_X0_take l B k a τ19 59 _ hw) ⟨rfl, rfl⟩ ⟨Nat.le_of_ble_eq_true rfl, Nat.le_of_ble_eq_true rfl⟩ (pm_all _) (fun u => wX0 k a u) (fun _ => (pm_all _).symm) 0 0 rfl rfl rfl rfl rfl (Nat.le_of_ble_eq_true rfl) dX0_parse_44 ⟨Nat.le_of_ble_eq_true rfl, Nat.le_of_ble_eq_true rfl⟩ (fun r τ44 H locs hp hd => ?_)
            obtain ⟨b44, rfl, hw⟩ := hp
            refine lv_if_ne (tgt := 55) hx hb dX0_parse_47 (by decide) (fun c19 => ?_) (fun c19 => ?_)
            · replace hw := hw.1 ((bi_ne _).mp c19)
              refine lv_iinc (v := v12l1 + 1) (lv' := [(1, .int (v12l1 + 1)), (0, .ref (a 0))]) hx hb dX0_parse_55 hl (k := 1) rfl rfl (by decide) rfl (fun ls hl => ?_)
              refine lv_goto (tgt := 12) hx hb dX0_parse_58 (by decide) ?_
              exact ih12 (v12l1 + 1) τ44 _ _ _ hd (lv_sub hl [1, 0] rfl) hw
            · replace hw := hw.2 ((bi_eq _).mp c19)
              refine lv_aload_n hx hb dX0_parse_50 rfl (lv_at hl 0 rfl) ?_
              refine g_get (v := .int (ct_at τ44)) C hd iX0_parse_X0 0 0 rfl rfl 5 (by decide) (List.mem_of_getElem? (i := 1) rfl) rfl dX0_parse_51 ?_
              exact r_i C hd dX0_parse_54 τ44 rfl hw
          · replace hw := hw.1 c18
            refine lv_bipush (v := (-5)) hx hb dX0_parse_38 (by decide) ?_
            exact r_i C hd dX0_parse_40 τ19 rfl hw
        · replace hw := hw.2 ((bi_eq _).mp c20)
          refine lv_aload_n hx hb dX0_parse_25 rfl (lv_at hl 0 rfl) ?_
          refine g_get (v := .int (ct_at τ19)) C hd iX0_parse_X0 0 0 rfl rfl 5 (by decide) (List.mem_of_getElem? (i := 1) rfl) rfl dX0_parse_26 ?_
          exact r_i C hd dX0_parse_29 τ19 rfl hw
  rw [wpX0_parse] at hw
  refine lv_aload_n hx hb dX0_parse_0 rfl (lv_at hl 0 rfl) ?_
  refine lv_iconst (v := 0) hx hb dX0_parse_1 (by decide) ?_
  refine g_put C hd iX0_parse_X0 tyX0 tyX0_ok nmX0 0 0 rfl rfl 5 (by decide) (List.mem_of_getElem? (i := 1) rfl) rfl rfl rfl (Nat.le_of_ble_eq_true rfl) (wX0 k a (ct_setAt τ 0)) (wX0_putAt k a _ _) dX0_parse_2 (fun H locs hd => ?_)
  refine lv_aload_n hx hb dX0_parse_5 rfl (lv_at hl 0 rfl) ?_
  refine lv_iconst (v := 0) hx hb dX0_parse_6 (by decide) ?_
  refine g_put C hd iX0_parse_X0 tyX0 tyX0_ok nmX0 0 0 rfl rfl 4 (by decide) (List.mem_of_getElem? (i := 2) rfl) rfl rfl rfl (Nat.le_of_ble_eq_true rfl) (wX0 k a (ct_setCommands (ct_setAt τ 0) 0)) (wX0_putCommands k a _ _) dX0_parse_7 (fun H locs hd => ?_)
  refine lv_iconst (v := 0) hx hb dX0_parse_10 (by decide) ?_
  refine lv_istore_n (lv' := [(1, .int 0), (0, .ref (a 0))]) hx hb dX0_parse_11 rfl hl (by decide) rfl (fun ls hl => ?_)
  obtain ⟨n, hw⟩ := hw
  exact L12 n 0 (ct_setCommands (ct_setAt τ 0) 0) _ _ _ hd (lv_sub hl [1, 0] rfl) hw
