abbrev rm_X1_isAddress : Room := { frames := 1, cells := 0, slots := 0, locals := 20 }
theorem M_X1_isAddress : MI yX1_isAddress wsX1_isAddress cX1_isAddress 2 (some .boolean) 1 := ⟨⟨_, rfl⟩, by decide +kernel, by decide +kernel, by decide +kernel, by decide +kernel⟩
theorem iX1_isAddress_X1 : ∀ w ∈ wsX10, w ∈ wsX1_isAddress := fun _ h => List.mem_cons_of_mem _ (List.mem_append_right _ h)
def wpX1_isAddress (σ : HS) (p0 : Int32) (post : Bool → Prop) : Prop := wpX3_isSector p0 (fun b1 => ((b1 = true → wpX3_placeOf p0 (fun r8 => wpX3_headOf p0 (fun r18 => (vp_in r18 4 ∧ (((16 - (hs_spares σ r18.toNatClampNeg)) ≤ r8 → post false) ∧ (¬ (16 - (hs_spares σ r18.toNatClampNeg)) ≤ r8 → post true)))))) ∧ (b1 = false → post false)))
set_option maxHeartbeats 4000000 in
set_option maxRecDepth 100000 in
theorem c_X1_isAddress (l : Launch) (B : va_G) (k : KT) (a : Nat → Nat) (σ : HS) (p0 : Int32) (post : Bool → Prop) (hw : wpX1_isAddress σ p0 post) : Cti l yX1_isAddress wsX1_isAddress rm_X1_isAddress 0 0 B k [.ref (a 0), .int p0] (wX1 k a σ) (fun _ : Unit => wX1 k a σ) (bpost fun b _ => post b) := by
  refine Cti.of M_X1_isAddress (by decide) ?_
  intro p e s m args below meth c A C hd ls hl
  have hx := C.1; have hb := C.2.1; have hml := C.2.2.1; have hts := C.2.2.2.2.1
  have hl : lv_has ls 2 [(0, .ref (a 0)), (1, .int p0)] := hl
  rw [wpX1_isAddress] at hw
  refine lv_iload_n hx hb dX1_isAddress_0 rfl (lv_at hl 1 rfl) ?_
  refine n_i C hd hl M_X3_isSector gX1_isAddress_X3_isSector_n73 (List.mem_of_getElem? (i := 0) rfl) (List.mem_of_getElem? (i := 2) rfl) (List.mem_of_getElem? (i := 3) rfl) (c_X3_isSector l B k p0 _ hw) ⟨rfl, rfl⟩ ⟨Nat.le_of_ble_eq_true rfl, Nat.le_of_ble_eq_true rfl⟩ (pm_non _) (fun _ => wX1 k a σ) (fun _ => List.Perm.refl _) rfl rfl (Nat.le_of_ble_eq_true rfl) dX1_isAddress_1 ⟨Nat.zero_le _, Nat.zero_le _⟩ (fun r _ H locs hp hd => ?_)
  obtain ⟨b1, rfl, hw⟩ := hp
  refine lv_if_eq (tgt := 30) hx hb dX1_isAddress_4 (by decide) (fun c4 => ?_) (fun c4 => ?_)
  · replace hw := hw.2 ((bi_eq _).mp c4)
    refine lv_iconst (v := 0) hx hb dX1_isAddress_30 (by decide) ?_
    exact r_z false C hd dX1_isAddress_31 () rfl hw
  · replace hw := hw.1 ((bi_ne _).mp c4)
    refine lv_iload_n hx hb dX1_isAddress_7 rfl (lv_at hl 1 rfl) ?_
    refine n_i C hd hl M_X3_placeOf gX1_isAddress_X3_placeOf_n76 (List.mem_of_getElem? (i := 1) rfl) (List.mem_of_getElem? (i := 5) rfl) (List.mem_of_getElem? (i := 3) rfl) (c_X3_placeOf l B k p0 _ hw) ⟨rfl, rfl⟩ ⟨Nat.le_of_ble_eq_true rfl, Nat.le_of_ble_eq_true rfl⟩ (pm_non _) (fun _ => wX1 k a σ) (fun _ => List.Perm.refl _) rfl rfl (Nat.le_of_ble_eq_true rfl) dX1_isAddress_8 ⟨Nat.zero_le _, Nat.zero_le _⟩ (fun r8 _ H locs hw hd => ?_)
    refine lv_bipush (v := 16) hx hb dX1_isAddress_11 (by decide) ?_
    refine lv_aload_n hx hb dX1_isAddress_13 rfl (lv_at hl 0 rfl) ?_
    refine g_get (v := .ref (a 2)) C hd iX1_isAddress_X1 0 1 rfl rfl 2 (by decide) (List.mem_of_getElem? (i := 1) rfl) rfl dX1_isAddress_14 ?_
    refine lv_iload_n hx hb dX1_isAddress_17 rfl (lv_at hl 1 rfl) ?_
    refine n_i C hd hl M_X3_headOf gX1_isAddress_X3_headOf_n80 (List.mem_of_getElem? (i := 2) rfl) (List.mem_of_getElem? (i := 7) rfl) (List.mem_of_getElem? (i := 3) rfl) (c_X3_headOf l B k p0 _ hw) ⟨rfl, rfl⟩ ⟨Nat.le_of_ble_eq_true rfl, Nat.le_of_ble_eq_true rfl⟩ (pm_non _) (fun _ => wX1 k a σ) (fun _ => List.Perm.refl _) rfl rfl (Nat.le_of_ble_eq_true rfl) dX1_isAddress_18 ⟨Nat.zero_le _, Nat.zero_le _⟩ (fun r18 _ H locs hw hd => ?_)
    obtain ⟨h2, hw⟩ := hw
    refine g_ild C hd 2 rfl h2 dX1_isAddress_21 ?_
    refine lv_isub hx hb dX1_isAddress_22 ?_
    refine lv_icmp_ge (tgt := 30) hx hb dX1_isAddress_23 (by decide) (fun c3 => ?_) (fun c3 => ?_)
    · replace hw := hw.1 c3
      refine lv_iconst (v := 0) hx hb dX1_isAddress_30 (by decide) ?_
      exact r_z false C hd dX1_isAddress_31 () rfl hw
    · replace hw := hw.2 c3
      refine lv_iconst (v := 1) hx hb dX1_isAddress_26 (by decide) ?_
      refine lv_goto (tgt := 31) hx hb dX1_isAddress_27 (by decide) ?_
      exact r_z true C hd dX1_isAddress_31 () rfl hw
abbrev rm_X1_divide : Room := { frames := 2, cells := 0, slots := 0, locals := 41 }
theorem M_X1_divide : MI yX1_divide wsX1_divide cX1_divide 6 none 2 := ⟨⟨_, rfl⟩, by decide +kernel, by decide +kernel, by decide +kernel, by decide +kernel⟩
theorem iX1_divide_X1 : ∀ w ∈ wsX10, w ∈ wsX1_divide := fun _ h => List.mem_cons_of_mem _ (List.mem_append_right _ h)
def wpX1_divide_J39 (p0 : Int32) (v9l3 : Int32) (σ9 : HS) (post : HS → Prop) (κ : Int32 → HS → Prop) (v39s0 : Int32) : Prop := (vp_in ((p0 * 16) + v9l3) 64 ∧ κ (v9l3 + 1) (hs_setClient (hs_setServer σ9 (upd (hs_server σ9) ((p0 * 16) + v9l3).toNatClampNeg v39s0)) (upd (hs_client (hs_setServer σ9 (upd (hs_server σ9) ((p0 * 16) + v9l3).toNatClampNeg v39s0))) ((p0 * 16) + v9l3).toNatClampNeg v39s0)))
def wpX1_divide_L9 (p0 : Int32) (post : HS → Prop) : Nat → Int32 → HS → Prop
  | 0, _, _ => False
  | n + 1, v9l3, σ9 => ((16 ≤ v9l3 → post σ9) ∧ (¬ 16 ≤ v9l3 → wpX1_isAddress σ9 ((p0 * 16) + v9l3) (fun b26 => ((b26 = true → wpX1_divide_J39 p0 v9l3 σ9 post (wpX1_divide_L9 p0 post n) ((p0 * 16) + v9l3)) ∧ (b26 = false → wpX1_divide_J39 p0 v9l3 σ9 post (wpX1_divide_L9 p0 post n) (-5))))))
def wpX1_divide (σ : HS) (p0 : Int32) (p1 : Int32) (post : HS → Prop) : Prop := (vp_in p0 4 ∧ ∃ n : Nat, wpX1_divide_L9 p0 post n 0 (hs_setSpares σ (upd (hs_spares σ) p0.toNatClampNeg p1)))
set_option maxHeartbeats 4000000 in
set_option maxRecDepth 100000 in
theorem c_X1_divide (l : Launch) (B : va_G) (k : KT) (a : Nat → Nat) (σ : HS) (p0 : Int32) (p1 : Int32) (post : HS → Prop) (hw : wpX1_divide σ p0 p1 post) : Ctv l yX1_divide wsX1_divide rm_X1_divide 0 0 B k [.ref (a 0), .int p0, .int p1] (wX1 k a σ) (fun u => wX1 k a u) post := by
  refine Ctv.of M_X1_divide (by decide) ?_
  intro p e s m args below meth c A C hd ls hl
  have hx := C.1; have hb := C.2.1; have hml := C.2.2.1; have hts := C.2.2.2.2.1
  have hl : lv_has ls 6 [(0, .ref (a 0)), (1, .int p0), (2, .int p1)] := hl
  have L9 : ∀ (n : Nat), ∀ (v9l3 : Int32) (σ9 : HS) (H : Heap) (locs : List Loc) (ls : Array Slot), Wd B A s.heap (wX1 k a σ9) H locs → lv_has ls 6 [(0, .ref (a 0)), (1, .int p0), (3, .int v9l3)] → wpX1_divide_L9 p0 post n v9l3 σ9 → W p l e rm_X1_divide s m args below meth c H locs 0 0 (Qv below args s B A (fun u => wX1 k a u) post 0 0) (F0 m 9 ls []) := by
    intro n
    induction n with
    | zero => intro v9l3 σ9 H locs ls hd hl hw; exact absurd hw (by simp [wpX1_divide_L9])
    | succ n ih =>
      intro v9l3 σ9 H locs ls hd hl hw
      rw [wpX1_divide_L9] at hw
      have J39 : ∀ (v9l3 : Int32) (σ9 : HS) (v39s0 : Int32) (H : Heap) (locs : List Loc) (ls : Array Slot), Wd B A s.heap (wX1 k a σ9) H locs → lv_has ls 6 [(0, .ref (a 0)), (1, .int p0), (3, .int v9l3), (4, .int ((p0 * 16) + v9l3))] → wpX1_divide_J39 p0 v9l3 σ9 post (wpX1_divide_L9 p0 post n) v39s0 → W p l e rm_X1_divide s m args below meth c H locs 0 0 (Qv below args s B A (fun u => wX1 k a u) post 0 0) (F0 m 39 ls [.int v39s0]) := by
        intro v9l3 σ9 v39s0 H locs ls hd hl hw
        rw [wpX1_divide_J39] at hw
        refine lv_istore (lv' := [(5, .int v39s0), (0, .ref (a 0)), (1, .int p0), (3, .int v9l3), (4, .int ((p0 * 16) + v9l3))]) hx hb dX1_divide_39 hl (by decide) rfl (fun ls hl => ?_)
        refine lv_aload_n hx hb dX1_divide_41 rfl (lv_at hl 1 rfl) ?_
        refine g_get (v := .ref (a 7)) C hd iX1_divide_X1 0 1 rfl rfl 7 (by decide) (List.mem_of_getElem? (i := 2) rfl) rfl dX1_divide_42 ?_
        refine lv_iload hx hb dX1_divide_45 (lv_at hl 4 rfl) ?_
        refine lv_iload hx hb dX1_divide_47 (lv_at hl 0 rfl) ?_
        obtain ⟨h6, hw⟩ := hw
        refine g_ist C hd 7 rfl h6 (wX1 k a (hs_setServer σ9 (upd (hs_server σ9) ((p0 * 16) + v9l3).toNatClampNeg v39s0))) (wX1_stServer k a _ _) dX1_divide_49 (fun H locs hd => ?_)
        refine lv_aload_n hx hb dX1_divide_50 rfl (lv_at hl 1 rfl) ?_
        refine g_get (v := .ref (a 8)) C hd iX1_divide_X1 0 1 rfl rfl 8 (by decide) (List.mem_of_getElem? (i := 3) rfl) rfl dX1_divide_51 ?_
        refine lv_iload hx hb dX1_divide_54 (lv_at hl 4 rfl) ?_
        refine lv_iload hx hb dX1_divide_56 (lv_at hl 0 rfl) ?_
        refine g_ist C hd 8 rfl h6 (wX1 k a (hs_setClient (hs_setServer σ9 (upd (hs_server σ9) ((p0 * 16) + v9l3).toNatClampNeg v39s0)) (upd (hs_client (hs_setServer σ9 (upd (hs_server σ9) ((p0 * 16) + v9l3).toNatClampNeg v39s0))) ((p0 * 16) + v9l3).toNatClampNeg v39s0))) (wX1_stClient k a _ _) dX1_divide_58 (fun H locs hd => ?_)
        refine lv_iinc (v := v9l3 + 1) (lv' := [(3, .int (v9l3 + 1)), (5, .int v39s0), (0, .ref (a 0)), (1, .int p0), (4, .int ((p0 * 16) + v9l3))]) hx hb dX1_divide_59 hl (k := 3) rfl rfl (by decide) rfl (fun ls hl => ?_)
        refine lv_goto (tgt := 9) hx hb dX1_divide_62 (by decide) ?_
        exact ih (v9l3 + 1) (hs_setClient (hs_setServer σ9 (upd (hs_server σ9) ((p0 * 16) + v9l3).toNatClampNeg v39s0)) (upd (hs_client (hs_setServer σ9 (upd (hs_server σ9) ((p0 * 16) + v9l3).toNatClampNeg v39s0))) ((p0 * 16) + v9l3).toNatClampNeg v39s0)) _ _ _ hd (lv_sub hl [2, 3, 0] rfl) hw
      refine lv_iload_n hx hb dX1_divide_9 rfl (lv_at hl 2 rfl) ?_
      refine lv_bipush (v := 16) hx hb dX1_divide_10 (by decide) ?_
      refine lv_icmp_ge (tgt := 65) hx hb dX1_divide_12 (by decide) (fun c9 => ?_) (fun c9 => ?_)
      · replace hw := hw.1 c9
        exact r_v C hd dX1_divide_65 σ9 rfl hw
      · replace hw := hw.2 c9
        refine lv_iload_n hx hb dX1_divide_15 rfl (lv_at hl 1 rfl) ?_
        refine lv_bipush (v := 16) hx hb dX1_divide_16 (by decide) ?_
        refine lv_imul hx hb dX1_divide_18 ?_
        refine lv_iload_n hx hb dX1_divide_19 rfl (lv_at hl 2 rfl) ?_
        refine lv_iadd hx hb dX1_divide_20 ?_
        refine lv_istore (lv' := [(4, .int ((p0 * 16) + v9l3)), (0, .ref (a 0)), (1, .int p0), (3, .int v9l3)]) hx hb dX1_divide_21 hl (by decide) rfl (fun ls hl => ?_)
        refine lv_aload_n hx hb dX1_divide_23 rfl (lv_at hl 1 rfl) ?_
        refine lv_iload hx hb dX1_divide_24 (lv_at hl 0 rfl) ?_
        refine v_i C hd hl M_X1_isAddress gX1_divide_X1_isAddress (c_X1_isAddress l B k a σ9 ((p0 * 16) + v9l3) _ hw) ⟨rfl, rfl⟩ ⟨Nat.le_of_ble_eq_true rfl, Nat.le_of_ble_eq_true rfl⟩ (pm_all _) (fun _ => wX1 k a σ9) (fun _ => (pm_all _).symm) 0 1 rfl rfl rfl rfl rfl (Nat.le_of_ble_eq_true rfl) dX1_divide_26 ⟨Nat.zero_le _, Nat.zero_le _⟩ (fun r _ H locs hp hd => ?_)
        obtain ⟨b26, rfl, hw⟩ := hp
        refine lv_if_eq (tgt := 37) hx hb dX1_divide_29 (by decide) (fun c10 => ?_) (fun c10 => ?_)
        · replace hw := hw.2 ((bi_eq _).mp c10)
          refine lv_bipush (v := (-5)) hx hb dX1_divide_37 (by decide) ?_
          exact J39 v9l3 σ9 (-5) _ _ _ hd (lv_sub hl [1, 2, 3, 0] rfl) hw
        · replace hw := hw.1 ((bi_ne _).mp c10)
          refine lv_iload hx hb dX1_divide_32 (lv_at hl 0 rfl) ?_
          refine lv_goto (tgt := 39) hx hb dX1_divide_34 (by decide) ?_
          exact J39 v9l3 σ9 ((p0 * 16) + v9l3) _ _ _ hd (lv_sub hl [1, 2, 3, 0] rfl) hw
  rw [wpX1_divide] at hw
  refine lv_aload_n hx hb dX1_divide_0 rfl (lv_at hl 0 rfl) ?_
  refine g_get (v := .ref (a 2)) C hd iX1_divide_X1 0 1 rfl rfl 2 (by decide) (List.mem_of_getElem? (i := 1) rfl) rfl dX1_divide_1 ?_
  refine lv_iload_n hx hb dX1_divide_4 rfl (lv_at hl 1 rfl) ?_
  refine lv_iload_n hx hb dX1_divide_5 rfl (lv_at hl 2 rfl) ?_
  obtain ⟨h7, hw⟩ := hw
  refine g_ist C hd 2 rfl h7 (wX1 k a (hs_setSpares σ (upd (hs_spares σ) p0.toNatClampNeg p1))) (wX1_stSpares k a _ _) dX1_divide_6 (fun H locs hd => ?_)
  refine lv_iconst (v := 0) hx hb dX1_divide_7 (by decide) ?_
  refine lv_istore_n (lv' := [(3, .int 0), (0, .ref (a 0)), (1, .int p0), (2, .int p1)]) hx hb dX1_divide_8 rfl hl (by decide) rfl (fun ls hl => ?_)
  obtain ⟨n, hw⟩ := hw
  exact L9 n 0 (hs_setSpares σ (upd (hs_spares σ) p0.toNatClampNeg p1)) _ _ _ hd (lv_sub hl [1, 2, 0] rfl) hw
abbrev rm_X1_isLost : Room := { frames := 0, cells := 0, slots := 0, locals := 0 }
theorem M_X1_isLost : MI yX1_isLost wsX1_isLost cX1_isLost 2 (some .boolean) 1 := ⟨⟨_, rfl⟩, by decide +kernel, by decide +kernel, by decide +kernel, by decide +kernel⟩
theorem iX1_isLost_X1 : ∀ w ∈ wsX10, w ∈ wsX1_isLost := fun _ h => List.mem_cons_of_mem _ (List.mem_append_right _ h)
def wpX1_isLost (σ : HS) (p0 : Int32) (post : Bool → Prop) : Prop := (vp_in p0 64 ∧ (((hs_server σ p0.toNatClampNeg) = (-5) → post true) ∧ (¬ (hs_server σ p0.toNatClampNeg) = (-5) → post false)))
set_option maxHeartbeats 4000000 in
set_option maxRecDepth 100000 in
theorem c_X1_isLost (l : Launch) (B : va_G) (k : KT) (a : Nat → Nat) (σ : HS) (p0 : Int32) (post : Bool → Prop) (hw : wpX1_isLost σ p0 post) : Cti l yX1_isLost wsX1_isLost rm_X1_isLost 0 0 B k [.ref (a 0), .int p0] (wX1 k a σ) (fun _ : Unit => wX1 k a σ) (bpost fun b _ => post b) := by
  refine Cti.of M_X1_isLost (by decide) ?_
  intro p e s m args below meth c A C hd ls hl
  have hx := C.1; have hb := C.2.1; have hml := C.2.2.1; have hts := C.2.2.2.2.1
  have hl : lv_has ls 2 [(0, .ref (a 0)), (1, .int p0)] := hl
  rw [wpX1_isLost] at hw
  refine lv_aload_n hx hb dX1_isLost_0 rfl (lv_at hl 0 rfl) ?_
  refine g_get (v := .ref (a 7)) C hd iX1_isLost_X1 0 1 rfl rfl 7 (by decide) (List.mem_of_getElem? (i := 1) rfl) rfl dX1_isLost_1 ?_
  refine lv_iload_n hx hb dX1_isLost_4 rfl (lv_at hl 1 rfl) ?_
  obtain ⟨h2, hw⟩ := hw
  refine g_ild C hd 7 rfl h2 dX1_isLost_5 ?_
  refine lv_bipush (v := (-5)) hx hb dX1_isLost_6 (by decide) ?_
  refine lv_icmp_ne (tgt := 15) hx hb dX1_isLost_8 (by decide) (fun c2 => ?_) (fun c2 => ?_)
  · replace hw := hw.2 c2
    refine lv_iconst (v := 0) hx hb dX1_isLost_15 (by decide) ?_
    exact r_z false C hd dX1_isLost_16 () rfl hw
  · replace hw := hw.1 c2
    refine lv_iconst (v := 1) hx hb dX1_isLost_11 (by decide) ?_
    refine lv_goto (tgt := 16) hx hb dX1_isLost_12 (by decide) ?_
    exact r_z true C hd dX1_isLost_16 () rfl hw
abbrev rm_X1_isGood : Room := { frames := 0, cells := 0, slots := 0, locals := 0 }
theorem M_X1_isGood : MI yX1_isGood wsX1_isGood cX1_isGood 2 (some .boolean) 1 := ⟨⟨_, rfl⟩, by decide +kernel, by decide +kernel, by decide +kernel, by decide +kernel⟩
theorem iX1_isGood_X1 : ∀ w ∈ wsX10, w ∈ wsX1_isGood := fun _ h => List.mem_cons_of_mem _ (List.mem_append_right _ h)
def wpX1_isGood (σ : HS) (p0 : Int32) (post : Bool → Prop) : Prop := (vp_in p0 64 ∧ (((hs_limit σ) ≤ (hs_wear σ p0.toNatClampNeg) → post false) ∧ (¬ (hs_limit σ) ≤ (hs_wear σ p0.toNatClampNeg) → post true)))
set_option maxHeartbeats 4000000 in
set_option maxRecDepth 100000 in
theorem c_X1_isGood (l : Launch) (B : va_G) (k : KT) (a : Nat → Nat) (σ : HS) (p0 : Int32) (post : Bool → Prop) (hw : wpX1_isGood σ p0 post) : Cti l yX1_isGood wsX1_isGood rm_X1_isGood 0 0 B k [.ref (a 0), .int p0] (wX1 k a σ) (fun _ : Unit => wX1 k a σ) (bpost fun b _ => post b) := by
  refine Cti.of M_X1_isGood (by decide) ?_
  intro p e s m args below meth c A C hd ls hl
  have hx := C.1; have hb := C.2.1; have hml := C.2.2.1; have hts := C.2.2.2.2.1
  have hl : lv_has ls 2 [(0, .ref (a 0)), (1, .int p0)] := hl
  rw [wpX1_isGood] at hw
  refine lv_aload_n hx hb dX1_isGood_0 rfl (lv_at hl 0 rfl) ?_
  refine g_get (v := .ref (a 4)) C hd iX1_isGood_X1 0 1 rfl rfl 4 (by decide) (List.mem_of_getElem? (i := 1) rfl) rfl dX1_isGood_1 ?_
  refine lv_iload_n hx hb dX1_isGood_4 rfl (lv_at hl 1 rfl) ?_
  obtain ⟨h2, hw⟩ := hw
  refine g_ild C hd 4 rfl h2 dX1_isGood_5 ?_
  refine lv_aload_n hx hb dX1_isGood_6 rfl (lv_at hl 0 rfl) ?_
  refine g_get (v := .int (hs_limit σ)) C hd iX1_isGood_X1 0 1 rfl rfl 0 (by decide) (List.mem_of_getElem? (i := 2) rfl) rfl dX1_isGood_7 ?_
  refine lv_icmp_ge (tgt := 17) hx hb dX1_isGood_10 (by decide) (fun c2 => ?_) (fun c2 => ?_)
  · replace hw := hw.1 c2
    refine lv_iconst (v := 0) hx hb dX1_isGood_17 (by decide) ?_
    exact r_z false C hd dX1_isGood_18 () rfl hw
  · replace hw := hw.2 c2
    refine lv_iconst (v := 1) hx hb dX1_isGood_13 (by decide) ?_
    refine lv_goto (tgt := 18) hx hb dX1_isGood_14 (by decide) ?_
    exact r_z true C hd dX1_isGood_18 () rfl hw
abbrev rm_X1_isBad : Room := { frames := 0, cells := 0, slots := 0, locals := 0 }
theorem M_X1_isBad : MI yX1_isBad wsX1_isBad cX1_isBad 2 (some .boolean) 1 := ⟨⟨_, rfl⟩, by decide +kernel, by decide +kernel, by decide +kernel, by decide +kernel⟩
theorem iX1_isBad_X1 : ∀ w ∈ wsX10, w ∈ wsX1_isBad := fun _ h => List.mem_cons_of_mem _ (List.mem_append_right _ h)
def wpX1_isBad (σ : HS) (p0 : Int32) (post : Bool → Prop) : Prop := (vp_in p0 64 ∧ (((hs_wear σ p0.toNatClampNeg) < (2 * (hs_limit σ)) → post false) ∧ (¬ (hs_wear σ p0.toNatClampNeg) < (2 * (hs_limit σ)) → post true)))
set_option maxHeartbeats 4000000 in
set_option maxRecDepth 100000 in
theorem c_X1_isBad (l : Launch) (B : va_G) (k : KT) (a : Nat → Nat) (σ : HS) (p0 : Int32) (post : Bool → Prop) (hw : wpX1_isBad σ p0 post) : Cti l yX1_isBad wsX1_isBad rm_X1_isBad 0 0 B k [.ref (a 0), .int p0] (wX1 k a σ) (fun _ : Unit => wX1 k a σ) (bpost fun b _ => post b) := by
  refine Cti.of M_X1_isBad (by decide) ?_
  intro p e s m args below meth c A C hd ls hl
  have hx := C.1; have hb := C.2.1; have hml := C.2.2.1; have hts := C.2.2.2.2.1
  have hl : lv_has ls 2 [(0, .ref (a 0)), (1, .int p0)] := hl
  rw [wpX1_isBad] at hw
  refine lv_aload_n hx hb dX1_isBad_0 rfl (lv_at hl 0 rfl) ?_
  refine g_get (v := .ref (a 4)) C hd iX1_isBad_X1 0 1 rfl rfl 4 (by decide) (List.mem_of_getElem? (i := 1) rfl) rfl dX1_isBad_1 ?_
  refine lv_iload_n hx hb dX1_isBad_4 rfl (lv_at hl 1 rfl) ?_
  obtain ⟨h2, hw⟩ := hw
  refine g_ild C hd 4 rfl h2 dX1_isBad_5 ?_
  refine lv_iconst (v := 2) hx hb dX1_isBad_6 (by decide) ?_
  refine lv_aload_n hx hb dX1_isBad_7 rfl (lv_at hl 0 rfl) ?_
  refine g_get (v := .int (hs_limit σ)) C hd iX1_isBad_X1 0 1 rfl rfl 0 (by decide) (List.mem_of_getElem? (i := 2) rfl) rfl dX1_isBad_8 ?_
  refine lv_imul hx hb dX1_isBad_11 ?_
  refine lv_icmp_lt (tgt := 19) hx hb dX1_isBad_12 (by decide) (fun c2 => ?_) (fun c2 => ?_)
  · replace hw := hw.1 c2
    refine lv_iconst (v := 0) hx hb dX1_isBad_19 (by decide) ?_
    exact r_z false C hd dX1_isBad_20 () rfl hw
  · replace hw := hw.2 c2
    refine lv_iconst (v := 1) hx hb dX1_isBad_15 (by decide) ?_
    refine lv_goto (tgt := 20) hx hb dX1_isBad_16 (by decide) ?_
    exact r_z true C hd dX1_isBad_20 () rfl hw
abbrev rm_X1_isFree : Room := { frames := 1, cells := 0, slots := 0, locals := 21 }
theorem M_X1_isFree : MI yX1_isFree wsX1_isFree cX1_isFree 4 (some .boolean) 1 := ⟨⟨_, rfl⟩, by decide +kernel, by decide +kernel, by decide +kernel, by decide +kernel⟩
theorem iX1_isFree_X1 : ∀ w ∈ wsX10, w ∈ wsX1_isFree := fun _ h => List.mem_cons_of_mem _ (List.mem_append_right _ h)
def wpX1_isFree_J26 (σ : HS) (p0 : Int32) (r1 : Int32) (post : Bool → Prop) (v26s0 : Bool) : Prop := ((v26s0 = true → (vp_in p0 64 ∧ (((hs_client σ p0.toNatClampNeg) = (-5) → wpX1_isGood σ p0 (fun b44 => ((b44 = true → (vp_in r1 4 ∧ (((hs_givenUp σ r1.toNatClampNeg) = 0 → post true) ∧ (¬ (hs_givenUp σ r1.toNatClampNeg) = 0 → post false)))) ∧ (b44 = false → post false)))) ∧ (¬ (hs_client σ p0.toNatClampNeg) = (-5) → post false)))) ∧ (v26s0 = false → post false))
def wpX1_isFree (σ : HS) (p0 : Int32) (post : Bool → Prop) : Prop := wpX3_headOf p0 (fun r1 => wpX3_placeOf p0 (fun r6 => (vp_in r1 4 ∧ ((r6 < (16 - (hs_spares σ r1.toNatClampNeg)) → wpX1_isFree_J26 σ p0 r1 post false) ∧ (¬ r6 < (16 - (hs_spares σ r1.toNatClampNeg)) → wpX1_isFree_J26 σ p0 r1 post true)))))
set_option maxHeartbeats 4000000 in
set_option maxRecDepth 100000 in
theorem c_X1_isFree (l : Launch) (B : va_G) (k : KT) (a : Nat → Nat) (σ : HS) (p0 : Int32) (post : Bool → Prop) (hw : wpX1_isFree σ p0 post) : Cti l yX1_isFree wsX1_isFree rm_X1_isFree 0 0 B k [.ref (a 0), .int p0] (wX1 k a σ) (fun _ : Unit => wX1 k a σ) (bpost fun b _ => post b) := by
  refine Cti.of M_X1_isFree (by decide) ?_
  intro p e s m args below meth c A C hd ls hl
  have hx := C.1; have hb := C.2.1; have hml := C.2.2.1; have hts := C.2.2.2.2.1
  have hl : lv_has ls 4 [(0, .ref (a 0)), (1, .int p0)] := hl
  have J26 : ∀ (r1 : Int32) (v26s0 : Bool) (H : Heap) (locs : List Loc) (ls : Array Slot), Wd B A s.heap (wX1 k a σ) H locs → lv_has ls 4 [(0, .ref (a 0)), (1, .int p0), (2, .int r1)] → wpX1_isFree_J26 σ p0 r1 post v26s0 → W p l e rm_X1_isFree s m args below meth c H locs 0 0 (Qi below args s B A (fun _ : Unit => wX1 k a σ) (bpost fun b _ => post b) 0 0) (F0 m 26 ls [.int (bi v26s0)]) := by
    intro r1 v26s0 H locs ls hd hl hw
    rw [wpX1_isFree_J26] at hw
    refine lv_istore_n (lv' := [(3, .int (bi v26s0)), (0, .ref (a 0)), (1, .int p0), (2, .int r1)]) hx hb dX1_isFree_26 rfl hl (by decide) rfl (fun ls hl => ?_)
    refine lv_iload_n hx hb dX1_isFree_27 rfl (lv_at hl 0 rfl) ?_
    refine lv_if_eq (tgt := 63) hx hb dX1_isFree_28 (by decide) (fun c21 => ?_) (fun c21 => ?_)
    · replace hw := hw.2 ((bi_eq _).mp c21)
      refine lv_iconst (v := 0) hx hb dX1_isFree_63 (by decide) ?_
      exact r_z false C hd dX1_isFree_64 () rfl hw
    · replace hw := hw.1 ((bi_ne _).mp c21)
      refine lv_aload_n hx hb dX1_isFree_31 rfl (lv_at hl 1 rfl) ?_
      refine g_get (v := .ref (a 8)) C hd iX1_isFree_X1 0 1 rfl rfl 8 (by decide) (List.mem_of_getElem? (i := 2) rfl) rfl dX1_isFree_32 ?_
      refine lv_iload_n hx hb dX1_isFree_35 rfl (lv_at hl 2 rfl) ?_
      obtain ⟨h10, hw⟩ := hw
      refine g_ild C hd 8 rfl h10 dX1_isFree_36 ?_
      refine lv_bipush (v := (-5)) hx hb dX1_isFree_37 (by decide) ?_
      refine lv_icmp_ne (tgt := 63) hx hb dX1_isFree_39 (by decide) (fun c18 => ?_) (fun c18 => ?_)
      · replace hw := hw.2 c18
        refine lv_iconst (v := 0) hx hb dX1_isFree_63 (by decide) ?_
        exact r_z false C hd dX1_isFree_64 () rfl hw
      · replace hw := hw.1 c18
        refine lv_aload_n hx hb dX1_isFree_42 rfl (lv_at hl 1 rfl) ?_
        refine lv_iload_n hx hb dX1_isFree_43 rfl (lv_at hl 2 rfl) ?_
        refine v_i C hd hl M_X1_isGood gX1_isFree_X1_isGood (c_X1_isGood l B k a σ p0 _ hw) ⟨rfl, rfl⟩ ⟨Nat.le_of_ble_eq_true rfl, Nat.le_of_ble_eq_true rfl⟩ (pm_all _) (fun _ => wX1 k a σ) (fun _ => (pm_all _).symm) 0 1 rfl rfl rfl rfl rfl (Nat.le_of_ble_eq_true rfl) dX1_isFree_44 ⟨Nat.zero_le _, Nat.zero_le _⟩ (fun r _ H locs hp hd => ?_)
        obtain ⟨b44, rfl, hw⟩ := hp
        refine lv_if_eq (tgt := 63) hx hb dX1_isFree_47 (by decide) (fun c20 => ?_) (fun c20 => ?_)
        · replace hw := hw.2 ((bi_eq _).mp c20)
          refine lv_iconst (v := 0) hx hb dX1_isFree_63 (by decide) ?_
          exact r_z false C hd dX1_isFree_64 () rfl hw
        · replace hw := hw.1 ((bi_ne _).mp c20)
          refine lv_aload_n hx hb dX1_isFree_50 rfl (lv_at hl 1 rfl) ?_
          refine g_get (v := .ref (a 3)) C hd iX1_isFree_X1 0 1 rfl rfl 3 (by decide) (List.mem_of_getElem? (i := 3) rfl) rfl dX1_isFree_51 ?_
          refine lv_iload_n hx hb dX1_isFree_54 rfl (lv_at hl 3 rfl) ?_
          obtain ⟨h11, hw⟩ := hw
          refine g_zld C hd 3 rfl h11 dX1_isFree_55 ?_
          refine lv_if_ne (tgt := 63) hx hb dX1_isFree_56 (by decide) (fun c19 => ?_) (fun c19 => ?_)
          · replace hw := hw.2 c19
            refine lv_iconst (v := 0) hx hb dX1_isFree_63 (by decide) ?_
            exact r_z false C hd dX1_isFree_64 () rfl hw
          · replace hw := hw.1 c19
            refine lv_iconst (v := 1) hx hb dX1_isFree_59 (by decide) ?_
            refine lv_goto (tgt := 64) hx hb dX1_isFree_60 (by decide) ?_
            exact r_z true C hd dX1_isFree_64 () rfl hw
  rw [wpX1_isFree] at hw
  refine lv_iload_n hx hb dX1_isFree_0 rfl (lv_at hl 1 rfl) ?_
  refine n_i C hd hl M_X3_headOf gX1_isFree_X3_headOf_n80 (List.mem_of_getElem? (i := 2) rfl) (List.mem_of_getElem? (i := 4) rfl) (List.mem_of_getElem? (i := 5) rfl) (c_X3_headOf l B k p0 _ hw) ⟨rfl, rfl⟩ ⟨Nat.le_of_ble_eq_true rfl, Nat.le_of_ble_eq_true rfl⟩ (pm_non _) (fun _ => wX1 k a σ) (fun _ => List.Perm.refl _) rfl rfl (Nat.le_of_ble_eq_true rfl) dX1_isFree_1 ⟨Nat.zero_le _, Nat.zero_le _⟩ (fun r1 _ H locs hw hd => ?_)
  refine lv_istore_n (lv' := [(2, .int r1), (0, .ref (a 0)), (1, .int p0)]) hx hb dX1_isFree_4 rfl hl (by decide) rfl (fun ls hl => ?_)
  refine lv_iload_n hx hb dX1_isFree_5 rfl (lv_at hl 2 rfl) ?_
  refine n_i C hd hl M_X3_placeOf gX1_isFree_X3_placeOf_n76 (List.mem_of_getElem? (i := 1) rfl) (List.mem_of_getElem? (i := 7) rfl) (List.mem_of_getElem? (i := 5) rfl) (c_X3_placeOf l B k p0 _ hw) ⟨rfl, rfl⟩ ⟨Nat.le_of_ble_eq_true rfl, Nat.le_of_ble_eq_true rfl⟩ (pm_non _) (fun _ => wX1 k a σ) (fun _ => List.Perm.refl _) rfl rfl (Nat.le_of_ble_eq_true rfl) dX1_isFree_6 ⟨Nat.zero_le _, Nat.zero_le _⟩ (fun r6 _ H locs hw hd => ?_)
  refine lv_bipush (v := 16) hx hb dX1_isFree_9 (by decide) ?_
  refine lv_aload_n hx hb dX1_isFree_11 rfl (lv_at hl 1 rfl) ?_
  refine g_get (v := .ref (a 2)) C hd iX1_isFree_X1 0 1 rfl rfl 2 (by decide) (List.mem_of_getElem? (i := 1) rfl) rfl dX1_isFree_12 ?_
  refine lv_iload_n hx hb dX1_isFree_15 rfl (lv_at hl 0 rfl) ?_
  obtain ⟨h12, hw⟩ := hw
  refine g_ild C hd 2 rfl h12 dX1_isFree_16 ?_
  refine lv_isub hx hb dX1_isFree_17 ?_
  refine lv_icmp_lt (tgt := 25) hx hb dX1_isFree_18 (by decide) (fun c22 => ?_) (fun c22 => ?_)
  · replace hw := hw.1 c22
    refine lv_iconst (v := 0) hx hb dX1_isFree_25 (by decide) ?_
    exact J26 r1 false _ _ _ hd (lv_sub hl [1, 2, 0] rfl) hw
  · replace hw := hw.2 c22
    refine lv_iconst (v := 1) hx hb dX1_isFree_21 (by decide) ?_
    refine lv_goto (tgt := 26) hx hb dX1_isFree_22 (by decide) ?_
    exact J26 r1 true _ _ _ hd (lv_sub hl [1, 2, 0] rfl) hw
abbrev rm_X1_release : Room := { frames := 1, cells := 0, slots := 0, locals := 21 }
theorem M_X1_release : MI yX1_release wsX1_release cX1_release 2 none 1 := ⟨⟨_, rfl⟩, by decide +kernel, by decide +kernel, by decide +kernel, by decide +kernel⟩
theorem iX1_release_X1 : ∀ w ∈ wsX10, w ∈ wsX1_release := fun _ h => List.mem_cons_of_mem _ (List.mem_append_right _ h)
def wpX1_release_J21 (p0 : Int32) (post : HS → Prop) (σ21 : HS) : Prop := (vp_in p0 64 ∧ post (hs_setServer σ21 (upd (hs_server σ21) p0.toNatClampNeg (-5))))
def wpX1_release (σ : HS) (p0 : Int32) (post : HS → Prop) : Prop := wpX1_isLost σ p0 (fun b2 => ((b2 = true → wpX1_release_J21 p0 post σ) ∧ (b2 = false → (vp_in p0 64 ∧ (vp_in (hs_server σ p0.toNatClampNeg) 64 ∧ wpX1_release_J21 p0 post (hs_setClient σ (upd (hs_client σ) (hs_server σ p0.toNatClampNeg).toNatClampNeg (-5))))))))
set_option maxHeartbeats 4000000 in
set_option maxRecDepth 100000 in
theorem c_X1_release (l : Launch) (B : va_G) (k : KT) (a : Nat → Nat) (σ : HS) (p0 : Int32) (post : HS → Prop) (hw : wpX1_release σ p0 post) : Ctv l yX1_release wsX1_release rm_X1_release 0 0 B k [.ref (a 0), .int p0] (wX1 k a σ) (fun u => wX1 k a u) post := by
  refine Ctv.of M_X1_release (by decide) ?_
  intro p e s m args below meth c A C hd ls hl
  have hx := C.1; have hb := C.2.1; have hml := C.2.2.1; have hts := C.2.2.2.2.1
  have hl : lv_has ls 2 [(0, .ref (a 0)), (1, .int p0)] := hl
  have J21 : ∀ (σ21 : HS) (H : Heap) (locs : List Loc) (ls : Array Slot), Wd B A s.heap (wX1 k a σ21) H locs → lv_has ls 2 [(0, .ref (a 0)), (1, .int p0)] → wpX1_release_J21 p0 post σ21 → W p l e rm_X1_release s m args below meth c H locs 0 0 (Qv below args s B A (fun u => wX1 k a u) post 0 0) (F0 m 21 ls []) := by
    intro σ21 H locs ls hd hl hw
    rw [wpX1_release_J21] at hw
    refine lv_aload_n hx hb dX1_release_21 rfl (lv_at hl 0 rfl) ?_
    refine g_get (v := .ref (a 7)) C hd iX1_release_X1 0 1 rfl rfl 7 (by decide) (List.mem_of_getElem? (i := 2) rfl) rfl dX1_release_22 ?_
    refine lv_iload_n hx hb dX1_release_25 rfl (lv_at hl 1 rfl) ?_
    refine lv_bipush (v := (-5)) hx hb dX1_release_26 (by decide) ?_
    obtain ⟨h7, hw⟩ := hw
    refine g_ist C hd 7 rfl h7 (wX1 k a (hs_setServer σ21 (upd (hs_server σ21) p0.toNatClampNeg (-5)))) (wX1_stServer k a _ _) dX1_release_28 (fun H locs hd => ?_)
    exact r_v C hd dX1_release_29 (hs_setServer σ21 (upd (hs_server σ21) p0.toNatClampNeg (-5))) rfl hw
  rw [wpX1_release] at hw
  refine lv_aload_n hx hb dX1_release_0 rfl (lv_at hl 0 rfl) ?_
  refine lv_iload_n hx hb dX1_release_1 rfl (lv_at hl 1 rfl) ?_
  refine v_i C hd hl M_X1_isLost gX1_release_X1_isLost (c_X1_isLost l B k a σ p0 _ hw) ⟨rfl, rfl⟩ ⟨Nat.le_of_ble_eq_true rfl, Nat.le_of_ble_eq_true rfl⟩ (pm_all _) (fun _ => wX1 k a σ) (fun _ => (pm_all _).symm) 0 1 rfl rfl rfl rfl rfl (Nat.le_of_ble_eq_true rfl) dX1_release_2 ⟨Nat.zero_le _, Nat.zero_le _⟩ (fun r _ H locs hp hd => ?_)
  obtain ⟨b2, rfl, hw⟩ := hp
  refine lv_if_ne (tgt := 21) hx hb dX1_release_5 (by decide) (fun c2 => ?_) (fun c2 => ?_)
  · replace hw := hw.1 ((bi_ne _).mp c2)
    exact J21 σ _ _ _ hd (lv_sub hl [0, 1] rfl) hw
  · replace hw := hw.2 ((bi_eq _).mp c2)
    refine lv_aload_n hx hb dX1_release_8 rfl (lv_at hl 0 rfl) ?_
    refine g_get (v := .ref (a 8)) C hd iX1_release_X1 0 1 rfl rfl 8 (by decide) (List.mem_of_getElem? (i := 1) rfl) rfl dX1_release_9 ?_
    refine lv_aload_n hx hb dX1_release_12 rfl (lv_at hl 0 rfl) ?_
    refine g_get (v := .ref (a 7)) C hd iX1_release_X1 0 1 rfl rfl 7 (by decide) (List.mem_of_getElem? (i := 2) rfl) rfl dX1_release_13 ?_
    refine lv_iload_n hx hb dX1_release_16 rfl (lv_at hl 1 rfl) ?_
    obtain ⟨h8, hw⟩ := hw
    refine g_ild C hd 7 rfl h8 dX1_release_17 ?_
    refine lv_bipush (v := (-5)) hx hb dX1_release_18 (by decide) ?_
    obtain ⟨h9, hw⟩ := hw
    refine g_ist C hd 8 rfl h9 (wX1 k a (hs_setClient σ (upd (hs_client σ) (hs_server σ p0.toNatClampNeg).toNatClampNeg (-5)))) (wX1_stClient k a _ _) dX1_release_20 (fun H locs hd => ?_)
    exact J21 (hs_setClient σ (upd (hs_client σ) (hs_server σ p0.toNatClampNeg).toNatClampNeg (-5))) _ _ _ hd (lv_sub hl [0, 1] rfl) hw
abbrev rm_X1_lend : Room := { frames := 2, cells := 0, slots := 0, locals := 42 }
theorem M_X1_lend : MI yX1_lend wsX1_lend cX1_lend 3 none 2 := ⟨⟨_, rfl⟩, by decide +kernel, by decide +kernel, by decide +kernel, by decide +kernel⟩
theorem iX1_lend_X1 : ∀ w ∈ wsX10, w ∈ wsX1_lend := fun _ h => List.mem_cons_of_mem _ (List.mem_append_right _ h)
def wpX1_lend (σ : HS) (p0 : Int32) (p1 : Int32) (post : HS → Prop) : Prop := wpX1_release σ p0 (fun σ2 => (vp_in p0 64 ∧ (vp_in p1 64 ∧ post (hs_setClient (hs_setServer σ2 (upd (hs_server σ2) p0.toNatClampNeg p1)) (upd (hs_client (hs_setServer σ2 (upd (hs_server σ2) p0.toNatClampNeg p1))) p1.toNatClampNeg p0)))))
set_option maxHeartbeats 4000000 in
set_option maxRecDepth 100000 in
theorem c_X1_lend (l : Launch) (B : va_G) (k : KT) (a : Nat → Nat) (σ : HS) (p0 : Int32) (p1 : Int32) (post : HS → Prop) (hw : wpX1_lend σ p0 p1 post) : Ctv l yX1_lend wsX1_lend rm_X1_lend 0 0 B k [.ref (a 0), .int p0, .int p1] (wX1 k a σ) (fun u => wX1 k a u) post := by
  refine Ctv.of M_X1_lend (by decide) ?_
  intro p e s m args below meth c A C hd ls hl
  have hx := C.1; have hb := C.2.1; have hml := C.2.2.1; have hts := C.2.2.2.2.1
  have hl : lv_has ls 3 [(0, .ref (a 0)), (1, .int p0), (2, .int p1)] := hl
  rw [wpX1_lend] at hw
  refine lv_aload_n hx hb dX1_lend_0 rfl (lv_at hl 0 rfl) ?_
  refine lv_iload_n hx hb dX1_lend_1 rfl (lv_at hl 1 rfl) ?_
  refine v_v C hd hl M_X1_release gX1_lend_X1_release (c_X1_release l B k a σ p0 _ hw) ⟨rfl, rfl⟩ ⟨Nat.le_of_ble_eq_true rfl, Nat.le_of_ble_eq_true rfl⟩ (pm_all _) (fun u => wX1 k a u) (fun _ => (pm_all _).symm) 0 1 rfl rfl rfl rfl rfl (Nat.le_of_ble_eq_true rfl) dX1_lend_2 ⟨Nat.zero_le _, Nat.zero_le _⟩ (fun σ2 H locs hw hd => ?_)
  refine lv_aload_n hx hb dX1_lend_5 rfl (lv_at hl 0 rfl) ?_
  refine g_get (v := .ref (a 7)) C hd iX1_lend_X1 0 1 rfl rfl 7 (by decide) (List.mem_of_getElem? (i := 1) rfl) rfl dX1_lend_6 ?_
  refine lv_iload_n hx hb dX1_lend_9 rfl (lv_at hl 1 rfl) ?_
  refine lv_iload_n hx hb dX1_lend_10 rfl (lv_at hl 2 rfl) ?_
  obtain ⟨h3, hw⟩ := hw
  refine g_ist C hd 7 rfl h3 (wX1 k a (hs_setServer σ2 (upd (hs_server σ2) p0.toNatClampNeg p1))) (wX1_stServer k a _ _) dX1_lend_11 (fun H locs hd => ?_)
  refine lv_aload_n hx hb dX1_lend_12 rfl (lv_at hl 0 rfl) ?_
  refine g_get (v := .ref (a 8)) C hd iX1_lend_X1 0 1 rfl rfl 8 (by decide) (List.mem_of_getElem? (i := 2) rfl) rfl dX1_lend_13 ?_
  refine lv_iload_n hx hb dX1_lend_16 rfl (lv_at hl 2 rfl) ?_
  refine lv_iload_n hx hb dX1_lend_17 rfl (lv_at hl 1 rfl) ?_
  obtain ⟨h4, hw⟩ := hw
  refine g_ist C hd 8 rfl h4 (wX1 k a (hs_setClient (hs_setServer σ2 (upd (hs_server σ2) p0.toNatClampNeg p1)) (upd (hs_client (hs_setServer σ2 (upd (hs_server σ2) p0.toNatClampNeg p1))) p1.toNatClampNeg p0))) (wX1_stClient k a _ _) dX1_lend_18 (fun H locs hd => ?_)
  exact r_v C hd dX1_lend_19 (hs_setClient (hs_setServer σ2 (upd (hs_server σ2) p0.toNatClampNeg p1)) (upd (hs_client (hs_setServer σ2 (upd (hs_server σ2) p0.toNatClampNeg p1))) p1.toNatClampNeg p0)) rfl hw
abbrev rm_X1_tellAddress : Room := { frames := 4, cells := 0, slots := 0, locals := 93 }
theorem M_X1_tellAddress : MI yX1_tellAddress wsX1_tellAddress cX1_tellAddress 3 (some .int) 2 := ⟨⟨_, rfl⟩, by decide +kernel, by decide +kernel, by decide +kernel, by decide +kernel⟩
theorem iX1_tellAddress_X1 : ∀ w ∈ wsX10, w ∈ wsX1_tellAddress := fun _ h => List.mem_cons_of_mem _ (List.mem_append_right _ h)
def wpX1_tellAddress (σ : HS) (p0 : Int32) (p1 : Int32) (post : Int32 → Prop) : Prop := ((p1 = 0 → wpX1_isLost σ p0 (fun b42 => ((b42 = true → post (-5)) ∧ (b42 = false → (vp_in p0 64 ∧ post (hs_value σ p0.toNatClampNeg)))))) ∧ (p1 = 1 → (vp_in p0 64 ∧ post (hs_server σ p0.toNatClampNeg))) ∧ (p1 = 2 → wpX1_isLongWay σ p0 (fun b69 => ((b69 = true → post 1) ∧ (b69 = false → post 0)))) ∧ (p1 = 3 → wpX1_lendableTo σ p0 (fun r83 => post r83)) ∧ (p1 = 4 → wpX1_isLost σ p0 (fun b89 => ((b89 = true → post (-5)) ∧ (b89 = false → wpX1_stepsTo σ p0 (fun r102 => post r102))))) ∧ (p1 = 5 → (vp_in p0 64 ∧ post (hs_rescuesOf σ p0.toNatClampNeg))) ∧ (¬ p1 = 0 → ¬ p1 = 1 → ¬ p1 = 2 → ¬ p1 = 3 → ¬ p1 = 4 → ¬ p1 = 5 → post (-2)))
set_option maxHeartbeats 4000000 in
set_option maxRecDepth 100000 in
theorem c_X1_tellAddress (l : Launch) (B : va_G) (k : KT) (a : Nat → Nat) (σ : HS) (p0 : Int32) (p1 : Int32) (post : Int32 → Prop) (hw : wpX1_tellAddress σ p0 p1 post) : Cti l yX1_tellAddress wsX1_tellAddress rm_X1_tellAddress 0 0 B k [.ref (a 0), .int p0, .int p1] (wX1 k a σ) (fun _ : Unit => wX1 k a σ) (fun r _ => post r) := by
  refine Cti.of M_X1_tellAddress (by decide) ?_
  intro p e s m args below meth c A C hd ls hl
  have hx := C.1; have hb := C.2.1; have hml := C.2.2.1; have hts := C.2.2.2.2.1
  have hl : lv_has ls 3 [(0, .ref (a 0)), (1, .int p0), (2, .int p1)] := hl
  rw [wpX1_tellAddress] at hw
  refine lv_iload_n hx hb dX1_tellAddress_0 rfl (lv_at hl 2 rfl) ?_
  by_cases c11 : p1 = 0
  · replace hw := hw.1 c11
    refine lv_tableIn (tgt := 40) hx hb dX1_tellAddress_1 (by rw [c11]; decide) (by rw [c11]; decide) (by rw [c11]; rfl) (by decide) ?_
    refine lv_aload_n hx hb dX1_tellAddress_40 rfl (lv_at hl 0 rfl) ?_
    refine lv_iload_n hx hb dX1_tellAddress_41 rfl (lv_at hl 1 rfl) ?_
    refine v_i C hd hl M_X1_isLost gX1_tellAddress_X1_isLost (c_X1_isLost l B k a σ p0 _ hw) ⟨rfl, rfl⟩ ⟨Nat.le_of_ble_eq_true rfl, Nat.le_of_ble_eq_true rfl⟩ (pm_all _) (fun _ => wX1 k a σ) (fun _ => (pm_all _).symm) 0 1 rfl rfl rfl rfl rfl (Nat.le_of_ble_eq_true rfl) dX1_tellAddress_42 ⟨Nat.zero_le _, Nat.zero_le _⟩ (fun r _ H locs hp hd => ?_)
    obtain ⟨b42, rfl, hw⟩ := hp
    refine lv_if_eq (tgt := 53) hx hb dX1_tellAddress_45 (by decide) (fun c10 => ?_) (fun c10 => ?_)
    · replace hw := hw.2 ((bi_eq _).mp c10)
      refine lv_aload_n hx hb dX1_tellAddress_53 rfl (lv_at hl 0 rfl) ?_
      refine g_get (v := .ref (a 5)) C hd iX1_tellAddress_X1 0 1 rfl rfl 5 (by decide) (List.mem_of_getElem? (i := 1) rfl) rfl dX1_tellAddress_54 ?_
      refine lv_iload_n hx hb dX1_tellAddress_57 rfl (lv_at hl 1 rfl) ?_
      obtain ⟨h4, hw⟩ := hw
      refine g_ild C hd 5 rfl h4 dX1_tellAddress_58 ?_
      exact r_i C hd dX1_tellAddress_59 () rfl hw
    · replace hw := hw.1 ((bi_ne _).mp c10)
      refine lv_bipush (v := (-5)) hx hb dX1_tellAddress_48 (by decide) ?_
      refine lv_goto (tgt := 59) hx hb dX1_tellAddress_50 (by decide) ?_
      exact r_i C hd dX1_tellAddress_59 () rfl hw
  · by_cases c12 : p1 = 1
    · replace hw := hw.2.1 c12
      refine lv_tableIn (tgt := 60) hx hb dX1_tellAddress_1 (by rw [c12]; decide) (by rw [c12]; decide) (by rw [c12]; rfl) (by decide) ?_
      refine lv_aload_n hx hb dX1_tellAddress_60 rfl (lv_at hl 0 rfl) ?_
      refine g_get (v := .ref (a 7)) C hd iX1_tellAddress_X1 0 1 rfl rfl 7 (by decide) (List.mem_of_getElem? (i := 2) rfl) rfl dX1_tellAddress_61 ?_
      refine lv_iload_n hx hb dX1_tellAddress_64 rfl (lv_at hl 1 rfl) ?_
      obtain ⟨h5, hw⟩ := hw
      refine g_ild C hd 7 rfl h5 dX1_tellAddress_65 ?_
      exact r_i C hd dX1_tellAddress_66 () rfl hw
    · by_cases c14 : p1 = 2
      · replace hw := hw.2.2.1 c14
        refine lv_tableIn (tgt := 67) hx hb dX1_tellAddress_1 (by rw [c14]; decide) (by rw [c14]; decide) (by rw [c14]; rfl) (by decide) ?_
        refine lv_aload_n hx hb dX1_tellAddress_67 rfl (lv_at hl 0 rfl) ?_
        refine lv_iload_n hx hb dX1_tellAddress_68 rfl (lv_at hl 1 rfl) ?_
        refine v_i C hd hl M_X1_isLongWay gX1_tellAddress_X1_isLongWay (c_X1_isLongWay l B k a σ p0 _ hw) ⟨rfl, rfl⟩ ⟨Nat.le_of_ble_eq_true rfl, Nat.le_of_ble_eq_true rfl⟩ (pm_all _) (fun _ => wX1 k a σ) (fun _ => (pm_all _).symm) 0 1 rfl rfl rfl rfl rfl (Nat.le_of_ble_eq_true rfl) dX1_tellAddress_69 ⟨Nat.zero_le _, Nat.zero_le _⟩ (fun r _ H locs hp hd => ?_)
        obtain ⟨b69, rfl, hw⟩ := hp
        refine lv_if_eq (tgt := 79) hx hb dX1_tellAddress_72 (by decide) (fun c13 => ?_) (fun c13 => ?_)
        · replace hw := hw.2 ((bi_eq _).mp c13)
          refine lv_iconst (v := 0) hx hb dX1_tellAddress_79 (by decide) ?_
          exact r_i C hd dX1_tellAddress_80 () rfl hw
        · replace hw := hw.1 ((bi_ne _).mp c13)
          refine lv_iconst (v := 1) hx hb dX1_tellAddress_75 (by decide) ?_
          refine lv_goto (tgt := 80) hx hb dX1_tellAddress_76 (by decide) ?_
          exact r_i C hd dX1_tellAddress_80 () rfl hw
      · by_cases c15 : p1 = 3
        · replace hw := hw.2.2.2.1 c15
          refine lv_tableIn (tgt := 81) hx hb dX1_tellAddress_1 (by rw [c15]; decide) (by rw [c15]; decide) (by rw [c15]; rfl) (by decide) ?_
          refine lv_aload_n hx hb dX1_tellAddress_81 rfl (lv_at hl 0 rfl) ?_
          refine lv_iload_n hx hb dX1_tellAddress_82 rfl (lv_at hl 1 rfl) ?_
          refine v_i C hd hl M_X1_lendableTo gX1_tellAddress_X1_lendableTo (c_X1_lendableTo l B k a σ p0 _ hw) ⟨rfl, rfl⟩ ⟨Nat.le_of_ble_eq_true rfl, Nat.le_of_ble_eq_true rfl⟩ (pm_all _) (fun _ => wX1 k a σ) (fun _ => (pm_all _).symm) 0 1 rfl rfl rfl rfl rfl (Nat.le_of_ble_eq_true rfl) dX1_tellAddress_83 ⟨Nat.zero_le _, Nat.zero_le _⟩ (fun r83 _ H locs hw hd => ?_)
          exact r_i C hd dX1_tellAddress_86 () rfl hw
        · by_cases c17 : p1 = 4
          · replace hw := hw.2.2.2.2.1 c17
            refine lv_tableIn (tgt := 87) hx hb dX1_tellAddress_1 (by rw [c17]; decide) (by rw [c17]; decide) (by rw [c17]; rfl) (by decide) ?_
            refine lv_aload_n hx hb dX1_tellAddress_87 rfl (lv_at hl 0 rfl) ?_
            refine lv_iload_n hx hb dX1_tellAddress_88 rfl (lv_at hl 1 rfl) ?_
            refine v_i C hd hl M_X1_isLost gX1_tellAddress_X1_isLost (c_X1_isLost l B k a σ p0 _ hw) ⟨rfl, rfl⟩ ⟨Nat.le_of_ble_eq_true rfl, Nat.le_of_ble_eq_true rfl⟩ (pm_all _) (fun _ => wX1 k a σ) (fun _ => (pm_all _).symm) 0 1 rfl rfl rfl rfl rfl (Nat.le_of_ble_eq_true rfl) dX1_tellAddress_89 ⟨Nat.zero_le _, Nat.zero_le _⟩ (fun r _ H locs hp hd => ?_)
            obtain ⟨b89, rfl, hw⟩ := hp
            refine lv_if_eq (tgt := 100) hx hb dX1_tellAddress_92 (by decide) (fun c16 => ?_) (fun c16 => ?_)
            · replace hw := hw.2 ((bi_eq _).mp c16)
              refine lv_aload_n hx hb dX1_tellAddress_100 rfl (lv_at hl 0 rfl) ?_
              refine lv_iload_n hx hb dX1_tellAddress_101 rfl (lv_at hl 1 rfl) ?_
              refine v_i C hd hl M_X1_stepsTo gX1_tellAddress_X1_stepsTo (c_X1_stepsTo l B k a σ p0 _ hw) ⟨rfl, rfl⟩ ⟨Nat.le_of_ble_eq_true rfl, Nat.le_of_ble_eq_true rfl⟩ (pm_all _) (fun _ => wX1 k a σ) (fun _ => (pm_all _).symm) 0 1 rfl rfl rfl rfl rfl (Nat.le_of_ble_eq_true rfl) dX1_tellAddress_102 ⟨Nat.zero_le _, Nat.zero_le _⟩ (fun r102 _ H locs hw hd => ?_)
              exact r_i C hd dX1_tellAddress_105 () rfl hw
            · replace hw := hw.1 ((bi_ne _).mp c16)
              refine lv_bipush (v := (-5)) hx hb dX1_tellAddress_95 (by decide) ?_
              refine lv_goto (tgt := 105) hx hb dX1_tellAddress_97 (by decide) ?_
              exact r_i C hd dX1_tellAddress_105 () rfl hw
          · by_cases c18 : p1 = 5
            · replace hw := hw.2.2.2.2.2.1 c18
              refine lv_tableIn (tgt := 106) hx hb dX1_tellAddress_1 (by rw [c18]; decide) (by rw [c18]; decide) (by rw [c18]; rfl) (by decide) ?_
              refine lv_aload_n hx hb dX1_tellAddress_106 rfl (lv_at hl 0 rfl) ?_
              refine g_get (v := .ref (a 6)) C hd iX1_tellAddress_X1 0 1 rfl rfl 6 (by decide) (List.mem_of_getElem? (i := 3) rfl) rfl dX1_tellAddress_107 ?_
              refine lv_iload_n hx hb dX1_tellAddress_110 rfl (lv_at hl 1 rfl) ?_
              obtain ⟨h6, hw⟩ := hw
              refine g_ild C hd 6 rfl h6 dX1_tellAddress_111 ?_
              exact r_i C hd dX1_tellAddress_112 () rfl hw
            · replace hw := hw.2.2.2.2.2.2 c11 c12 c14 c15 c17 c18
              refine lv_tableOut (tgt := 113) hx hb dX1_tellAddress_1 (by have q0 := sw_ne (z := 0) c11 (by decide); have q1 := sw_ne (z := 1) c12 (by decide); have q2 := sw_ne (z := 2) c14 (by decide); have q3 := sw_ne (z := 3) c15 (by decide); have q4 := sw_ne (z := 4) c17 (by decide); have q5 := sw_ne (z := 5) c18 (by decide); omega) (by decide) ?_
              refine lv_bipush (v := (-2)) hx hb dX1_tellAddress_113 (by decide) ?_
              exact r_i C hd dX1_tellAddress_115 () rfl hw
