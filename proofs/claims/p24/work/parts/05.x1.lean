abbrev rm_X1_takeOver : Room := { frames := 1, cells := 0, slots := 0, locals := 40 }
theorem M_X1_takeOver : MI yX1_takeOver wsX1_takeOver cX1_takeOver 2 none 1 := ⟨⟨_, rfl⟩, by decide +kernel, by decide +kernel, by decide +kernel, by decide +kernel⟩
theorem iX1_takeOver_X1 : ∀ w ∈ wsX10, w ∈ wsX1_takeOver := fun _ h => List.mem_cons_of_mem _ (List.mem_append_right _ h)
def wpX1_takeOver (σ : HS) (τ : HS) (post : HS → Prop) : Prop := ((∀ i, i < 4 → hs_givenUp τ i = 0 ∨ hs_givenUp τ i = 1) ∧ post (hs_setWrites (hs_setReads (hs_setLosses (hs_setRescues (hs_setSteps (hs_setArm (hs_setClient (hs_setServer (hs_setRescuesOf (hs_setValue (hs_setWear (hs_setGivenUp (hs_setSpares (hs_setAgeing (hs_setLimit σ (hs_limit τ)) (va_cpy (hs_ageing τ) (hs_ageing σ) 0 0 4)) (va_cpy (hs_spares τ) (hs_spares σ) 0 0 4)) (va_cpy (hs_givenUp τ) (hs_givenUp σ) 0 0 4)) (va_cpy (hs_wear τ) (hs_wear σ) 0 0 64)) (va_cpy (hs_value τ) (hs_value σ) 0 0 64)) (va_cpy (hs_rescuesOf τ) (hs_rescuesOf σ) 0 0 64)) (va_cpy (hs_server τ) (hs_server σ) 0 0 64)) (va_cpy (hs_client τ) (hs_client σ) 0 0 64)) (hs_arm τ)) (hs_steps τ)) (hs_rescues τ)) (hs_losses τ)) (hs_reads τ)) (hs_writes τ)))
set_option maxHeartbeats 4000000 in
set_option maxRecDepth 100000 in
theorem c_X1_takeOver (l : Launch) (B : va_G) (k : KT) (a : Nat → Nat) (b : Nat → Nat) (σ : HS) (τ : HS) (post : HS → Prop) (hw : wpX1_takeOver σ τ post) : Ctv l yX1_takeOver wsX1_takeOver rm_X1_takeOver 0 0 B k [.ref (a 0), .ref (b 0)] (wX1 k a σ ++ wX1 k b τ) (fun u => wX1 k a u ++ wX1 k b τ) post := by
  refine Ctv.of M_X1_takeOver (Nat.le_of_ble_eq_true rfl) ?_
  intro p e s m args below meth c A C hd ls hl
  have hx := C.1; have hb := C.2.1; have hml := C.2.2.1; have hts := C.2.2.2.2.1
  have hl : lv_has ls 2 [(0, .ref (a 0)), (1, .ref (b 0))] := hl
  rw [wpX1_takeOver] at hw
  refine lv_aload_n hx hb dX1_takeOver_0 rfl (lv_at hl 0 rfl) ?_
  refine lv_aload_n hx hb dX1_takeOver_1 rfl (lv_at hl 1 rfl) ?_
  refine g_get (v := .int (hs_limit τ)) C hd iX1_takeOver_X1 9 1 rfl rfl 0 (by decide) (List.mem_of_getElem? (i := 1) rfl) rfl dX1_takeOver_2 ?_
  refine g_put C hd iX1_takeOver_X1 tyX1 tyX1_ok nmX1 0 1 rfl rfl 0 (by decide) (List.mem_of_getElem? (i := 1) rfl) rfl rfl rfl (Nat.le_of_ble_eq_true rfl) (wX1 k a (hs_setLimit σ (hs_limit τ)) ++ wX1 k b τ) (set_l (Nat.le_of_ble_eq_true rfl) (wX1_putLimit k a _ _)) dX1_takeOver_5 (fun H locs hd => ?_)
  refine lv_aload_n hx hb dX1_takeOver_8 rfl (lv_at hl 1 rfl) ?_
  refine g_get (v := .ref (b 1)) C hd iX1_takeOver_X1 9 1 rfl rfl 1 (by decide) (List.mem_of_getElem? (i := 2) rfl) rfl dX1_takeOver_9 ?_
  refine lv_iconst (v := 0) hx hb dX1_takeOver_12 (by decide) ?_
  refine lv_aload_n hx hb dX1_takeOver_13 rfl (lv_at hl 0 rfl) ?_
  refine g_get (v := .ref (a 1)) C hd iX1_takeOver_X1 0 1 rfl rfl 1 (by decide) (List.mem_of_getElem? (i := 2) rfl) rfl dX1_takeOver_14 ?_
  refine lv_iconst (v := 0) hx hb dX1_takeOver_17 (by decide) ?_
  refine lv_iconst (v := 4) hx hb dX1_takeOver_18 (by decide) ?_
  refine g_cpy C hd hl 10 1 0 rfl rfl rfl rfl rfl (N := 4) rfl (by decide) (fun _ _ => rfl) (List.mem_of_getElem? (i := 3) rfl) (List.mem_of_getElem? (i := 4) rfl) (List.mem_of_getElem? (i := 5) rfl) (List.mem_of_getElem? (i := 6) rfl) (Nat.le_of_ble_eq_true rfl) (Nat.le_of_ble_eq_true rfl) (wX1 k a (hs_setAgeing (hs_setLimit σ (hs_limit τ)) (va_cpy (hs_ageing τ) (hs_ageing σ) 0 0 4)) ++ wX1 k b τ) (set_l (Nat.le_of_ble_eq_true rfl) (wX1_stAgeing k a _ _)) dX1_takeOver_19 (Nat.le_refl _) (Nat.le_refl _) (fun H locs hd => ?_)
  refine lv_aload_n hx hb dX1_takeOver_22 rfl (lv_at hl 1 rfl) ?_
  refine g_get (v := .ref (b 2)) C hd iX1_takeOver_X1 9 1 rfl rfl 2 (by decide) (List.mem_of_getElem? (i := 7) rfl) rfl dX1_takeOver_23 ?_
  refine lv_iconst (v := 0) hx hb dX1_takeOver_26 (by decide) ?_
  refine lv_aload_n hx hb dX1_takeOver_27 rfl (lv_at hl 0 rfl) ?_
  refine g_get (v := .ref (a 2)) C hd iX1_takeOver_X1 0 1 rfl rfl 2 (by decide) (List.mem_of_getElem? (i := 7) rfl) rfl dX1_takeOver_28 ?_
  refine lv_iconst (v := 0) hx hb dX1_takeOver_31 (by decide) ?_
  refine lv_iconst (v := 4) hx hb dX1_takeOver_32 (by decide) ?_
  refine g_cpy C hd hl 11 2 0 rfl rfl rfl rfl rfl (N := 4) rfl (by decide) (fun _ _ => rfl) (List.mem_of_getElem? (i := 3) rfl) (List.mem_of_getElem? (i := 4) rfl) (List.mem_of_getElem? (i := 5) rfl) (List.mem_of_getElem? (i := 6) rfl) (Nat.le_of_ble_eq_true rfl) (Nat.le_of_ble_eq_true rfl) (wX1 k a (hs_setSpares (hs_setAgeing (hs_setLimit σ (hs_limit τ)) (va_cpy (hs_ageing τ) (hs_ageing σ) 0 0 4)) (va_cpy (hs_spares τ) (hs_spares σ) 0 0 4)) ++ wX1 k b τ) (set_l (Nat.le_of_ble_eq_true rfl) (wX1_stSpares k a _ _)) dX1_takeOver_33 (Nat.le_refl _) (Nat.le_refl _) (fun H locs hd => ?_)
  refine lv_aload_n hx hb dX1_takeOver_36 rfl (lv_at hl 1 rfl) ?_
  refine g_get (v := .ref (b 3)) C hd iX1_takeOver_X1 9 1 rfl rfl 3 (by decide) (List.mem_of_getElem? (i := 8) rfl) rfl dX1_takeOver_37 ?_
  refine lv_iconst (v := 0) hx hb dX1_takeOver_40 (by decide) ?_
  refine lv_aload_n hx hb dX1_takeOver_41 rfl (lv_at hl 0 rfl) ?_
  refine g_get (v := .ref (a 3)) C hd iX1_takeOver_X1 0 1 rfl rfl 3 (by decide) (List.mem_of_getElem? (i := 8) rfl) rfl dX1_takeOver_42 ?_
  refine lv_iconst (v := 0) hx hb dX1_takeOver_45 (by decide) ?_
  refine lv_iconst (v := 4) hx hb dX1_takeOver_46 (by decide) ?_
  obtain ⟨hz, hw⟩ := hw
  refine g_cpy C hd hl 12 3 1 rfl rfl rfl rfl rfl (N := 4) rfl (by decide) (fun i hi => by rcases hz i hi with q | q <;> rw [q] <;> rfl) (List.mem_of_getElem? (i := 3) rfl) (List.mem_of_getElem? (i := 4) rfl) (List.mem_of_getElem? (i := 5) rfl) (List.mem_of_getElem? (i := 6) rfl) (Nat.le_of_ble_eq_true rfl) (Nat.le_of_ble_eq_true rfl) (wX1 k a (hs_setGivenUp (hs_setSpares (hs_setAgeing (hs_setLimit σ (hs_limit τ)) (va_cpy (hs_ageing τ) (hs_ageing σ) 0 0 4)) (va_cpy (hs_spares τ) (hs_spares σ) 0 0 4)) (va_cpy (hs_givenUp τ) (hs_givenUp σ) 0 0 4)) ++ wX1 k b τ) (set_l (Nat.le_of_ble_eq_true rfl) (wX1_stGivenUp k a _ _)) dX1_takeOver_47 (Nat.le_refl _) (Nat.le_refl _) (fun H locs hd => ?_)
  refine lv_aload_n hx hb dX1_takeOver_50 rfl (lv_at hl 1 rfl) ?_
  refine g_get (v := .ref (b 4)) C hd iX1_takeOver_X1 9 1 rfl rfl 4 (by decide) (List.mem_of_getElem? (i := 9) rfl) rfl dX1_takeOver_51 ?_
  refine lv_iconst (v := 0) hx hb dX1_takeOver_54 (by decide) ?_
  refine lv_aload_n hx hb dX1_takeOver_55 rfl (lv_at hl 0 rfl) ?_
  refine g_get (v := .ref (a 4)) C hd iX1_takeOver_X1 0 1 rfl rfl 4 (by decide) (List.mem_of_getElem? (i := 9) rfl) rfl dX1_takeOver_56 ?_
  refine lv_iconst (v := 0) hx hb dX1_takeOver_59 (by decide) ?_
  refine lv_bipush (v := 64) hx hb dX1_takeOver_60 (by decide) ?_
  refine g_cpy C hd hl 13 4 0 rfl rfl rfl rfl rfl (N := 64) rfl (by decide) (fun _ _ => rfl) (List.mem_of_getElem? (i := 3) rfl) (List.mem_of_getElem? (i := 4) rfl) (List.mem_of_getElem? (i := 5) rfl) (List.mem_of_getElem? (i := 6) rfl) (Nat.le_of_ble_eq_true rfl) (Nat.le_of_ble_eq_true rfl) (wX1 k a (hs_setWear (hs_setGivenUp (hs_setSpares (hs_setAgeing (hs_setLimit σ (hs_limit τ)) (va_cpy (hs_ageing τ) (hs_ageing σ) 0 0 4)) (va_cpy (hs_spares τ) (hs_spares σ) 0 0 4)) (va_cpy (hs_givenUp τ) (hs_givenUp σ) 0 0 4)) (va_cpy (hs_wear τ) (hs_wear σ) 0 0 64)) ++ wX1 k b τ) (set_l (Nat.le_of_ble_eq_true rfl) (wX1_stWear k a _ _)) dX1_takeOver_62 (Nat.le_refl _) (Nat.le_refl _) (fun H locs hd => ?_)
  refine lv_aload_n hx hb dX1_takeOver_65 rfl (lv_at hl 1 rfl) ?_
  refine g_get (v := .ref (b 5)) C hd iX1_takeOver_X1 9 1 rfl rfl 5 (by decide) (List.mem_of_getElem? (i := 10) rfl) rfl dX1_takeOver_66 ?_
  refine lv_iconst (v := 0) hx hb dX1_takeOver_69 (by decide) ?_
  refine lv_aload_n hx hb dX1_takeOver_70 rfl (lv_at hl 0 rfl) ?_
  refine g_get (v := .ref (a 5)) C hd iX1_takeOver_X1 0 1 rfl rfl 5 (by decide) (List.mem_of_getElem? (i := 10) rfl) rfl dX1_takeOver_71 ?_
  refine lv_iconst (v := 0) hx hb dX1_takeOver_74 (by decide) ?_
  refine lv_bipush (v := 64) hx hb dX1_takeOver_75 (by decide) ?_
  refine g_cpy C hd hl 14 5 0 rfl rfl rfl rfl rfl (N := 64) rfl (by decide) (fun _ _ => rfl) (List.mem_of_getElem? (i := 3) rfl) (List.mem_of_getElem? (i := 4) rfl) (List.mem_of_getElem? (i := 5) rfl) (List.mem_of_getElem? (i := 6) rfl) (Nat.le_of_ble_eq_true rfl) (Nat.le_of_ble_eq_true rfl) (wX1 k a (hs_setValue (hs_setWear (hs_setGivenUp (hs_setSpares (hs_setAgeing (hs_setLimit σ (hs_limit τ)) (va_cpy (hs_ageing τ) (hs_ageing σ) 0 0 4)) (va_cpy (hs_spares τ) (hs_spares σ) 0 0 4)) (va_cpy (hs_givenUp τ) (hs_givenUp σ) 0 0 4)) (va_cpy (hs_wear τ) (hs_wear σ) 0 0 64)) (va_cpy (hs_value τ) (hs_value σ) 0 0 64)) ++ wX1 k b τ) (set_l (Nat.le_of_ble_eq_true rfl) (wX1_stValue k a _ _)) dX1_takeOver_77 (Nat.le_refl _) (Nat.le_refl _) (fun H locs hd => ?_)
  refine lv_aload_n hx hb dX1_takeOver_80 rfl (lv_at hl 1 rfl) ?_
  refine g_get (v := .ref (b 6)) C hd iX1_takeOver_X1 9 1 rfl rfl 6 (by decide) (List.mem_of_getElem? (i := 11) rfl) rfl dX1_takeOver_81 ?_
  refine lv_iconst (v := 0) hx hb dX1_takeOver_84 (by decide) ?_
  refine lv_aload_n hx hb dX1_takeOver_85 rfl (lv_at hl 0 rfl) ?_
  refine g_get (v := .ref (a 6)) C hd iX1_takeOver_X1 0 1 rfl rfl 6 (by decide) (List.mem_of_getElem? (i := 11) rfl) rfl dX1_takeOver_86 ?_
  refine lv_iconst (v := 0) hx hb dX1_takeOver_89 (by decide) ?_
  refine lv_bipush (v := 64) hx hb dX1_takeOver_90 (by decide) ?_
  refine g_cpy C hd hl 15 6 0 rfl rfl rfl rfl rfl (N := 64) rfl (by decide) (fun _ _ => rfl) (List.mem_of_getElem? (i := 3) rfl) (List.mem_of_getElem? (i := 4) rfl) (List.mem_of_getElem? (i := 5) rfl) (List.mem_of_getElem? (i := 6) rfl) (Nat.le_of_ble_eq_true rfl) (Nat.le_of_ble_eq_true rfl) (wX1 k a (hs_setRescuesOf (hs_setValue (hs_setWear (hs_setGivenUp (hs_setSpares (hs_setAgeing (hs_setLimit σ (hs_limit τ)) (va_cpy (hs_ageing τ) (hs_ageing σ) 0 0 4)) (va_cpy (hs_spares τ) (hs_spares σ) 0 0 4)) (va_cpy (hs_givenUp τ) (hs_givenUp σ) 0 0 4)) (va_cpy (hs_wear τ) (hs_wear σ) 0 0 64)) (va_cpy (hs_value τ) (hs_value σ) 0 0 64)) (va_cpy (hs_rescuesOf τ) (hs_rescuesOf σ) 0 0 64)) ++ wX1 k b τ) (set_l (Nat.le_of_ble_eq_true rfl) (wX1_stRescuesOf k a _ _)) dX1_takeOver_92 (Nat.le_refl _) (Nat.le_refl _) (fun H locs hd => ?_)
  refine lv_aload_n hx hb dX1_takeOver_95 rfl (lv_at hl 1 rfl) ?_
  refine g_get (v := .ref (b 7)) C hd iX1_takeOver_X1 9 1 rfl rfl 7 (by decide) (List.mem_of_getElem? (i := 12) rfl) rfl dX1_takeOver_96 ?_
  refine lv_iconst (v := 0) hx hb dX1_takeOver_99 (by decide) ?_
  refine lv_aload_n hx hb dX1_takeOver_100 rfl (lv_at hl 0 rfl) ?_
  refine g_get (v := .ref (a 7)) C hd iX1_takeOver_X1 0 1 rfl rfl 7 (by decide) (List.mem_of_getElem? (i := 12) rfl) rfl dX1_takeOver_101 ?_
  refine lv_iconst (v := 0) hx hb dX1_takeOver_104 (by decide) ?_
  refine lv_bipush (v := 64) hx hb dX1_takeOver_105 (by decide) ?_
  refine g_cpy C hd hl 16 7 0 rfl rfl rfl rfl rfl (N := 64) rfl (by decide) (fun _ _ => rfl) (List.mem_of_getElem? (i := 3) rfl) (List.mem_of_getElem? (i := 4) rfl) (List.mem_of_getElem? (i := 5) rfl) (List.mem_of_getElem? (i := 6) rfl) (Nat.le_of_ble_eq_true rfl) (Nat.le_of_ble_eq_true rfl) (wX1 k a (hs_setServer (hs_setRescuesOf (hs_setValue (hs_setWear (hs_setGivenUp (hs_setSpares (hs_setAgeing (hs_setLimit σ (hs_limit τ)) (va_cpy (hs_ageing τ) (hs_ageing σ) 0 0 4)) (va_cpy (hs_spares τ) (hs_spares σ) 0 0 4)) (va_cpy (hs_givenUp τ) (hs_givenUp σ) 0 0 4)) (va_cpy (hs_wear τ) (hs_wear σ) 0 0 64)) (va_cpy (hs_value τ) (hs_value σ) 0 0 64)) (va_cpy (hs_rescuesOf τ) (hs_rescuesOf σ) 0 0 64)) (va_cpy (hs_server τ) (hs_server σ) 0 0 64)) ++ wX1 k b τ) (set_l (Nat.le_of_ble_eq_true rfl) (wX1_stServer k a _ _)) dX1_takeOver_107 (Nat.le_refl _) (Nat.le_refl _) (fun H locs hd => ?_)
  refine lv_aload_n hx hb dX1_takeOver_110 rfl (lv_at hl 1 rfl) ?_
  refine g_get (v := .ref (b 8)) C hd iX1_takeOver_X1 9 1 rfl rfl 8 (by decide) (List.mem_of_getElem? (i := 13) rfl) rfl dX1_takeOver_111 ?_
  refine lv_iconst (v := 0) hx hb dX1_takeOver_114 (by decide) ?_
  refine lv_aload_n hx hb dX1_takeOver_115 rfl (lv_at hl 0 rfl) ?_
  refine g_get (v := .ref (a 8)) C hd iX1_takeOver_X1 0 1 rfl rfl 8 (by decide) (List.mem_of_getElem? (i := 13) rfl) rfl dX1_takeOver_116 ?_
  refine lv_iconst (v := 0) hx hb dX1_takeOver_119 (by decide) ?_
  refine lv_bipush (v := 64) hx hb dX1_takeOver_120 (by decide) ?_
  refine g_cpy C hd hl 17 8 0 rfl rfl rfl rfl rfl (N := 64) rfl (by decide) (fun _ _ => rfl) (List.mem_of_getElem? (i := 3) rfl) (List.mem_of_getElem? (i := 4) rfl) (List.mem_of_getElem? (i := 5) rfl) (List.mem_of_getElem? (i := 6) rfl) (Nat.le_of_ble_eq_true rfl) (Nat.le_of_ble_eq_true rfl) (wX1 k a (hs_setClient (hs_setServer (hs_setRescuesOf (hs_setValue (hs_setWear (hs_setGivenUp (hs_setSpares (hs_setAgeing (hs_setLimit σ (hs_limit τ)) (va_cpy (hs_ageing τ) (hs_ageing σ) 0 0 4)) (va_cpy (hs_spares τ) (hs_spares σ) 0 0 4)) (va_cpy (hs_givenUp τ) (hs_givenUp σ) 0 0 4)) (va_cpy (hs_wear τ) (hs_wear σ) 0 0 64)) (va_cpy (hs_value τ) (hs_value σ) 0 0 64)) (va_cpy (hs_rescuesOf τ) (hs_rescuesOf σ) 0 0 64)) (va_cpy (hs_server τ) (hs_server σ) 0 0 64)) (va_cpy (hs_client τ) (hs_client σ) 0 0 64)) ++ wX1 k b τ) (set_l (Nat.le_of_ble_eq_true rfl) (wX1_stClient k a _ _)) dX1_takeOver_122 (Nat.le_refl _) (Nat.le_refl _) (fun H locs hd => ?_)
  refine lv_aload_n hx hb dX1_takeOver_125 rfl (lv_at hl 0 rfl) ?_
  refine lv_aload_n hx hb dX1_takeOver_126 rfl (lv_at hl 1 rfl) ?_
  refine g_get (v := .int (hs_arm τ)) C hd iX1_takeOver_X1 9 1 rfl rfl 9 (by decide) (List.mem_of_getElem? (i := 14) rfl) rfl dX1_takeOver_127 ?_
  refine g_put C hd iX1_takeOver_X1 tyX1 tyX1_ok nmX1 0 1 rfl rfl 9 (by decide) (List.mem_of_getElem? (i := 14) rfl) rfl rfl rfl (Nat.le_of_ble_eq_true rfl) (wX1 k a (hs_setArm (hs_setClient (hs_setServer (hs_setRescuesOf (hs_setValue (hs_setWear (hs_setGivenUp (hs_setSpares (hs_setAgeing (hs_setLimit σ (hs_limit τ)) (va_cpy (hs_ageing τ) (hs_ageing σ) 0 0 4)) (va_cpy (hs_spares τ) (hs_spares σ) 0 0 4)) (va_cpy (hs_givenUp τ) (hs_givenUp σ) 0 0 4)) (va_cpy (hs_wear τ) (hs_wear σ) 0 0 64)) (va_cpy (hs_value τ) (hs_value σ) 0 0 64)) (va_cpy (hs_rescuesOf τ) (hs_rescuesOf σ) 0 0 64)) (va_cpy (hs_server τ) (hs_server σ) 0 0 64)) (va_cpy (hs_client τ) (hs_client σ) 0 0 64)) (hs_arm τ)) ++ wX1 k b τ) (set_l (Nat.le_of_ble_eq_true rfl) (wX1_putArm k a _ _)) dX1_takeOver_130 (fun H locs hd => ?_)
  refine lv_aload_n hx hb dX1_takeOver_133 rfl (lv_at hl 0 rfl) ?_
  refine lv_aload_n hx hb dX1_takeOver_134 rfl (lv_at hl 1 rfl) ?_
  refine g_get (v := .int (hs_steps τ)) C hd iX1_takeOver_X1 9 1 rfl rfl 10 (by decide) (List.mem_of_getElem? (i := 15) rfl) rfl dX1_takeOver_135 ?_
  refine g_put C hd iX1_takeOver_X1 tyX1 tyX1_ok nmX1 0 1 rfl rfl 10 (by decide) (List.mem_of_getElem? (i := 15) rfl) rfl rfl rfl (Nat.le_of_ble_eq_true rfl) (wX1 k a (hs_setSteps (hs_setArm (hs_setClient (hs_setServer (hs_setRescuesOf (hs_setValue (hs_setWear (hs_setGivenUp (hs_setSpares (hs_setAgeing (hs_setLimit σ (hs_limit τ)) (va_cpy (hs_ageing τ) (hs_ageing σ) 0 0 4)) (va_cpy (hs_spares τ) (hs_spares σ) 0 0 4)) (va_cpy (hs_givenUp τ) (hs_givenUp σ) 0 0 4)) (va_cpy (hs_wear τ) (hs_wear σ) 0 0 64)) (va_cpy (hs_value τ) (hs_value σ) 0 0 64)) (va_cpy (hs_rescuesOf τ) (hs_rescuesOf σ) 0 0 64)) (va_cpy (hs_server τ) (hs_server σ) 0 0 64)) (va_cpy (hs_client τ) (hs_client σ) 0 0 64)) (hs_arm τ)) (hs_steps τ)) ++ wX1 k b τ) (set_l (Nat.le_of_ble_eq_true rfl) (wX1_putSteps k a _ _)) dX1_takeOver_138 (fun H locs hd => ?_)
  refine lv_aload_n hx hb dX1_takeOver_141 rfl (lv_at hl 0 rfl) ?_
  refine lv_aload_n hx hb dX1_takeOver_142 rfl (lv_at hl 1 rfl) ?_
  refine g_get (v := .int (hs_rescues τ)) C hd iX1_takeOver_X1 9 1 rfl rfl 11 (by decide) (List.mem_of_getElem? (i := 16) rfl) rfl dX1_takeOver_143 ?_
  refine g_put C hd iX1_takeOver_X1 tyX1 tyX1_ok nmX1 0 1 rfl rfl 11 (by decide) (List.mem_of_getElem? (i := 16) rfl) rfl rfl rfl (Nat.le_of_ble_eq_true rfl) (wX1 k a (hs_setRescues (hs_setSteps (hs_setArm (hs_setClient (hs_setServer (hs_setRescuesOf (hs_setValue (hs_setWear (hs_setGivenUp (hs_setSpares (hs_setAgeing (hs_setLimit σ (hs_limit τ)) (va_cpy (hs_ageing τ) (hs_ageing σ) 0 0 4)) (va_cpy (hs_spares τ) (hs_spares σ) 0 0 4)) (va_cpy (hs_givenUp τ) (hs_givenUp σ) 0 0 4)) (va_cpy (hs_wear τ) (hs_wear σ) 0 0 64)) (va_cpy (hs_value τ) (hs_value σ) 0 0 64)) (va_cpy (hs_rescuesOf τ) (hs_rescuesOf σ) 0 0 64)) (va_cpy (hs_server τ) (hs_server σ) 0 0 64)) (va_cpy (hs_client τ) (hs_client σ) 0 0 64)) (hs_arm τ)) (hs_steps τ)) (hs_rescues τ)) ++ wX1 k b τ) (set_l (Nat.le_of_ble_eq_true rfl) (wX1_putRescues k a _ _)) dX1_takeOver_146 (fun H locs hd => ?_)
  refine lv_aload_n hx hb dX1_takeOver_149 rfl (lv_at hl 0 rfl) ?_
  refine lv_aload_n hx hb dX1_takeOver_150 rfl (lv_at hl 1 rfl) ?_
  refine g_get (v := .int (hs_losses τ)) C hd iX1_takeOver_X1 9 1 rfl rfl 12 (by decide) (List.mem_of_getElem? (i := 17) rfl) rfl dX1_takeOver_151 ?_
  refine g_put C hd iX1_takeOver_X1 tyX1 tyX1_ok nmX1 0 1 rfl rfl 12 (by decide) (List.mem_of_getElem? (i := 17) rfl) rfl rfl rfl (Nat.le_of_ble_eq_true rfl) (wX1 k a (hs_setLosses (hs_setRescues (hs_setSteps (hs_setArm (hs_setClient (hs_setServer (hs_setRescuesOf (hs_setValue (hs_setWear (hs_setGivenUp (hs_setSpares (hs_setAgeing (hs_setLimit σ (hs_limit τ)) (va_cpy (hs_ageing τ) (hs_ageing σ) 0 0 4)) (va_cpy (hs_spares τ) (hs_spares σ) 0 0 4)) (va_cpy (hs_givenUp τ) (hs_givenUp σ) 0 0 4)) (va_cpy (hs_wear τ) (hs_wear σ) 0 0 64)) (va_cpy (hs_value τ) (hs_value σ) 0 0 64)) (va_cpy (hs_rescuesOf τ) (hs_rescuesOf σ) 0 0 64)) (va_cpy (hs_server τ) (hs_server σ) 0 0 64)) (va_cpy (hs_client τ) (hs_client σ) 0 0 64)) (hs_arm τ)) (hs_steps τ)) (hs_rescues τ)) (hs_losses τ)) ++ wX1 k b τ) (set_l (Nat.le_of_ble_eq_true rfl) (wX1_putLosses k a _ _)) dX1_takeOver_154 (fun H locs hd => ?_)
  refine lv_aload_n hx hb dX1_takeOver_157 rfl (lv_at hl 0 rfl) ?_
  refine lv_aload_n hx hb dX1_takeOver_158 rfl (lv_at hl 1 rfl) ?_
  refine g_get (v := .int (hs_reads τ)) C hd iX1_takeOver_X1 9 1 rfl rfl 13 (by decide) (List.mem_of_getElem? (i := 18) rfl) rfl dX1_takeOver_159 ?_
  refine g_put C hd iX1_takeOver_X1 tyX1 tyX1_ok nmX1 0 1 rfl rfl 13 (by decide) (List.mem_of_getElem? (i := 18) rfl) rfl rfl rfl (Nat.le_of_ble_eq_true rfl) (wX1 k a (hs_setReads (hs_setLosses (hs_setRescues (hs_setSteps (hs_setArm (hs_setClient (hs_setServer (hs_setRescuesOf (hs_setValue (hs_setWear (hs_setGivenUp (hs_setSpares (hs_setAgeing (hs_setLimit σ (hs_limit τ)) (va_cpy (hs_ageing τ) (hs_ageing σ) 0 0 4)) (va_cpy (hs_spares τ) (hs_spares σ) 0 0 4)) (va_cpy (hs_givenUp τ) (hs_givenUp σ) 0 0 4)) (va_cpy (hs_wear τ) (hs_wear σ) 0 0 64)) (va_cpy (hs_value τ) (hs_value σ) 0 0 64)) (va_cpy (hs_rescuesOf τ) (hs_rescuesOf σ) 0 0 64)) (va_cpy (hs_server τ) (hs_server σ) 0 0 64)) (va_cpy (hs_client τ) (hs_client σ) 0 0 64)) (hs_arm τ)) (hs_steps τ)) (hs_rescues τ)) (hs_losses τ)) (hs_reads τ)) ++ wX1 k b τ) (set_l (Nat.le_of_ble_eq_true rfl) (wX1_putReads k a _ _)) dX1_takeOver_162 (fun H locs hd => ?_)
  refine lv_aload_n hx hb dX1_takeOver_165 rfl (lv_at hl 0 rfl) ?_
  refine lv_aload_n hx hb dX1_takeOver_166 rfl (lv_at hl 1 rfl) ?_
  refine g_get (v := .int (hs_writes τ)) C hd iX1_takeOver_X1 9 1 rfl rfl 14 (by decide) (List.mem_of_getElem? (i := 19) rfl) rfl dX1_takeOver_167 ?_
  refine g_put C hd iX1_takeOver_X1 tyX1 tyX1_ok nmX1 0 1 rfl rfl 14 (by decide) (List.mem_of_getElem? (i := 19) rfl) rfl rfl rfl (Nat.le_of_ble_eq_true rfl) (wX1 k a (hs_setWrites (hs_setReads (hs_setLosses (hs_setRescues (hs_setSteps (hs_setArm (hs_setClient (hs_setServer (hs_setRescuesOf (hs_setValue (hs_setWear (hs_setGivenUp (hs_setSpares (hs_setAgeing (hs_setLimit σ (hs_limit τ)) (va_cpy (hs_ageing τ) (hs_ageing σ) 0 0 4)) (va_cpy (hs_spares τ) (hs_spares σ) 0 0 4)) (va_cpy (hs_givenUp τ) (hs_givenUp σ) 0 0 4)) (va_cpy (hs_wear τ) (hs_wear σ) 0 0 64)) (va_cpy (hs_value τ) (hs_value σ) 0 0 64)) (va_cpy (hs_rescuesOf τ) (hs_rescuesOf σ) 0 0 64)) (va_cpy (hs_server τ) (hs_server σ) 0 0 64)) (va_cpy (hs_client τ) (hs_client σ) 0 0 64)) (hs_arm τ)) (hs_steps τ)) (hs_rescues τ)) (hs_losses τ)) (hs_reads τ)) (hs_writes τ)) ++ wX1 k b τ) (set_l (Nat.le_of_ble_eq_true rfl) (wX1_putWrites k a _ _)) dX1_takeOver_170 (fun H locs hd => ?_)
  exact r_v C hd dX1_takeOver_173 (hs_setWrites (hs_setReads (hs_setLosses (hs_setRescues (hs_setSteps (hs_setArm (hs_setClient (hs_setServer (hs_setRescuesOf (hs_setValue (hs_setWear (hs_setGivenUp (hs_setSpares (hs_setAgeing (hs_setLimit σ (hs_limit τ)) (va_cpy (hs_ageing τ) (hs_ageing σ) 0 0 4)) (va_cpy (hs_spares τ) (hs_spares σ) 0 0 4)) (va_cpy (hs_givenUp τ) (hs_givenUp σ) 0 0 4)) (va_cpy (hs_wear τ) (hs_wear σ) 0 0 64)) (va_cpy (hs_value τ) (hs_value σ) 0 0 64)) (va_cpy (hs_rescuesOf τ) (hs_rescuesOf σ) 0 0 64)) (va_cpy (hs_server τ) (hs_server σ) 0 0 64)) (va_cpy (hs_client τ) (hs_client σ) 0 0 64)) (hs_arm τ)) (hs_steps τ)) (hs_rescues τ)) (hs_losses τ)) (hs_reads τ)) (hs_writes τ)) rfl hw
abbrev rm_X1_isAddress : Room := { frames := 1, cells := 0, slots := 0, locals := 20 }
theorem M_X1_isAddress : MI yX1_isAddress wsX1_isAddress cX1_isAddress 2 (some .boolean) 1 := ⟨⟨_, rfl⟩, by decide +kernel, by decide +kernel, by decide +kernel, by decide +kernel⟩
theorem iX1_isAddress_X1 : ∀ w ∈ wsX10, w ∈ wsX1_isAddress := fun _ h => List.mem_cons_of_mem _ (List.mem_append_right _ h)
def wpX1_isAddress (σ : HS) (p0 : Int32) (post : Bool → Prop) : Prop := wpX3_isSector p0 (fun b1 => ((b1 = true → wpX3_placeOf p0 (fun r8 => wpX3_headOf p0 (fun r18 => (vp_in r18 4 ∧ (((16 - ((hs_spares σ) r18.toNatClampNeg)) ≤ r8 → post false) ∧ (¬ (16 - ((hs_spares σ) r18.toNatClampNeg)) ≤ r8 → post true)))))) ∧ (b1 = false → post false)))
set_option maxHeartbeats 4000000 in
set_option maxRecDepth 100000 in
theorem c_X1_isAddress (l : Launch) (B : va_G) (k : KT) (a : Nat → Nat) (σ : HS) (p0 : Int32) (post : Bool → Prop) (hw : wpX1_isAddress σ p0 post) : Cti l yX1_isAddress wsX1_isAddress rm_X1_isAddress 0 0 B k [.ref (a 0), .int p0] (wX1 k a σ) (fun _ : Unit => wX1 k a σ) (bpost fun b _ => post b) := by
  refine Cti.of M_X1_isAddress (Nat.le_of_ble_eq_true rfl) ?_
  intro p e s m args below meth c A C hd ls hl
  have hx := C.1; have hb := C.2.1; have hml := C.2.2.1; have hts := C.2.2.2.2.1
  have hl : lv_has ls 2 [(0, .ref (a 0)), (1, .int p0)] := hl
  rw [wpX1_isAddress] at hw
  refine lv_iload_n hx hb dX1_isAddress_0 rfl (lv_at hl 1 rfl) ?_
  refine n_i C hd hl M_X3_isSector gX1_isAddress_X3_isSector_n73 (List.mem_of_getElem? (i := 0) rfl) (List.mem_of_getElem? (i := 2) rfl) (List.mem_of_getElem? (i := 3) rfl) (c_X3_isSector l B k p0 _ hw) ⟨rfl, rfl⟩ ⟨Nat.le_of_ble_eq_true rfl, Nat.le_of_ble_eq_true rfl⟩ (pm_non _) (fun _ => wX1 k a σ) (fun _ => List.Perm.refl _) rfl rfl (Nat.le_of_ble_eq_true rfl) dX1_isAddress_1 ⟨Nat.le_of_ble_eq_true rfl, Nat.le_of_ble_eq_true rfl⟩ (fun r _ H locs hp hd => ?_)
  obtain ⟨b1, rfl, hw⟩ := hp
  refine lv_if_eq (tgt := 30) hx hb dX1_isAddress_4 (by decide) (fun c4 => ?_) (fun c4 => ?_)
  · replace hw := hw.2 ((bi_eq _).mp c4)
    refine lv_iconst (v := 0) hx hb dX1_isAddress_30 (by decide) ?_
    exact r_z false C hd dX1_isAddress_31 () rfl hw
  · replace hw := hw.1 ((bi_ne _).mp c4)
    refine lv_iload_n hx hb dX1_isAddress_7 rfl (lv_at hl 1 rfl) ?_
    refine n_i C hd hl M_X3_placeOf gX1_isAddress_X3_placeOf_n76 (List.mem_of_getElem? (i := 1) rfl) (List.mem_of_getElem? (i := 5) rfl) (List.mem_of_getElem? (i := 3) rfl) (c_X3_placeOf l B k p0 _ hw) ⟨rfl, rfl⟩ ⟨Nat.le_of_ble_eq_true rfl, Nat.le_of_ble_eq_true rfl⟩ (pm_non _) (fun _ => wX1 k a σ) (fun _ => List.Perm.refl _) rfl rfl (Nat.le_of_ble_eq_true rfl) dX1_isAddress_8 ⟨Nat.le_of_ble_eq_true rfl, Nat.le_of_ble_eq_true rfl⟩ (fun r8 _ H locs hw hd => ?_)
    refine lv_bipush (v := 16) hx hb dX1_isAddress_11 (by decide) ?_
    refine lv_aload_n hx hb dX1_isAddress_13 rfl (lv_at hl 0 rfl) ?_
    refine g_get (v := .ref (a 2)) C hd iX1_isAddress_X1 0 1 rfl rfl 2 (by decide) (List.mem_of_getElem? (i := 1) rfl) rfl dX1_isAddress_14 ?_
    refine lv_iload_n hx hb dX1_isAddress_17 rfl (lv_at hl 1 rfl) ?_
    refine n_i C hd hl M_X3_headOf gX1_isAddress_X3_headOf_n80 (List.mem_of_getElem? (i := 2) rfl) (List.mem_of_getElem? (i := 7) rfl) (List.mem_of_getElem? (i := 3) rfl) (c_X3_headOf l B k p0 _ hw) ⟨rfl, rfl⟩ ⟨Nat.le_of_ble_eq_true rfl, Nat.le_of_ble_eq_true rfl⟩ (pm_non _) (fun _ => wX1 k a σ) (fun _ => List.Perm.refl _) rfl rfl (Nat.le_of_ble_eq_true rfl) dX1_isAddress_18 ⟨Nat.le_of_ble_eq_true rfl, Nat.le_of_ble_eq_true rfl⟩ (fun r18 _ H locs hw hd => ?_)
    obtain ⟨h2, hw⟩ := hw
    refine g_ild (f := hs_spares σ) C hd 2 rfl h2 dX1_isAddress_21 ?_
    refine lv_isub hx hb dX1_isAddress_22 ?_
    refine lv_icmp_ge (tgt := 30) hx hb dX1_isAddress_23 (by decide) (fun c3 => ?_) (fun c3 => ?_)
    · replace hw := hw.1 c3
      refine lv_iconst (v := 0) hx hb dX1_isAddress_30 (by decide) ?_
      exact r_z false C hd dX1_isAddress_31 () rfl hw
    · replace hw := hw.2 c3
      refine lv_iconst (v := 1) hx hb dX1_isAddress_26 (by decide) ?_
      refine lv_goto (tgt := 31) hx hb dX1_isAddress_27 (by decide) ?_
      exact r_z true C hd dX1_isAddress_31 () rfl hw
abbrev rm_X1_divide : Room := { frames := 2, cells := 0, slots := 0, locals := 41 }
theorem M_X1_divide : MI yX1_divide wsX1_divide cX1_divide 6 none 2 := ⟨⟨_, rfl⟩, by decide +kernel, by decide +kernel, by decide +kernel, by decide +kernel⟩
theorem iX1_divide_X1 : ∀ w ∈ wsX10, w ∈ wsX1_divide := fun _ h => List.mem_cons_of_mem _ (List.mem_append_right _ h)
def wpX1_divide_J39 (p0 : Int32) (v9l3 : Int32) (σ9 : HS) (post : HS → Prop) (κ9 : Int32 → HS → Prop) (v39s0 : Int32) : Prop := (vp_in ((p0 * 16) + v9l3) 64 ∧ κ9 (v9l3 + 1) (hs_setClient (hs_setServer σ9 (upd (hs_server σ9) ((p0 * 16) + v9l3).toNatClampNeg v39s0)) (upd (hs_client σ9) ((p0 * 16) + v9l3).toNatClampNeg v39s0)))
def wpX1_divide_L9 (p0 : Int32) (post : HS → Prop) : Nat → Int32 → HS → Prop
  | 0, _, _ => False
  | n9 + 1, v9l3, σ9 => ((16 ≤ v9l3 → post σ9) ∧ (¬ 16 ≤ v9l3 → wpX1_isAddress σ9 ((p0 * 16) + v9l3) (fun b26 => ((b26 = true → wpX1_divide_J39 p0 v9l3 σ9 post (wpX1_divide_L9 p0 post n9) ((p0 * 16) + v9l3)) ∧ (b26 = false → wpX1_divide_J39 p0 v9l3 σ9 post (wpX1_divide_L9 p0 post n9) (-5))))))
def wpX1_divide (σ : HS) (p0 : Int32) (p1 : Int32) (post : HS → Prop) : Prop := (vp_in p0 4 ∧ ∃ n9 : Nat, wpX1_divide_L9 p0 post n9 0 (hs_setSpares σ (upd (hs_spares σ) p0.toNatClampNeg p1)))
set_option maxHeartbeats 4000000 in
set_option maxRecDepth 100000 in
theorem c_X1_divide (l : Launch) (B : va_G) (k : KT) (a : Nat → Nat) (σ : HS) (p0 : Int32) (p1 : Int32) (post : HS → Prop) (hw : wpX1_divide σ p0 p1 post) : Ctv l yX1_divide wsX1_divide rm_X1_divide 0 0 B k [.ref (a 0), .int p0, .int p1] (wX1 k a σ) (fun u => wX1 k a u) post := by
  refine Ctv.of M_X1_divide (Nat.le_of_ble_eq_true rfl) ?_
  intro p e s m args below meth c A C hd ls hl
  have hx := C.1; have hb := C.2.1; have hml := C.2.2.1; have hts := C.2.2.2.2.1
  have hl : lv_has ls 6 [(0, .ref (a 0)), (1, .int p0), (2, .int p1)] := hl
  have L9 : ∀ (n9 : Nat), ∀ (v9l3 : Int32) (σ9 : HS) (H : Heap) (locs : List Loc) (ls : Array Slot), Wd B A s.heap (wX1 k a σ9) H locs → lv_has ls 6 [(0, .ref (a 0)), (1, .int p0), (3, .int v9l3)] → wpX1_divide_L9 p0 post n9 v9l3 σ9 → W p l e rm_X1_divide s m args below meth c H locs 0 0 (Qv below args s B A (fun u => wX1 k a u) post 0 0) (F0 m 9 ls []) := by
    intro n9
    induction n9 with
    | zero => intro v9l3 σ9 H locs ls hd hl hw; exact absurd hw (by simp [wpX1_divide_L9])
    | succ n9 ih9 =>
      intro v9l3 σ9 H locs ls hd hl hw
      rw [wpX1_divide_L9] at hw
      have J39 : ∀ (v9l3 : Int32) (σ9 : HS) (v39s0 : Int32) (H : Heap) (locs : List Loc) (ls : Array Slot), Wd B A s.heap (wX1 k a σ9) H locs → lv_has ls 6 [(0, .ref (a 0)), (1, .int p0), (3, .int v9l3), (4, .int ((p0 * 16) + v9l3))] → wpX1_divide_J39 p0 v9l3 σ9 post (wpX1_divide_L9 p0 post n9) v39s0 → W p l e rm_X1_divide s m args below meth c H locs 0 0 (Qv below args s B A (fun u => wX1 k a u) post 0 0) (F0 m 39 ls [.int v39s0]) := by
        intro v9l3 σ9 v39s0 H locs ls hd hl hw
        rw [wpX1_divide_J39] at hw
        refine lv_istore (lv' := [(5, .int v39s0), (0, .ref (a 0)), (1, .int p0), (3, .int v9l3), (4, .int ((p0 * 16) + v9l3))]) hx hb dX1_divide_39 hl (by decide) rfl (fun ls hl => ?_)
        refine lv_aload_n hx hb dX1_divide_41 rfl (lv_at hl 1 rfl) ?_
        refine g_get (v := .ref (a 7)) C hd iX1_divide_X1 0 1 rfl rfl 7 (by decide) (List.mem_of_getElem? (i := 2) rfl) rfl dX1_divide_42 ?_
        refine lv_iload hx hb dX1_divide_45 (lv_at hl 4 rfl) ?_
        refine lv_iload hx hb dX1_divide_47 (lv_at hl 0 rfl) ?_
        obtain ⟨h6, hw⟩ := hw
        refine g_ist (f := hs_server σ9) C hd 7 rfl h6 (wX1 k a (hs_setServer σ9 (upd (hs_server σ9) ((p0 * 16) + v9l3).toNatClampNeg v39s0))) (wX1_stServer k a _ _) dX1_divide_49 (fun H locs hd => ?_)
        refine lv_aload_n hx hb dX1_divide_50 rfl (lv_at hl 1 rfl) ?_
        refine g_get (v := .ref (a 8)) C hd iX1_divide_X1 0 1 rfl rfl 8 (by decide) (List.mem_of_getElem? (i := 3) rfl) rfl dX1_divide_51 ?_
        refine lv_iload hx hb dX1_divide_54 (lv_at hl 4 rfl) ?_
        refine lv_iload hx hb dX1_divide_56 (lv_at hl 0 rfl) ?_
        refine g_ist (f := hs_client σ9) C hd 8 rfl h6 (wX1 k a (hs_setClient (hs_setServer σ9 (upd (hs_server σ9) ((p0 * 16) + v9l3).toNatClampNeg v39s0)) (upd (hs_client σ9) ((p0 * 16) + v9l3).toNatClampNeg v39s0))) (wX1_stClient k a _ _) dX1_divide_58 (fun H locs hd => ?_)
        refine lv_iinc (v := v9l3 + 1) (lv' := [(3, .int (v9l3 + 1)), (5, .int v39s0), (0, .ref (a 0)), (1, .int p0), (4, .int ((p0 * 16) + v9l3))]) hx hb dX1_divide_59 hl (k := 3) rfl rfl (by decide) rfl (fun ls hl => ?_)
        refine lv_goto (tgt := 9) hx hb dX1_divide_62 (by decide) ?_
        exact ih9 (v9l3 + 1) (hs_setClient (hs_setServer σ9 (upd (hs_server σ9) ((p0 * 16) + v9l3).toNatClampNeg v39s0)) (upd (hs_client σ9) ((p0 * 16) + v9l3).toNatClampNeg v39s0)) _ _ _ hd (lv_sub hl [2, 3, 0] rfl) hw
      refine lv_iload_n hx hb dX1_divide_9 rfl (lv_at hl 2 rfl) ?_
      refine lv_bipush (v := 16) hx hb dX1_divide_10 (by decide) ?_
      refine lv_icmp_ge (tgt := 65) hx hb dX1_divide_12 (by decide) (fun c9 => ?_) (fun c9 => ?_)
      · replace hw := hw.1 c9
        exact r_v C hd dX1_divide_65 σ9 rfl hw
      · replace hw := hw.2 c9
        refine lv_iload_n hx hb dX1_divide_15 rfl (lv_at hl 1 rfl) ?_
        refine lv_bipush (v := 16) hx hb dX1_divide_16 (by decide) ?_
        refine lv_imul hx hb dX1_divide_18 ?_
        refine lv_iload_n hx hb dX1_divide_19 rfl (lv_at hl 2 rfl) ?_
        refine lv_iadd hx hb dX1_divide_20 ?_
        refine lv_istore (lv' := [(4, .int ((p0 * 16) + v9l3)), (0, .ref (a 0)), (1, .int p0), (3, .int v9l3)]) hx hb dX1_divide_21 hl (by decide) rfl (fun ls hl => ?_)
        refine lv_aload_n hx hb dX1_divide_23 rfl (lv_at hl 1 rfl) ?_
        refine lv_iload hx hb dX1_divide_24 (lv_at hl 0 rfl) ?_
        refine v_i C hd hl M_X1_isAddress gX1_divide_X1_isAddress (c_X1_isAddress l B k a σ9 ((p0 * 16) + v9l3) _ hw) ⟨rfl, rfl⟩ ⟨Nat.le_of_ble_eq_true rfl, Nat.le_of_ble_eq_true rfl⟩ (pm_all _) (fun _ => wX1 k a σ9) (fun _ => (pm_all _).symm) 0 1 rfl rfl rfl rfl rfl (Nat.le_of_ble_eq_true rfl) dX1_divide_26 ⟨Nat.le_of_ble_eq_true rfl, Nat.le_of_ble_eq_true rfl⟩ (fun r _ H locs hp hd => ?_)
        obtain ⟨b26, rfl, hw⟩ := hp
        refine lv_if_eq (tgt := 37) hx hb dX1_divide_29 (by decide) (fun c10 => ?_) (fun c10 => ?_)
        · replace hw := hw.2 ((bi_eq _).mp c10)
          refine lv_bipush (v := (-5)) hx hb dX1_divide_37 (by decide) ?_
          exact J39 v9l3 σ9 (-5) _ _ _ hd (lv_sub hl [1, 2, 3, 0] rfl) hw
        · replace hw := hw.1 ((bi_ne _).mp c10)
          refine lv_iload hx hb dX1_divide_32 (lv_at hl 0 rfl) ?_
          refine lv_goto (tgt := 39) hx hb dX1_divide_34 (by decide) ?_
          exact J39 v9l3 σ9 ((p0 * 16) + v9l3) _ _ _ hd (lv_sub hl [1, 2, 3, 0] rfl) hw
  rw [wpX1_divide] at hw
  refine lv_aload_n hx hb dX1_divide_0 rfl (lv_at hl 0 rfl) ?_
  refine g_get (v := .ref (a 2)) C hd iX1_divide_X1 0 1 rfl rfl 2 (by decide) (List.mem_of_getElem? (i := 1) rfl) rfl dX1_divide_1 ?_
  refine lv_iload_n hx hb dX1_divide_4 rfl (lv_at hl 1 rfl) ?_
  refine lv_iload_n hx hb dX1_divide_5 rfl (lv_at hl 2 rfl) ?_
  obtain ⟨h7, hw⟩ := hw
  refine g_ist (f := hs_spares σ) C hd 2 rfl h7 (wX1 k a (hs_setSpares σ (upd (hs_spares σ) p0.toNatClampNeg p1))) (wX1_stSpares k a _ _) dX1_divide_6 (fun H locs hd => ?_)
  refine lv_iconst (v := 0) hx hb dX1_divide_7 (by decide) ?_
  refine lv_istore_n (lv' := [(3, .int 0), (0, .ref (a 0)), (1, .int p0), (2, .int p1)]) hx hb dX1_divide_8 rfl hl (by decide) rfl (fun ls hl => ?_)
  obtain ⟨n, hw⟩ := hw
  exact L9 n 0 (hs_setSpares σ (upd (hs_spares σ) p0.toNatClampNeg p1)) _ _ _ hd (lv_sub hl [1, 2, 0] rfl) hw
abbrev rm_X1_isGivenUp : Room := { frames := 0, cells := 0, slots := 0, locals := 0 }
theorem M_X1_isGivenUp : MI yX1_isGivenUp wsX1_isGivenUp cX1_isGivenUp 2 (some .boolean) 1 := ⟨⟨_, rfl⟩, by decide +kernel, by decide +kernel, by decide +kernel, by decide +kernel⟩
theorem iX1_isGivenUp_X1 : ∀ w ∈ wsX10, w ∈ wsX1_isGivenUp := fun _ h => List.mem_cons_of_mem _ (List.mem_append_right _ h)
def wpX1_isGivenUp (σ : HS) (p0 : Int32) (post : Bool → Prop) : Prop := (vp_in p0 4 ∧ (∃ b6 : Bool, (hs_givenUp σ) p0.toNatClampNeg = bi b6 ∧ post b6))
set_option maxHeartbeats 4000000 in
set_option maxRecDepth 100000 in
theorem c_X1_isGivenUp (l : Launch) (B : va_G) (k : KT) (a : Nat → Nat) (σ : HS) (p0 : Int32) (post : Bool → Prop) (hw : wpX1_isGivenUp σ p0 post) : Cti l yX1_isGivenUp wsX1_isGivenUp rm_X1_isGivenUp 0 0 B k [.ref (a 0), .int p0] (wX1 k a σ) (fun _ : Unit => wX1 k a σ) (bpost fun b _ => post b) := by
  refine Cti.of M_X1_isGivenUp (Nat.le_of_ble_eq_true rfl) ?_
  intro p e s m args below meth c A C hd ls hl
  have hx := C.1; have hb := C.2.1; have hml := C.2.2.1; have hts := C.2.2.2.2.1
  have hl : lv_has ls 2 [(0, .ref (a 0)), (1, .int p0)] := hl
  rw [wpX1_isGivenUp] at hw
  refine lv_aload_n hx hb dX1_isGivenUp_0 rfl (lv_at hl 0 rfl) ?_
  refine g_get (v := .ref (a 3)) C hd iX1_isGivenUp_X1 0 1 rfl rfl 3 (by decide) (List.mem_of_getElem? (i := 1) rfl) rfl dX1_isGivenUp_1 ?_
  refine lv_iload_n hx hb dX1_isGivenUp_4 rfl (lv_at hl 1 rfl) ?_
  obtain ⟨h2, hw⟩ := hw
  refine g_zld (f := hs_givenUp σ) C hd 3 rfl h2 dX1_isGivenUp_5 ?_
  obtain ⟨b6, eb6, hw⟩ := hw
  rw [eb6]
  exact r_z b6 C hd dX1_isGivenUp_6 () rfl hw
abbrev rm_X1_othersAreGivenUp : Room := { frames := 0, cells := 0, slots := 0, locals := 0 }
theorem M_X1_othersAreGivenUp : MI yX1_othersAreGivenUp wsX1_othersAreGivenUp cX1_othersAreGivenUp 3 (some .boolean) 1 := ⟨⟨_, rfl⟩, by decide +kernel, by decide +kernel, by decide +kernel, by decide +kernel⟩
theorem iX1_othersAreGivenUp_X1 : ∀ w ∈ wsX10, w ∈ wsX1_othersAreGivenUp := fun _ h => List.mem_cons_of_mem _ (List.mem_append_right _ h)
def wpX1_othersAreGivenUp_L2 (σ : HS) (p0 : Int32) (post : Bool → Prop) : Nat → Int32 → Prop
  | 0, _ => False
  | n2 + 1, v2l2 => ((4 ≤ v2l2 → post true) ∧ (¬ 4 ≤ v2l2 → ((v2l2 = p0 → wpX1_othersAreGivenUp_L2 σ p0 post n2 (v2l2 + 1)) ∧ (¬ v2l2 = p0 → (vp_in v2l2 4 ∧ ((((hs_givenUp σ) v2l2.toNatClampNeg) = 0 → post false) ∧ (¬ ((hs_givenUp σ) v2l2.toNatClampNeg) = 0 → wpX1_othersAreGivenUp_L2 σ p0 post n2 (v2l2 + 1))))))))
def wpX1_othersAreGivenUp (σ : HS) (p0 : Int32) (post : Bool → Prop) : Prop := ∃ n2 : Nat, wpX1_othersAreGivenUp_L2 σ p0 post n2 0
set_option maxHeartbeats 4000000 in
set_option maxRecDepth 100000 in
theorem c_X1_othersAreGivenUp (l : Launch) (B : va_G) (k : KT) (a : Nat → Nat) (σ : HS) (p0 : Int32) (post : Bool → Prop) (hw : wpX1_othersAreGivenUp σ p0 post) : Cti l yX1_othersAreGivenUp wsX1_othersAreGivenUp rm_X1_othersAreGivenUp 0 0 B k [.ref (a 0), .int p0] (wX1 k a σ) (fun _ : Unit => wX1 k a σ) (bpost fun b _ => post b) := by
  refine Cti.of M_X1_othersAreGivenUp (Nat.le_of_ble_eq_true rfl) ?_
  intro p e s m args below meth c A C hd ls hl
  have hx := C.1; have hb := C.2.1; have hml := C.2.2.1; have hts := C.2.2.2.2.1
  have hl : lv_has ls 3 [(0, .ref (a 0)), (1, .int p0)] := hl
  have L2 : ∀ (n2 : Nat), ∀ (v2l2 : Int32) (H : Heap) (locs : List Loc) (ls : Array Slot), Wd B A s.heap (wX1 k a σ) H locs → lv_has ls 3 [(0, .ref (a 0)), (1, .int p0), (2, .int v2l2)] → wpX1_othersAreGivenUp_L2 σ p0 post n2 v2l2 → W p l e rm_X1_othersAreGivenUp s m args below meth c H locs 0 0 (Qi below args s B A (fun _ : Unit => wX1 k a σ) (bpost fun b _ => post b) 0 0) (F0 m 2 ls []) := by
    intro n2
    induction n2 with
    | zero => intro v2l2 H locs ls hd hl hw; exact absurd hw (by simp [wpX1_othersAreGivenUp_L2])
    | succ n2 ih2 =>
      intro v2l2 H locs ls hd hl hw
      rw [wpX1_othersAreGivenUp_L2] at hw
      refine lv_iload_n hx hb dX1_othersAreGivenUp_2 rfl (lv_at hl 2 rfl) ?_
      refine lv_iconst (v := 4) hx hb dX1_othersAreGivenUp_3 (by decide) ?_
      refine lv_icmp_ge (tgt := 29) hx hb dX1_othersAreGivenUp_4 (by decide) (fun c13 => ?_) (fun c13 => ?_)
      · replace hw := hw.1 c13
        refine lv_iconst (v := 1) hx hb dX1_othersAreGivenUp_29 (by decide) ?_
        exact r_z true C hd dX1_othersAreGivenUp_30 () rfl hw
      · replace hw := hw.2 c13
        refine lv_iload_n hx hb dX1_othersAreGivenUp_7 rfl (lv_at hl 2 rfl) ?_
        refine lv_iload_n hx hb dX1_othersAreGivenUp_8 rfl (lv_at hl 1 rfl) ?_
        refine lv_icmp_eq (tgt := 23) hx hb dX1_othersAreGivenUp_9 (by decide) (fun c14 => ?_) (fun c14 => ?_)
        · replace hw := hw.1 c14
          refine lv_iinc (v := v2l2 + 1) (lv' := [(2, .int (v2l2 + 1)), (0, .ref (a 0)), (1, .int p0)]) hx hb dX1_othersAreGivenUp_23 hl (k := 2) rfl rfl (by decide) rfl (fun ls hl => ?_)
          refine lv_goto (tgt := 2) hx hb dX1_othersAreGivenUp_26 (by decide) ?_
          exact ih2 (v2l2 + 1) _ _ _ hd (lv_sub hl [1, 2, 0] rfl) hw
        · replace hw := hw.2 c14
          refine lv_aload_n hx hb dX1_othersAreGivenUp_12 rfl (lv_at hl 0 rfl) ?_
          refine g_get (v := .ref (a 3)) C hd iX1_othersAreGivenUp_X1 0 1 rfl rfl 3 (by decide) (List.mem_of_getElem? (i := 1) rfl) rfl dX1_othersAreGivenUp_13 ?_
          refine lv_iload_n hx hb dX1_othersAreGivenUp_16 rfl (lv_at hl 2 rfl) ?_
          obtain ⟨h5, hw⟩ := hw
          refine g_zld (f := hs_givenUp σ) C hd 3 rfl h5 dX1_othersAreGivenUp_17 ?_
          refine lv_if_ne (tgt := 23) hx hb dX1_othersAreGivenUp_18 (by decide) (fun c15 => ?_) (fun c15 => ?_)
          · replace hw := hw.2 c15
            refine lv_iinc (v := v2l2 + 1) (lv' := [(2, .int (v2l2 + 1)), (0, .ref (a 0)), (1, .int p0)]) hx hb dX1_othersAreGivenUp_23 hl (k := 2) rfl rfl (by decide) rfl (fun ls hl => ?_)
            refine lv_goto (tgt := 2) hx hb dX1_othersAreGivenUp_26 (by decide) ?_
            exact ih2 (v2l2 + 1) _ _ _ hd (lv_sub hl [1, 2, 0] rfl) hw
          · replace hw := hw.1 c15
            refine lv_iconst (v := 0) hx hb dX1_othersAreGivenUp_21 (by decide) ?_
            exact r_z false C hd dX1_othersAreGivenUp_22 () rfl hw
  rw [wpX1_othersAreGivenUp] at hw
  refine lv_iconst (v := 0) hx hb dX1_othersAreGivenUp_0 (by decide) ?_
  refine lv_istore_n (lv' := [(2, .int 0), (0, .ref (a 0)), (1, .int p0)]) hx hb dX1_othersAreGivenUp_1 rfl hl (by decide) rfl (fun ls hl => ?_)
  obtain ⟨n, hw⟩ := hw
  exact L2 n 0 _ _ _ hd (lv_sub hl [1, 2, 0] rfl) hw
abbrev rm_X1_stepsSoFar : Room := { frames := 0, cells := 0, slots := 0, locals := 0 }
theorem M_X1_stepsSoFar : MI yX1_stepsSoFar wsX1_stepsSoFar cX1_stepsSoFar 1 (some .int) 0 := ⟨⟨_, rfl⟩, by decide +kernel, by decide +kernel, by decide +kernel, by decide +kernel⟩
theorem iX1_stepsSoFar_X1 : ∀ w ∈ wsX10, w ∈ wsX1_stepsSoFar := fun _ h => List.mem_cons_of_mem _ (List.mem_append_right _ h)
def wpX1_stepsSoFar (σ : HS) (post : Int32 → Prop) : Prop := post (hs_steps σ)
set_option maxHeartbeats 4000000 in
set_option maxRecDepth 100000 in
theorem c_X1_stepsSoFar (l : Launch) (B : va_G) (k : KT) (a : Nat → Nat) (σ : HS) (post : Int32 → Prop) (hw : wpX1_stepsSoFar σ post) : Cti l yX1_stepsSoFar wsX1_stepsSoFar rm_X1_stepsSoFar 0 0 B k [.ref (a 0)] (wX1 k a σ) (fun _ : Unit => wX1 k a σ) (fun r _ => post r) := by
  refine Cti.of M_X1_stepsSoFar (Nat.le_of_ble_eq_true rfl) ?_
  intro p e s m args below meth c A C hd ls hl
  have hx := C.1; have hb := C.2.1; have hml := C.2.2.1; have hts := C.2.2.2.2.1
  have hl : lv_has ls 1 [(0, .ref (a 0))] := hl
  rw [wpX1_stepsSoFar] at hw
  refine lv_aload_n hx hb dX1_stepsSoFar_0 rfl (lv_at hl 0 rfl) ?_
  refine g_get (v := .int (hs_steps σ)) C hd iX1_stepsSoFar_X1 0 1 rfl rfl 10 (by decide) (List.mem_of_getElem? (i := 1) rfl) rfl dX1_stepsSoFar_1 ?_
  exact r_i C hd dX1_stepsSoFar_4 () rfl hw
abbrev rm_X1_isLost : Room := { frames := 0, cells := 0, slots := 0, locals := 0 }
theorem M_X1_isLost : MI yX1_isLost wsX1_isLost cX1_isLost 2 (some .boolean) 1 := ⟨⟨_, rfl⟩, by decide +kernel, by decide +kernel, by decide +kernel, by decide +kernel⟩
theorem iX1_isLost_X1 : ∀ w ∈ wsX10, w ∈ wsX1_isLost := fun _ h => List.mem_cons_of_mem _ (List.mem_append_right _ h)
def wpX1_isLost (σ : HS) (p0 : Int32) (post : Bool → Prop) : Prop := (vp_in p0 64 ∧ ((((hs_server σ) p0.toNatClampNeg) = (-5) → post true) ∧ (¬ ((hs_server σ) p0.toNatClampNeg) = (-5) → post false)))
set_option maxHeartbeats 4000000 in
set_option maxRecDepth 100000 in
theorem c_X1_isLost (l : Launch) (B : va_G) (k : KT) (a : Nat → Nat) (σ : HS) (p0 : Int32) (post : Bool → Prop) (hw : wpX1_isLost σ p0 post) : Cti l yX1_isLost wsX1_isLost rm_X1_isLost 0 0 B k [.ref (a 0), .int p0] (wX1 k a σ) (fun _ : Unit => wX1 k a σ) (bpost fun b _ => post b) := by
  refine Cti.of M_X1_isLost (Nat.le_of_ble_eq_true rfl) ?_
  intro p e s m args below meth c A C hd ls hl
  have hx := C.1; have hb := C.2.1; have hml := C.2.2.1; have hts := C.2.2.2.2.1
  have hl : lv_has ls 2 [(0, .ref (a 0)), (1, .int p0)] := hl
  rw [wpX1_isLost] at hw
  refine lv_aload_n hx hb dX1_isLost_0 rfl (lv_at hl 0 rfl) ?_
  refine g_get (v := .ref (a 7)) C hd iX1_isLost_X1 0 1 rfl rfl 7 (by decide) (List.mem_of_getElem? (i := 1) rfl) rfl dX1_isLost_1 ?_
  refine lv_iload_n hx hb dX1_isLost_4 rfl (lv_at hl 1 rfl) ?_
  obtain ⟨h2, hw⟩ := hw
  refine g_ild (f := hs_server σ) C hd 7 rfl h2 dX1_isLost_5 ?_
  refine lv_bipush (v := (-5)) hx hb dX1_isLost_6 (by decide) ?_
  refine lv_icmp_ne (tgt := 15) hx hb dX1_isLost_8 (by decide) (fun c2 => ?_) (fun c2 => ?_)
  · replace hw := hw.2 c2
    refine lv_iconst (v := 0) hx hb dX1_isLost_15 (by decide) ?_
    exact r_z false C hd dX1_isLost_16 () rfl hw
  · replace hw := hw.1 c2
    refine lv_iconst (v := 1) hx hb dX1_isLost_11 (by decide) ?_
    refine lv_goto (tgt := 16) hx hb dX1_isLost_12 (by decide) ?_
    exact r_z true C hd dX1_isLost_16 () rfl hw
abbrev rm_X1_isLongWay : Room := { frames := 1, cells := 0, slots := 0, locals := 21 }
theorem M_X1_isLongWay : MI yX1_isLongWay wsX1_isLongWay cX1_isLongWay 2 (some .boolean) 1 := ⟨⟨_, rfl⟩, by decide +kernel, by decide +kernel, by decide +kernel, by decide +kernel⟩
theorem iX1_isLongWay_X1 : ∀ w ∈ wsX10, w ∈ wsX1_isLongWay := fun _ h => List.mem_cons_of_mem _ (List.mem_append_right _ h)
def wpX1_isLongWay (σ : HS) (p0 : Int32) (post : Bool → Prop) : Prop := wpX1_isLost σ p0 (fun b2 => ((b2 = true → post false) ∧ (b2 = false → (vp_in p0 64 ∧ ((((hs_server σ) p0.toNatClampNeg) = p0 → post false) ∧ (¬ ((hs_server σ) p0.toNatClampNeg) = p0 → post true))))))
set_option maxHeartbeats 4000000 in
set_option maxRecDepth 100000 in
theorem c_X1_isLongWay (l : Launch) (B : va_G) (k : KT) (a : Nat → Nat) (σ : HS) (p0 : Int32) (post : Bool → Prop) (hw : wpX1_isLongWay σ p0 post) : Cti l yX1_isLongWay wsX1_isLongWay rm_X1_isLongWay 0 0 B k [.ref (a 0), .int p0] (wX1 k a σ) (fun _ : Unit => wX1 k a σ) (bpost fun b _ => post b) := by
  refine Cti.of M_X1_isLongWay (Nat.le_of_ble_eq_true rfl) ?_
  intro p e s m args below meth c A C hd ls hl
  have hx := C.1; have hb := C.2.1; have hml := C.2.2.1; have hts := C.2.2.2.2.1
  have hl : lv_has ls 2 [(0, .ref (a 0)), (1, .int p0)] := hl
  rw [wpX1_isLongWay] at hw
  refine lv_aload_n hx hb dX1_isLongWay_0 rfl (lv_at hl 0 rfl) ?_
  refine lv_iload_n hx hb dX1_isLongWay_1 rfl (lv_at hl 1 rfl) ?_
  refine v_i C hd hl M_X1_isLost gX1_isLongWay_X1_isLost (c_X1_isLost l B k a σ p0 _ hw) ⟨rfl, rfl⟩ ⟨Nat.le_of_ble_eq_true rfl, Nat.le_of_ble_eq_true rfl⟩ (pm_all _) (fun _ => wX1 k a σ) (fun _ => (pm_all _).symm) 0 1 rfl rfl rfl rfl rfl (Nat.le_of_ble_eq_true rfl) dX1_isLongWay_2 ⟨Nat.le_of_ble_eq_true rfl, Nat.le_of_ble_eq_true rfl⟩ (fun r _ H locs hp hd => ?_)
  obtain ⟨b2, rfl, hw⟩ := hp
  refine lv_if_ne (tgt := 22) hx hb dX1_isLongWay_5 (by decide) (fun c4 => ?_) (fun c4 => ?_)
  · replace hw := hw.1 ((bi_ne _).mp c4)
    refine lv_iconst (v := 0) hx hb dX1_isLongWay_22 (by decide) ?_
    exact r_z false C hd dX1_isLongWay_23 () rfl hw
  · replace hw := hw.2 ((bi_eq _).mp c4)
    refine lv_aload_n hx hb dX1_isLongWay_8 rfl (lv_at hl 0 rfl) ?_
    refine g_get (v := .ref (a 7)) C hd iX1_isLongWay_X1 0 1 rfl rfl 7 (by decide) (List.mem_of_getElem? (i := 1) rfl) rfl dX1_isLongWay_9 ?_
    refine lv_iload_n hx hb dX1_isLongWay_12 rfl (lv_at hl 1 rfl) ?_
    obtain ⟨h2, hw⟩ := hw
    refine g_ild (f := hs_server σ) C hd 7 rfl h2 dX1_isLongWay_13 ?_
    refine lv_iload_n hx hb dX1_isLongWay_14 rfl (lv_at hl 1 rfl) ?_
    refine lv_icmp_eq (tgt := 22) hx hb dX1_isLongWay_15 (by decide) (fun c3 => ?_) (fun c3 => ?_)
    · replace hw := hw.1 c3
      refine lv_iconst (v := 0) hx hb dX1_isLongWay_22 (by decide) ?_
      exact r_z false C hd dX1_isLongWay_23 () rfl hw
    · replace hw := hw.2 c3
      refine lv_iconst (v := 1) hx hb dX1_isLongWay_18 (by decide) ?_
      refine lv_goto (tgt := 23) hx hb dX1_isLongWay_19 (by decide) ?_
      exact r_z true C hd dX1_isLongWay_23 () rfl hw
abbrev rm_X1_isGood : Room := { frames := 0, cells := 0, slots := 0, locals := 0 }
theorem M_X1_isGood : MI yX1_isGood wsX1_isGood cX1_isGood 2 (some .boolean) 1 := ⟨⟨_, rfl⟩, by decide +kernel, by decide +kernel, by decide +kernel, by decide +kernel⟩
theorem iX1_isGood_X1 : ∀ w ∈ wsX10, w ∈ wsX1_isGood := fun _ h => List.mem_cons_of_mem _ (List.mem_append_right _ h)
def wpX1_isGood (σ : HS) (p0 : Int32) (post : Bool → Prop) : Prop := (vp_in p0 64 ∧ (((hs_limit σ) ≤ ((hs_wear σ) p0.toNatClampNeg) → post false) ∧ (¬ (hs_limit σ) ≤ ((hs_wear σ) p0.toNatClampNeg) → post true)))
set_option maxHeartbeats 4000000 in
set_option maxRecDepth 100000 in
theorem c_X1_isGood (l : Launch) (B : va_G) (k : KT) (a : Nat → Nat) (σ : HS) (p0 : Int32) (post : Bool → Prop) (hw : wpX1_isGood σ p0 post) : Cti l yX1_isGood wsX1_isGood rm_X1_isGood 0 0 B k [.ref (a 0), .int p0] (wX1 k a σ) (fun _ : Unit => wX1 k a σ) (bpost fun b _ => post b) := by
  refine Cti.of M_X1_isGood (Nat.le_of_ble_eq_true rfl) ?_
  intro p e s m args below meth c A C hd ls hl
  have hx := C.1; have hb := C.2.1; have hml := C.2.2.1; have hts := C.2.2.2.2.1
  have hl : lv_has ls 2 [(0, .ref (a 0)), (1, .int p0)] := hl
  rw [wpX1_isGood] at hw
  refine lv_aload_n hx hb dX1_isGood_0 rfl (lv_at hl 0 rfl) ?_
  refine g_get (v := .ref (a 4)) C hd iX1_isGood_X1 0 1 rfl rfl 4 (by decide) (List.mem_of_getElem? (i := 1) rfl) rfl dX1_isGood_1 ?_
  refine lv_iload_n hx hb dX1_isGood_4 rfl (lv_at hl 1 rfl) ?_
  obtain ⟨h2, hw⟩ := hw
  refine g_ild (f := hs_wear σ) C hd 4 rfl h2 dX1_isGood_5 ?_
  refine lv_aload_n hx hb dX1_isGood_6 rfl (lv_at hl 0 rfl) ?_
  refine g_get (v := .int (hs_limit σ)) C hd iX1_isGood_X1 0 1 rfl rfl 0 (by decide) (List.mem_of_getElem? (i := 2) rfl) rfl dX1_isGood_7 ?_
  refine lv_icmp_ge (tgt := 17) hx hb dX1_isGood_10 (by decide) (fun c2 => ?_) (fun c2 => ?_)
  · replace hw := hw.1 c2
    refine lv_iconst (v := 0) hx hb dX1_isGood_17 (by decide) ?_
    exact r_z false C hd dX1_isGood_18 () rfl hw
  · replace hw := hw.2 c2
    refine lv_iconst (v := 1) hx hb dX1_isGood_13 (by decide) ?_
    refine lv_goto (tgt := 18) hx hb dX1_isGood_14 (by decide) ?_
    exact r_z true C hd dX1_isGood_18 () rfl hw
abbrev rm_X1_isBad : Room := { frames := 0, cells := 0, slots := 0, locals := 0 }
theorem M_X1_isBad : MI yX1_isBad wsX1_isBad cX1_isBad 2 (some .boolean) 1 := ⟨⟨_, rfl⟩, by decide +kernel, by decide +kernel, by decide +kernel, by decide +kernel⟩
theorem iX1_isBad_X1 : ∀ w ∈ wsX10, w ∈ wsX1_isBad := fun _ h => List.mem_cons_of_mem _ (List.mem_append_right _ h)
def wpX1_isBad (σ : HS) (p0 : Int32) (post : Bool → Prop) : Prop := (vp_in p0 64 ∧ ((((hs_wear σ) p0.toNatClampNeg) < (2 * (hs_limit σ)) → post false) ∧ (¬ ((hs_wear σ) p0.toNatClampNeg) < (2 * (hs_limit σ)) → post true)))
set_option maxHeartbeats 4000000 in
set_option maxRecDepth 100000 in
theorem c_X1_isBad (l : Launch) (B : va_G) (k : KT) (a : Nat → Nat) (σ : HS) (p0 : Int32) (post : Bool → Prop) (hw : wpX1_isBad σ p0 post) : Cti l yX1_isBad wsX1_isBad rm_X1_isBad 0 0 B k [.ref (a 0), .int p0] (wX1 k a σ) (fun _ : Unit => wX1 k a σ) (bpost fun b _ => post b) := by
  refine Cti.of M_X1_isBad (Nat.le_of_ble_eq_true rfl) ?_
  intro p e s m args below meth c A C hd ls hl
  have hx := C.1; have hb := C.2.1; have hml := C.2.2.1; have hts := C.2.2.2.2.1
  have hl : lv_has ls 2 [(0, .ref (a 0)), (1, .int p0)] := hl
  rw [wpX1_isBad] at hw
  refine lv_aload_n hx hb dX1_isBad_0 rfl (lv_at hl 0 rfl) ?_
  refine g_get (v := .ref (a 4)) C hd iX1_isBad_X1 0 1 rfl rfl 4 (by decide) (List.mem_of_getElem? (i := 1) rfl) rfl dX1_isBad_1 ?_
  refine lv_iload_n hx hb dX1_isBad_4 rfl (lv_at hl 1 rfl) ?_
  obtain ⟨h2, hw⟩ := hw
  refine g_ild (f := hs_wear σ) C hd 4 rfl h2 dX1_isBad_5 ?_
  refine lv_iconst (v := 2) hx hb dX1_isBad_6 (by decide) ?_
  refine lv_aload_n hx hb dX1_isBad_7 rfl (lv_at hl 0 rfl) ?_
  refine g_get (v := .int (hs_limit σ)) C hd iX1_isBad_X1 0 1 rfl rfl 0 (by decide) (List.mem_of_getElem? (i := 2) rfl) rfl dX1_isBad_8 ?_
  refine lv_imul hx hb dX1_isBad_11 ?_
  refine lv_icmp_lt (tgt := 19) hx hb dX1_isBad_12 (by decide) (fun c2 => ?_) (fun c2 => ?_)
  · replace hw := hw.1 c2
    refine lv_iconst (v := 0) hx hb dX1_isBad_19 (by decide) ?_
    exact r_z false C hd dX1_isBad_20 () rfl hw
  · replace hw := hw.2 c2
    refine lv_iconst (v := 1) hx hb dX1_isBad_15 (by decide) ?_
    refine lv_goto (tgt := 20) hx hb dX1_isBad_16 (by decide) ?_
    exact r_z true C hd dX1_isBad_20 () rfl hw
abbrev rm_X1_gradeOf : Room := { frames := 1, cells := 0, slots := 0, locals := 21 }
theorem M_X1_gradeOf : MI yX1_gradeOf wsX1_gradeOf cX1_gradeOf 2 (some .int) 1 := ⟨⟨_, rfl⟩, by decide +kernel, by decide +kernel, by decide +kernel, by decide +kernel⟩
theorem iX1_gradeOf_X1 : ∀ w ∈ wsX10, w ∈ wsX1_gradeOf := fun _ h => List.mem_cons_of_mem _ (List.mem_append_right _ h)
def wpX1_gradeOf (σ : HS) (p0 : Int32) (post : Int32 → Prop) : Prop := wpX1_isGood σ p0 (fun b2 => ((b2 = true → post 0) ∧ (b2 = false → wpX1_isBad σ p0 (fun b12 => ((b12 = true → post 2) ∧ (b12 = false → post 1))))))
set_option maxHeartbeats 4000000 in
set_option maxRecDepth 100000 in
theorem c_X1_gradeOf (l : Launch) (B : va_G) (k : KT) (a : Nat → Nat) (σ : HS) (p0 : Int32) (post : Int32 → Prop) (hw : wpX1_gradeOf σ p0 post) : Cti l yX1_gradeOf wsX1_gradeOf rm_X1_gradeOf 0 0 B k [.ref (a 0), .int p0] (wX1 k a σ) (fun _ : Unit => wX1 k a σ) (fun r _ => post r) := by
  refine Cti.of M_X1_gradeOf (Nat.le_of_ble_eq_true rfl) ?_
  intro p e s m args below meth c A C hd ls hl
  have hx := C.1; have hb := C.2.1; have hml := C.2.2.1; have hts := C.2.2.2.2.1
  have hl : lv_has ls 2 [(0, .ref (a 0)), (1, .int p0)] := hl
  rw [wpX1_gradeOf] at hw
  refine lv_aload_n hx hb dX1_gradeOf_0 rfl (lv_at hl 0 rfl) ?_
  refine lv_iload_n hx hb dX1_gradeOf_1 rfl (lv_at hl 1 rfl) ?_
  refine v_i C hd hl M_X1_isGood gX1_gradeOf_X1_isGood (c_X1_isGood l B k a σ p0 _ hw) ⟨rfl, rfl⟩ ⟨Nat.le_of_ble_eq_true rfl, Nat.le_of_ble_eq_true rfl⟩ (pm_all _) (fun _ => wX1 k a σ) (fun _ => (pm_all _).symm) 0 1 rfl rfl rfl rfl rfl (Nat.le_of_ble_eq_true rfl) dX1_gradeOf_2 ⟨Nat.le_of_ble_eq_true rfl, Nat.le_of_ble_eq_true rfl⟩ (fun r _ H locs hp hd => ?_)
  obtain ⟨b2, rfl, hw⟩ := hp
  refine lv_if_eq (tgt := 10) hx hb dX1_gradeOf_5 (by decide) (fun c4 => ?_) (fun c4 => ?_)
  · replace hw := hw.2 ((bi_eq _).mp c4)
    refine lv_aload_n hx hb dX1_gradeOf_10 rfl (lv_at hl 0 rfl) ?_
    refine lv_iload_n hx hb dX1_gradeOf_11 rfl (lv_at hl 1 rfl) ?_
    refine v_i C hd hl M_X1_isBad gX1_gradeOf_X1_isBad (c_X1_isBad l B k a σ p0 _ hw) ⟨rfl, rfl⟩ ⟨Nat.le_of_ble_eq_true rfl, Nat.le_of_ble_eq_true rfl⟩ (pm_all _) (fun _ => wX1 k a σ) (fun _ => (pm_all _).symm) 0 1 rfl rfl rfl rfl rfl (Nat.le_of_ble_eq_true rfl) dX1_gradeOf_12 ⟨Nat.le_of_ble_eq_true rfl, Nat.le_of_ble_eq_true rfl⟩ (fun r _ H locs hp hd => ?_)
    obtain ⟨b12, rfl, hw⟩ := hp
    refine lv_if_eq (tgt := 22) hx hb dX1_gradeOf_15 (by decide) (fun c3 => ?_) (fun c3 => ?_)
    · replace hw := hw.2 ((bi_eq _).mp c3)
      refine lv_iconst (v := 1) hx hb dX1_gradeOf_22 (by decide) ?_
      exact r_i C hd dX1_gradeOf_23 () rfl hw
    · replace hw := hw.1 ((bi_ne _).mp c3)
      refine lv_iconst (v := 2) hx hb dX1_gradeOf_18 (by decide) ?_
      refine lv_goto (tgt := 23) hx hb dX1_gradeOf_19 (by decide) ?_
      exact r_i C hd dX1_gradeOf_23 () rfl hw
  · replace hw := hw.1 ((bi_ne _).mp c4)
    refine lv_iconst (v := 0) hx hb dX1_gradeOf_8 (by decide) ?_
    exact r_i C hd dX1_gradeOf_9 () rfl hw
abbrev rm_X1_isFree : Room := { frames := 1, cells := 0, slots := 0, locals := 21 }
theorem M_X1_isFree : MI yX1_isFree wsX1_isFree cX1_isFree 4 (some .boolean) 1 := ⟨⟨_, rfl⟩, by decide +kernel, by decide +kernel, by decide +kernel, by decide +kernel⟩
theorem iX1_isFree_X1 : ∀ w ∈ wsX10, w ∈ wsX1_isFree := fun _ h => List.mem_cons_of_mem _ (List.mem_append_right _ h)
def wpX1_isFree_J26 (σ : HS) (p0 : Int32) (r1 : Int32) (post : Bool → Prop) (v26s0 : Bool) : Prop := ((v26s0 = true → (vp_in p0 64 ∧ ((((hs_client σ) p0.toNatClampNeg) = (-5) → wpX1_isGood σ p0 (fun b44 => ((b44 = true → (vp_in r1 4 ∧ ((((hs_givenUp σ) r1.toNatClampNeg) = 0 → post true) ∧ (¬ ((hs_givenUp σ) r1.toNatClampNeg) = 0 → post false)))) ∧ (b44 = false → post false)))) ∧ (¬ ((hs_client σ) p0.toNatClampNeg) = (-5) → post false)))) ∧ (v26s0 = false → post false))
def wpX1_isFree (σ : HS) (p0 : Int32) (post : Bool → Prop) : Prop := wpX3_headOf p0 (fun r1 => wpX3_placeOf p0 (fun r6 => (vp_in r1 4 ∧ ((r6 < (16 - ((hs_spares σ) r1.toNatClampNeg)) → wpX1_isFree_J26 σ p0 r1 post false) ∧ (¬ r6 < (16 - ((hs_spares σ) r1.toNatClampNeg)) → wpX1_isFree_J26 σ p0 r1 post true)))))
set_option maxHeartbeats 4000000 in
set_option maxRecDepth 100000 in
theorem c_X1_isFree (l : Launch) (B : va_G) (k : KT) (a : Nat → Nat) (σ : HS) (p0 : Int32) (post : Bool → Prop) (hw : wpX1_isFree σ p0 post) : Cti l yX1_isFree wsX1_isFree rm_X1_isFree 0 0 B k [.ref (a 0), .int p0] (wX1 k a σ) (fun _ : Unit => wX1 k a σ) (bpost fun b _ => post b) := by
  refine Cti.of M_X1_isFree (Nat.le_of_ble_eq_true rfl) ?_
  intro p e s m args below meth c A C hd ls hl
  have hx := C.1; have hb := C.2.1; have hml := C.2.2.1; have hts := C.2.2.2.2.1
  have hl : lv_has ls 4 [(0, .ref (a 0)), (1, .int p0)] := hl
  have J26 : ∀ (r1 : Int32) (v26s0 : Bool) (H : Heap) (locs : List Loc) (ls : Array Slot), Wd B A s.heap (wX1 k a σ) H locs → lv_has ls 4 [(0, .ref (a 0)), (1, .int p0), (2, .int r1)] → wpX1_isFree_J26 σ p0 r1 post v26s0 → W p l e rm_X1_isFree s m args below meth c H locs 0 0 (Qi below args s B A (fun _ : Unit => wX1 k a σ) (bpost fun b _ => post b) 0 0) (F0 m 26 ls [.int (bi v26s0)]) := by
    intro r1 v26s0 H locs ls hd hl hw
    rw [wpX1_isFree_J26] at hw
    refine lv_istore_n (lv' := [(3, .int (bi v26s0)), (0, .ref (a 0)), (1, .int p0), (2, .int r1)]) hx hb dX1_isFree_26 rfl hl (by decide) rfl (fun ls hl => ?_)
    refine lv_iload_n hx hb dX1_isFree_27 rfl (lv_at hl 0 rfl) ?_
    refine lv_if_eq (tgt := 63) hx hb dX1_isFree_28 (by decide) (fun c21 => ?_) (fun c21 => ?_)
    · replace hw := hw.2 ((bi_eq _).mp c21)
      refine lv_iconst (v := 0) hx hb dX1_isFree_63 (by decide) ?_
      exact r_z false C hd dX1_isFree_64 () rfl hw
    · replace hw := hw.1 ((bi_ne _).mp c21)
      refine lv_aload_n hx hb dX1_isFree_31 rfl (lv_at hl 1 rfl) ?_
      refine g_get (v := .ref (a 8)) C hd iX1_isFree_X1 0 1 rfl rfl 8 (by decide) (List.mem_of_getElem? (i := 2) rfl) rfl dX1_isFree_32 ?_
      refine lv_iload_n hx hb dX1_isFree_35 rfl (lv_at hl 2 rfl) ?_
      obtain ⟨h10, hw⟩ := hw
      refine g_ild (f := hs_client σ) C hd 8 rfl h10 dX1_isFree_36 ?_
      refine lv_bipush (v := (-5)) hx hb dX1_isFree_37 (by decide) ?_
      refine lv_icmp_ne (tgt := 63) hx hb dX1_isFree_39 (by decide) (fun c18 => ?_) (fun c18 => ?_)
      · replace hw := hw.2 c18
        refine lv_iconst (v := 0) hx hb dX1_isFree_63 (by decide) ?_
        exact r_z false C hd dX1_isFree_64 () rfl hw
      · replace hw := hw.1 c18
        refine lv_aload_n hx hb dX1_isFree_42 rfl (lv_at hl 1 rfl) ?_
        refine lv_iload_n hx hb dX1_isFree_43 rfl (lv_at hl 2 rfl) ?_
        refine v_i C hd hl M_X1_isGood gX1_isFree_X1_isGood (c_X1_isGood l B k a σ p0 _ hw) ⟨rfl, rfl⟩ ⟨Nat.le_of_ble_eq_true rfl, Nat.le_of_ble_eq_true rfl⟩ (pm_all _) (fun _ => wX1 k a σ) (fun _ => (pm_all _).symm) 0 1 rfl rfl rfl rfl rfl (Nat.le_of_ble_eq_true rfl) dX1_isFree_44 ⟨Nat.le_of_ble_eq_true rfl, Nat.le_of_ble_eq_true rfl⟩ (fun r _ H locs hp hd => ?_)
        obtain ⟨b44, rfl, hw⟩ := hp
        refine lv_if_eq (tgt := 63) hx hb dX1_isFree_47 (by decide) (fun c20 => ?_) (fun c20 => ?_)
        · replace hw := hw.2 ((bi_eq _).mp c20)
          refine lv_iconst (v := 0) hx hb dX1_isFree_63 (by decide) ?_
          exact r_z false C hd dX1_isFree_64 () rfl hw
        · replace hw := hw.1 ((bi_ne _).mp c20)
          refine lv_aload_n hx hb dX1_isFree_50 rfl (lv_at hl 1 rfl) ?_
          refine g_get (v := .ref (a 3)) C hd iX1_isFree_X1 0 1 rfl rfl 3 (by decide) (List.mem_of_getElem? (i := 3) rfl) rfl dX1_isFree_51 ?_
          refine lv_iload_n hx hb dX1_isFree_54 rfl (lv_at hl 3 rfl) ?_
          obtain ⟨h11, hw⟩ := hw
          refine g_zld (f := hs_givenUp σ) C hd 3 rfl h11 dX1_isFree_55 ?_
          refine lv_if_ne (tgt := 63) hx hb dX1_isFree_56 (by decide) (fun c19 => ?_) (fun c19 => ?_)
          · replace hw := hw.2 c19
            refine lv_iconst (v := 0) hx hb dX1_isFree_63 (by decide) ?_
            exact r_z false C hd dX1_isFree_64 () rfl hw
          · replace hw := hw.1 c19
            refine lv_iconst (v := 1) hx hb dX1_isFree_59 (by decide) ?_
            refine lv_goto (tgt := 64) hx hb dX1_isFree_60 (by decide) ?_
            exact r_z true C hd dX1_isFree_64 () rfl hw
  rw [wpX1_isFree] at hw
  refine lv_iload_n hx hb dX1_isFree_0 rfl (lv_at hl 1 rfl) ?_
  refine n_i C hd hl M_X3_headOf gX1_isFree_X3_headOf_n80 (List.mem_of_getElem? (i := 2) rfl) (List.mem_of_getElem? (i := 4) rfl) (List.mem_of_getElem? (i := 5) rfl) (c_X3_headOf l B k p0 _ hw) ⟨rfl, rfl⟩ ⟨Nat.le_of_ble_eq_true rfl, Nat.le_of_ble_eq_true rfl⟩ (pm_non _) (fun _ => wX1 k a σ) (fun _ => List.Perm.refl _) rfl rfl (Nat.le_of_ble_eq_true rfl) dX1_isFree_1 ⟨Nat.le_of_ble_eq_true rfl, Nat.le_of_ble_eq_true rfl⟩ (fun r1 _ H locs hw hd => ?_)
  refine lv_istore_n (lv' := [(2, .int r1), (0, .ref (a 0)), (1, .int p0)]) hx hb dX1_isFree_4 rfl hl (by decide) rfl (fun ls hl => ?_)
  refine lv_iload_n hx hb dX1_isFree_5 rfl (lv_at hl 2 rfl) ?_
  refine n_i C hd hl M_X3_placeOf gX1_isFree_X3_placeOf_n76 (List.mem_of_getElem? (i := 1) rfl) (List.mem_of_getElem? (i := 7) rfl) (List.mem_of_getElem? (i := 5) rfl) (c_X3_placeOf l B k p0 _ hw) ⟨rfl, rfl⟩ ⟨Nat.le_of_ble_eq_true rfl, Nat.le_of_ble_eq_true rfl⟩ (pm_non _) (fun _ => wX1 k a σ) (fun _ => List.Perm.refl _) rfl rfl (Nat.le_of_ble_eq_true rfl) dX1_isFree_6 ⟨Nat.le_of_ble_eq_true rfl, Nat.le_of_ble_eq_true rfl⟩ (fun r6 _ H locs hw hd => ?_)
  refine lv_bipush (v := 16) hx hb dX1_isFree_9 (by decide) ?_
  refine lv_aload_n hx hb dX1_isFree_11 rfl (lv_at hl 1 rfl) ?_
  refine g_get (v := .ref (a 2)) C hd iX1_isFree_X1 0 1 rfl rfl 2 (by decide) (List.mem_of_getElem? (i := 1) rfl) rfl dX1_isFree_12 ?_
  refine lv_iload_n hx hb dX1_isFree_15 rfl (lv_at hl 0 rfl) ?_
  obtain ⟨h12, hw⟩ := hw
  refine g_ild (f := hs_spares σ) C hd 2 rfl h12 dX1_isFree_16 ?_
  refine lv_isub hx hb dX1_isFree_17 ?_
  refine lv_icmp_lt (tgt := 25) hx hb dX1_isFree_18 (by decide) (fun c22 => ?_) (fun c22 => ?_)
  · replace hw := hw.1 c22
    refine lv_iconst (v := 0) hx hb dX1_isFree_25 (by decide) ?_
    exact J26 r1 false _ _ _ hd (lv_sub hl [1, 2, 0] rfl) hw
  · replace hw := hw.2 c22
    refine lv_iconst (v := 1) hx hb dX1_isFree_21 (by decide) ?_
    refine lv_goto (tgt := 26) hx hb dX1_isFree_22 (by decide) ?_
    exact J26 r1 true _ _ _ hd (lv_sub hl [1, 2, 0] rfl) hw
abbrev rm_X1_freeOf : Room := { frames := 2, cells := 0, slots := 0, locals := 44 }
theorem M_X1_freeOf : MI yX1_freeOf wsX1_freeOf cX1_freeOf 4 (some .int) 1 := ⟨⟨_, rfl⟩, by decide +kernel, by decide +kernel, by decide +kernel, by decide +kernel⟩
theorem iX1_freeOf_X1 : ∀ w ∈ wsX10, w ∈ wsX1_freeOf := fun _ h => List.mem_cons_of_mem _ (List.mem_append_right _ h)
def wpX1_freeOf_L4 (σ : HS) (p0 : Int32) (post : Int32 → Prop) : Nat → Int32 → Int32 → Prop
  | 0, _, _ => False
  | n4 + 1, v4l2, v4l3 => ((16 ≤ v4l3 → post v4l2) ∧ (¬ 16 ≤ v4l3 → wpX1_isFree σ ((p0 * 16) + v4l3) (fun b17 => ((b17 = true → wpX1_freeOf_L4 σ p0 post n4 (v4l2 + 1) (v4l3 + 1)) ∧ (b17 = false → wpX1_freeOf_L4 σ p0 post n4 v4l2 (v4l3 + 1))))))
def wpX1_freeOf (σ : HS) (p0 : Int32) (post : Int32 → Prop) : Prop := ∃ n4 : Nat, wpX1_freeOf_L4 σ p0 post n4 0 0
set_option maxHeartbeats 4000000 in
set_option maxRecDepth 100000 in
theorem c_X1_freeOf (l : Launch) (B : va_G) (k : KT) (a : Nat → Nat) (σ : HS) (p0 : Int32) (post : Int32 → Prop) (hw : wpX1_freeOf σ p0 post) : Cti l yX1_freeOf wsX1_freeOf rm_X1_freeOf 0 0 B k [.ref (a 0), .int p0] (wX1 k a σ) (fun _ : Unit => wX1 k a σ) (fun r _ => post r) := by
  refine Cti.of M_X1_freeOf (Nat.le_of_ble_eq_true rfl) ?_
  intro p e s m args below meth c A C hd ls hl
  have hx := C.1; have hb := C.2.1; have hml := C.2.2.1; have hts := C.2.2.2.2.1
  have hl : lv_has ls 4 [(0, .ref (a 0)), (1, .int p0)] := hl
  have L4 : ∀ (n4 : Nat), ∀ (v4l2 : Int32) (v4l3 : Int32) (H : Heap) (locs : List Loc) (ls : Array Slot), Wd B A s.heap (wX1 k a σ) H locs → lv_has ls 4 [(0, .ref (a 0)), (1, .int p0), (2, .int v4l2), (3, .int v4l3)] → wpX1_freeOf_L4 σ p0 post n4 v4l2 v4l3 → W p l e rm_X1_freeOf s m args below meth c H locs 0 0 (Qi below args s B A (fun _ : Unit => wX1 k a σ) (fun r _ => post r) 0 0) (F0 m 4 ls []) := by
    intro n4
    induction n4 with
    | zero => intro v4l2 v4l3 H locs ls hd hl hw; exact absurd hw (by simp [wpX1_freeOf_L4])
    | succ n4 ih4 =>
      intro v4l2 v4l3 H locs ls hd hl hw
      rw [wpX1_freeOf_L4] at hw
      refine lv_iload_n hx hb dX1_freeOf_4 rfl (lv_at hl 3 rfl) ?_
      refine lv_bipush (v := 16) hx hb dX1_freeOf_5 (by decide) ?_
      refine lv_icmp_ge (tgt := 32) hx hb dX1_freeOf_7 (by decide) (fun c9 => ?_) (fun c9 => ?_)
      · replace hw := hw.1 c9
        refine lv_iload_n hx hb dX1_freeOf_32 rfl (lv_at hl 2 rfl) ?_
        exact r_i C hd dX1_freeOf_33 () rfl hw
      · replace hw := hw.2 c9
        refine lv_aload_n hx hb dX1_freeOf_10 rfl (lv_at hl 0 rfl) ?_
        refine lv_iload_n hx hb dX1_freeOf_11 rfl (lv_at hl 1 rfl) ?_
        refine lv_bipush (v := 16) hx hb dX1_freeOf_12 (by decide) ?_
        refine lv_imul hx hb dX1_freeOf_14 ?_
        refine lv_iload_n hx hb dX1_freeOf_15 rfl (lv_at hl 3 rfl) ?_
        refine lv_iadd hx hb dX1_freeOf_16 ?_
        refine v_i C hd hl M_X1_isFree gX1_freeOf_X1_isFree (c_X1_isFree l B k a σ ((p0 * 16) + v4l3) _ hw) ⟨rfl, rfl⟩ ⟨Nat.le_of_ble_eq_true rfl, Nat.le_of_ble_eq_true rfl⟩ (pm_all _) (fun _ => wX1 k a σ) (fun _ => (pm_all _).symm) 0 1 rfl rfl rfl rfl rfl (Nat.le_of_ble_eq_true rfl) dX1_freeOf_17 ⟨Nat.le_of_ble_eq_true rfl, Nat.le_of_ble_eq_true rfl⟩ (fun r _ H locs hp hd => ?_)
        obtain ⟨b17, rfl, hw⟩ := hp
        refine lv_if_eq (tgt := 26) hx hb dX1_freeOf_20 (by decide) (fun c10 => ?_) (fun c10 => ?_)
        · replace hw := hw.2 ((bi_eq _).mp c10)
          refine lv_iinc (v := v4l3 + 1) (lv' := [(3, .int (v4l3 + 1)), (0, .ref (a 0)), (1, .int p0), (2, .int v4l2)]) hx hb dX1_freeOf_26 hl (k := 3) rfl rfl (by decide) rfl (fun ls hl => ?_)
          refine lv_goto (tgt := 4) hx hb dX1_freeOf_29 (by decide) ?_
          exact ih4 v4l2 (v4l3 + 1) _ _ _ hd (lv_sub hl [1, 2, 3, 0] rfl) hw
        · replace hw := hw.1 ((bi_ne _).mp c10)
          refine lv_iinc (v := v4l2 + 1) (lv' := [(2, .int (v4l2 + 1)), (0, .ref (a 0)), (1, .int p0), (3, .int v4l3)]) hx hb dX1_freeOf_23 hl (k := 2) rfl rfl (by decide) rfl (fun ls hl => ?_)
          refine lv_iinc (v := v4l3 + 1) (lv' := [(3, .int (v4l3 + 1)), (2, .int (v4l2 + 1)), (0, .ref (a 0)), (1, .int p0)]) hx hb dX1_freeOf_26 hl (k := 3) rfl rfl (by decide) rfl (fun ls hl => ?_)
          refine lv_goto (tgt := 4) hx hb dX1_freeOf_29 (by decide) ?_
          exact ih4 (v4l2 + 1) (v4l3 + 1) _ _ _ hd (lv_sub hl [2, 3, 1, 0] rfl) hw
  rw [wpX1_freeOf] at hw
  refine lv_iconst (v := 0) hx hb dX1_freeOf_0 (by decide) ?_
  refine lv_istore_n (lv' := [(2, .int 0), (0, .ref (a 0)), (1, .int p0)]) hx hb dX1_freeOf_1 rfl hl (by decide) rfl (fun ls hl => ?_)
  refine lv_iconst (v := 0) hx hb dX1_freeOf_2 (by decide) ?_
  refine lv_istore_n (lv' := [(3, .int 0), (2, .int 0), (0, .ref (a 0)), (1, .int p0)]) hx hb dX1_freeOf_3 rfl hl (by decide) rfl (fun ls hl => ?_)
  obtain ⟨n, hw⟩ := hw
  exact L4 n 0 0 _ _ _ hd (lv_sub hl [2, 3, 1, 0] rfl) hw
abbrev rm_X1_firstFreeOf : Room := { frames := 2, cells := 0, slots := 0, locals := 44 }
theorem M_X1_firstFreeOf : MI yX1_firstFreeOf wsX1_firstFreeOf cX1_firstFreeOf 3 (some .int) 1 := ⟨⟨_, rfl⟩, by decide +kernel, by decide +kernel, by decide +kernel, by decide +kernel⟩
theorem iX1_firstFreeOf_X1 : ∀ w ∈ wsX10, w ∈ wsX1_firstFreeOf := fun _ h => List.mem_cons_of_mem _ (List.mem_append_right _ h)
def wpX1_firstFreeOf_L2 (σ : HS) (p0 : Int32) (post : Int32 → Prop) : Nat → Int32 → Prop
  | 0, _ => False
  | n2 + 1, v2l2 => ((16 ≤ v2l2 → post (-5)) ∧ (¬ 16 ≤ v2l2 → wpX1_isFree σ ((p0 * 16) + v2l2) (fun b15 => ((b15 = true → post ((p0 * 16) + v2l2)) ∧ (b15 = false → wpX1_firstFreeOf_L2 σ p0 post n2 (v2l2 + 1))))))
def wpX1_firstFreeOf (σ : HS) (p0 : Int32) (post : Int32 → Prop) : Prop := ∃ n2 : Nat, wpX1_firstFreeOf_L2 σ p0 post n2 0
set_option maxHeartbeats 4000000 in
set_option maxRecDepth 100000 in
theorem c_X1_firstFreeOf (l : Launch) (B : va_G) (k : KT) (a : Nat → Nat) (σ : HS) (p0 : Int32) (post : Int32 → Prop) (hw : wpX1_firstFreeOf σ p0 post) : Cti l yX1_firstFreeOf wsX1_firstFreeOf rm_X1_firstFreeOf 0 0 B k [.ref (a 0), .int p0] (wX1 k a σ) (fun _ : Unit => wX1 k a σ) (fun r _ => post r) := by
  refine Cti.of M_X1_firstFreeOf (Nat.le_of_ble_eq_true rfl) ?_
  intro p e s m args below meth c A C hd ls hl
  have hx := C.1; have hb := C.2.1; have hml := C.2.2.1; have hts := C.2.2.2.2.1
  have hl : lv_has ls 3 [(0, .ref (a 0)), (1, .int p0)] := hl
  have L2 : ∀ (n2 : Nat), ∀ (v2l2 : Int32) (H : Heap) (locs : List Loc) (ls : Array Slot), Wd B A s.heap (wX1 k a σ) H locs → lv_has ls 3 [(0, .ref (a 0)), (1, .int p0), (2, .int v2l2)] → wpX1_firstFreeOf_L2 σ p0 post n2 v2l2 → W p l e rm_X1_firstFreeOf s m args below meth c H locs 0 0 (Qi below args s B A (fun _ : Unit => wX1 k a σ) (fun r _ => post r) 0 0) (F0 m 2 ls []) := by
    intro n2
    induction n2 with
    | zero => intro v2l2 H locs ls hd hl hw; exact absurd hw (by simp [wpX1_firstFreeOf_L2])
    | succ n2 ih2 =>
      intro v2l2 H locs ls hd hl hw
      rw [wpX1_firstFreeOf_L2] at hw
      refine lv_iload_n hx hb dX1_firstFreeOf_2 rfl (lv_at hl 2 rfl) ?_
      refine lv_bipush (v := 16) hx hb dX1_firstFreeOf_3 (by decide) ?_
      refine lv_icmp_ge (tgt := 34) hx hb dX1_firstFreeOf_5 (by decide) (fun c9 => ?_) (fun c9 => ?_)
      · replace hw := hw.1 c9
        refine lv_bipush (v := (-5)) hx hb dX1_firstFreeOf_34 (by decide) ?_
        exact r_i C hd dX1_firstFreeOf_36 () rfl hw
      · replace hw := hw.2 c9
        refine lv_aload_n hx hb dX1_firstFreeOf_8 rfl (lv_at hl 0 rfl) ?_
        refine lv_iload_n hx hb dX1_firstFreeOf_9 rfl (lv_at hl 1 rfl) ?_
        refine lv_bipush (v := 16) hx hb dX1_firstFreeOf_10 (by decide) ?_
        refine lv_imul hx hb dX1_firstFreeOf_12 ?_
        refine lv_iload_n hx hb dX1_firstFreeOf_13 rfl (lv_at hl 2 rfl) ?_
        refine lv_iadd hx hb dX1_firstFreeOf_14 ?_
        refine v_i C hd hl M_X1_isFree gX1_firstFreeOf_X1_isFree (c_X1_isFree l B k a σ ((p0 * 16) + v2l2) _ hw) ⟨rfl, rfl⟩ ⟨Nat.le_of_ble_eq_true rfl, Nat.le_of_ble_eq_true rfl⟩ (pm_all _) (fun _ => wX1 k a σ) (fun _ => (pm_all _).symm) 0 1 rfl rfl rfl rfl rfl (Nat.le_of_ble_eq_true rfl) dX1_firstFreeOf_15 ⟨Nat.le_of_ble_eq_true rfl, Nat.le_of_ble_eq_true rfl⟩ (fun r _ H locs hp hd => ?_)
        obtain ⟨b15, rfl, hw⟩ := hp
        refine lv_if_eq (tgt := 28) hx hb dX1_firstFreeOf_18 (by decide) (fun c10 => ?_) (fun c10 => ?_)
        · replace hw := hw.2 ((bi_eq _).mp c10)
          refine lv_iinc (v := v2l2 + 1) (lv' := [(2, .int (v2l2 + 1)), (0, .ref (a 0)), (1, .int p0)]) hx hb dX1_firstFreeOf_28 hl (k := 2) rfl rfl (by decide) rfl (fun ls hl => ?_)
          refine lv_goto (tgt := 2) hx hb dX1_firstFreeOf_31 (by decide) ?_
          exact ih2 (v2l2 + 1) _ _ _ hd (lv_sub hl [1, 2, 0] rfl) hw
        · replace hw := hw.1 ((bi_ne _).mp c10)
          refine lv_iload_n hx hb dX1_firstFreeOf_21 rfl (lv_at hl 1 rfl) ?_
          refine lv_bipush (v := 16) hx hb dX1_firstFreeOf_22 (by decide) ?_
          refine lv_imul hx hb dX1_firstFreeOf_24 ?_
          refine lv_iload_n hx hb dX1_firstFreeOf_25 rfl (lv_at hl 2 rfl) ?_
          refine lv_iadd hx hb dX1_firstFreeOf_26 ?_
          exact r_i C hd dX1_firstFreeOf_27 () rfl hw
  rw [wpX1_firstFreeOf] at hw
  refine lv_iconst (v := 0) hx hb dX1_firstFreeOf_0 (by decide) ?_
  refine lv_istore_n (lv' := [(2, .int 0), (0, .ref (a 0)), (1, .int p0)]) hx hb dX1_firstFreeOf_1 rfl hl (by decide) rfl (fun ls hl => ?_)
  obtain ⟨n, hw⟩ := hw
  exact L2 n 0 _ _ _ hd (lv_sub hl [1, 2, 0] rfl) hw
abbrev rm_X1_lendableTo : Room := { frames := 3, cells := 0, slots := 0, locals := 67 }
theorem M_X1_lendableTo : MI yX1_lendableTo wsX1_lendableTo cX1_lendableTo 7 (some .int) 1 := ⟨⟨_, rfl⟩, by decide +kernel, by decide +kernel, by decide +kernel, by decide +kernel⟩
theorem iX1_lendableTo_X1 : ∀ w ∈ wsX10, w ∈ wsX1_lendableTo := fun _ h => List.mem_cons_of_mem _ (List.mem_append_right _ h)
def wpX1_lendableTo_L25 (σ : HS) (post : Int32 → Prop) : Nat → Int32 → Int32 → Int32 → Prop
  | 0, _, _, _ => False
  | n25 + 1, v25l3, v25l4, v25l5 => ((4 ≤ v25l5 → wpX1_firstFreeOf σ v25l3 (fun r61 => post r61)) ∧ (¬ 4 ≤ v25l5 → wpX1_freeOf σ v25l5 (fun r34 => ((r34 ≤ v25l4 → wpX1_lendableTo_L25 σ post n25 v25l3 v25l4 (v25l5 + 1)) ∧ (¬ r34 ≤ v25l4 → wpX1_lendableTo_L25 σ post n25 v25l5 r34 (v25l5 + 1))))))
def wpX1_lendableTo (σ : HS) (p0 : Int32) (post : Int32 → Prop) : Prop := wpX3_headOf p0 (fun r2 => wpX1_firstFreeOf σ r2 (fun r5 => ((r5 = (-5) → ∃ n25 : Nat, wpX1_lendableTo_L25 σ post n25 0 0 0) ∧ (¬ r5 = (-5) → post r5))))
set_option maxHeartbeats 4000000 in
set_option maxRecDepth 100000 in
theorem c_X1_lendableTo (l : Launch) (B : va_G) (k : KT) (a : Nat → Nat) (σ : HS) (p0 : Int32) (post : Int32 → Prop) (hw : wpX1_lendableTo σ p0 post) : Cti l yX1_lendableTo wsX1_lendableTo rm_X1_lendableTo 0 0 B k [.ref (a 0), .int p0] (wX1 k a σ) (fun _ : Unit => wX1 k a σ) (fun r _ => post r) := by
  refine Cti.of M_X1_lendableTo (Nat.le_of_ble_eq_true rfl) ?_
  intro p e s m args below meth c A C hd ls hl
  have hx := C.1; have hb := C.2.1; have hml := C.2.2.1; have hts := C.2.2.2.2.1
  have hl : lv_has ls 7 [(0, .ref (a 0)), (1, .int p0)] := hl
  have L25 : ∀ (n25 : Nat), ∀ (v25l3 : Int32) (v25l4 : Int32) (v25l5 : Int32) (H : Heap) (locs : List Loc) (ls : Array Slot), Wd B A s.heap (wX1 k a σ) H locs → lv_has ls 7 [(0, .ref (a 0)), (3, .int v25l3), (4, .int v25l4), (5, .int v25l5)] → wpX1_lendableTo_L25 σ post n25 v25l3 v25l4 v25l5 → W p l e rm_X1_lendableTo s m args below meth c H locs 0 0 (Qi below args s B A (fun _ : Unit => wX1 k a σ) (fun r _ => post r) 0 0) (F0 m 25 ls []) := by
    intro n25
    induction n25 with
    | zero => intro v25l3 v25l4 v25l5 H locs ls hd hl hw; exact absurd hw (by simp [wpX1_lendableTo_L25])
    | succ n25 ih25 =>
      intro v25l3 v25l4 v25l5 H locs ls hd hl hw
      rw [wpX1_lendableTo_L25] at hw
      refine lv_iload hx hb dX1_lendableTo_25 (lv_at hl 3 rfl) ?_
      refine lv_iconst (v := 4) hx hb dX1_lendableTo_27 (by decide) ?_
      refine lv_icmp_ge (tgt := 59) hx hb dX1_lendableTo_28 (by decide) (fun c10 => ?_) (fun c10 => ?_)
      · replace hw := hw.1 c10
        refine lv_aload_n hx hb dX1_lendableTo_59 rfl (lv_at hl 0 rfl) ?_
        refine lv_iload_n hx hb dX1_lendableTo_60 rfl (lv_at hl 1 rfl) ?_
        refine v_i C hd hl M_X1_firstFreeOf gX1_lendableTo_X1_firstFreeOf (c_X1_firstFreeOf l B k a σ v25l3 _ hw) ⟨rfl, rfl⟩ ⟨Nat.le_of_ble_eq_true rfl, Nat.le_of_ble_eq_true rfl⟩ (pm_all _) (fun _ => wX1 k a σ) (fun _ => (pm_all _).symm) 0 1 rfl rfl rfl rfl rfl (Nat.le_of_ble_eq_true rfl) dX1_lendableTo_61 ⟨Nat.le_of_ble_eq_true rfl, Nat.le_of_ble_eq_true rfl⟩ (fun r61 _ H locs hw hd => ?_)
        exact r_i C hd dX1_lendableTo_64 () rfl hw
      · replace hw := hw.2 c10
        refine lv_aload_n hx hb dX1_lendableTo_31 rfl (lv_at hl 0 rfl) ?_
        refine lv_iload hx hb dX1_lendableTo_32 (lv_at hl 3 rfl) ?_
        refine v_i C hd hl M_X1_freeOf gX1_lendableTo_X1_freeOf (c_X1_freeOf l B k a σ v25l5 _ hw) ⟨rfl, rfl⟩ ⟨Nat.le_of_ble_eq_true rfl, Nat.le_of_ble_eq_true rfl⟩ (pm_all _) (fun _ => wX1 k a σ) (fun _ => (pm_all _).symm) 0 1 rfl rfl rfl rfl rfl (Nat.le_of_ble_eq_true rfl) dX1_lendableTo_34 ⟨Nat.le_of_ble_eq_true rfl, Nat.le_of_ble_eq_true rfl⟩ (fun r34 _ H locs hw hd => ?_)
        refine lv_istore (lv' := [(6, .int r34), (0, .ref (a 0)), (3, .int v25l3), (4, .int v25l4), (5, .int v25l5)]) hx hb dX1_lendableTo_37 hl (by decide) rfl (fun ls hl => ?_)
        refine lv_iload hx hb dX1_lendableTo_39 (lv_at hl 0 rfl) ?_
        refine lv_iload hx hb dX1_lendableTo_41 (lv_at hl 3 rfl) ?_
        refine lv_icmp_le (tgt := 53) hx hb dX1_lendableTo_43 (by decide) (fun c11 => ?_) (fun c11 => ?_)
        · replace hw := hw.1 c11
          refine lv_iinc (v := v25l5 + 1) (lv' := [(5, .int (v25l5 + 1)), (6, .int r34), (0, .ref (a 0)), (3, .int v25l3), (4, .int v25l4)]) hx hb dX1_lendableTo_53 hl (k := 4) rfl rfl (by decide) rfl (fun ls hl => ?_)
          refine lv_goto (tgt := 25) hx hb dX1_lendableTo_56 (by decide) ?_
          exact ih25 v25l3 v25l4 (v25l5 + 1) _ _ _ hd (lv_sub hl [2, 3, 4, 0] rfl) hw
        · replace hw := hw.2 c11
          refine lv_iload hx hb dX1_lendableTo_46 (lv_at hl 4 rfl) ?_
          refine lv_istore_n (lv' := [(3, .int v25l5), (6, .int r34), (0, .ref (a 0)), (4, .int v25l4), (5, .int v25l5)]) hx hb dX1_lendableTo_48 rfl hl (by decide) rfl (fun ls hl => ?_)
          refine lv_iload hx hb dX1_lendableTo_49 (lv_at hl 1 rfl) ?_
          refine lv_istore (lv' := [(4, .int r34), (3, .int v25l5), (6, .int r34), (0, .ref (a 0)), (5, .int v25l5)]) hx hb dX1_lendableTo_51 hl (by decide) rfl (fun ls hl => ?_)
          refine lv_iinc (v := v25l5 + 1) (lv' := [(5, .int (v25l5 + 1)), (4, .int r34), (3, .int v25l5), (6, .int r34), (0, .ref (a 0))]) hx hb dX1_lendableTo_53 hl (k := 4) rfl rfl (by decide) rfl (fun ls hl => ?_)
          refine lv_goto (tgt := 25) hx hb dX1_lendableTo_56 (by decide) ?_
          exact ih25 v25l5 r34 (v25l5 + 1) _ _ _ hd (lv_sub hl [4, 2, 1, 0] rfl) hw
  rw [wpX1_lendableTo] at hw
  refine lv_aload_n hx hb dX1_lendableTo_0 rfl (lv_at hl 0 rfl) ?_
  refine lv_iload_n hx hb dX1_lendableTo_1 rfl (lv_at hl 1 rfl) ?_
  refine n_i C hd hl M_X3_headOf gX1_lendableTo_X3_headOf_n80 (List.mem_of_getElem? (i := 2) rfl) (List.mem_of_getElem? (i := 1) rfl) (List.mem_of_getElem? (i := 2) rfl) (c_X3_headOf l B k p0 _ hw) ⟨rfl, rfl⟩ ⟨Nat.le_of_ble_eq_true rfl, Nat.le_of_ble_eq_true rfl⟩ (pm_non _) (fun _ => wX1 k a σ) (fun _ => List.Perm.refl _) rfl rfl (Nat.le_of_ble_eq_true rfl) dX1_lendableTo_2 ⟨Nat.le_of_ble_eq_true rfl, Nat.le_of_ble_eq_true rfl⟩ (fun r2 _ H locs hw hd => ?_)
  refine v_i C hd hl M_X1_firstFreeOf gX1_lendableTo_X1_firstFreeOf (c_X1_firstFreeOf l B k a σ r2 _ hw) ⟨rfl, rfl⟩ ⟨Nat.le_of_ble_eq_true rfl, Nat.le_of_ble_eq_true rfl⟩ (pm_all _) (fun _ => wX1 k a σ) (fun _ => (pm_all _).symm) 0 1 rfl rfl rfl rfl rfl (Nat.le_of_ble_eq_true rfl) dX1_lendableTo_5 ⟨Nat.le_of_ble_eq_true rfl, Nat.le_of_ble_eq_true rfl⟩ (fun r5 _ H locs hw hd => ?_)
  refine lv_istore_n (lv' := [(2, .int r5), (0, .ref (a 0)), (1, .int p0)]) hx hb dX1_lendableTo_8 rfl hl (by decide) rfl (fun ls hl => ?_)
  refine lv_iload_n hx hb dX1_lendableTo_9 rfl (lv_at hl 0 rfl) ?_
  refine lv_bipush (v := (-5)) hx hb dX1_lendableTo_10 (by decide) ?_
  refine lv_icmp_eq (tgt := 17) hx hb dX1_lendableTo_12 (by decide) (fun c12 => ?_) (fun c12 => ?_)
  · replace hw := hw.1 c12
    refine lv_iconst (v := 0) hx hb dX1_lendableTo_17 (by decide) ?_
    refine lv_istore_n (lv' := [(3, .int 0), (2, .int r5), (0, .ref (a 0)), (1, .int p0)]) hx hb dX1_lendableTo_18 rfl hl (by decide) rfl (fun ls hl => ?_)
    refine lv_iconst (v := 0) hx hb dX1_lendableTo_19 (by decide) ?_
    refine lv_istore (lv' := [(4, .int 0), (3, .int 0), (2, .int r5), (0, .ref (a 0)), (1, .int p0)]) hx hb dX1_lendableTo_20 hl (by decide) rfl (fun ls hl => ?_)
    refine lv_iconst (v := 0) hx hb dX1_lendableTo_22 (by decide) ?_
    refine lv_istore (lv' := [(5, .int 0), (4, .int 0), (3, .int 0), (2, .int r5), (0, .ref (a 0)), (1, .int p0)]) hx hb dX1_lendableTo_23 hl (by decide) rfl (fun ls hl => ?_)
    obtain ⟨n, hw⟩ := hw
    exact L25 n 0 0 0 _ _ _ hd (lv_sub hl [4, 2, 1, 0] rfl) hw
  · replace hw := hw.2 c12
    refine lv_iload_n hx hb dX1_lendableTo_15 rfl (lv_at hl 0 rfl) ?_
    exact r_i C hd dX1_lendableTo_16 () rfl hw
abbrev rm_X1_stepsTo : Room := { frames := 2, cells := 0, slots := 0, locals := 46 }
theorem M_X1_stepsTo : MI yX1_stepsTo wsX1_stepsTo cX1_stepsTo 3 (some .int) 1 := ⟨⟨_, rfl⟩, by decide +kernel, by decide +kernel, by decide +kernel, by decide +kernel⟩
theorem iX1_stepsTo_X1 : ∀ w ∈ wsX10, w ∈ wsX1_stepsTo := fun _ h => List.mem_cons_of_mem _ (List.mem_append_right _ h)
def wpX1_stepsTo_J24 (σ : HS) (p0 : Int32) (post : Int32 → Prop)  : Prop := wpX3_stepsBetween (hs_arm σ) ((hs_server σ) p0.toNatClampNeg) (fun r29 => post r29)
def wpX1_stepsTo (σ : HS) (p0 : Int32) (post : Int32 → Prop) : Prop := (vp_in p0 64 ∧ ((((hs_server σ) p0.toNatClampNeg) = p0 → wpX1_stepsTo_J24 σ p0 post ) ∧ (¬ ((hs_server σ) p0.toNatClampNeg) = p0 → wpX3_headOf p0 (fun r17 => (vp_in r17 4 ∧ ((((hs_givenUp σ) r17.toNatClampNeg) = 0 → wpX3_stepsBetween (hs_arm σ) p0 (fun r38 => wpX3_stepsBetween p0 ((hs_server σ) p0.toNatClampNeg) (fun r43 => post (r38 + r43)))) ∧ (¬ ((hs_givenUp σ) r17.toNatClampNeg) = 0 → wpX1_stepsTo_J24 σ p0 post )))))))
set_option maxHeartbeats 4000000 in
set_option maxRecDepth 100000 in
theorem c_X1_stepsTo (l : Launch) (B : va_G) (k : KT) (a : Nat → Nat) (σ : HS) (p0 : Int32) (post : Int32 → Prop) (hw : wpX1_stepsTo σ p0 post) : Cti l yX1_stepsTo wsX1_stepsTo rm_X1_stepsTo 0 0 B k [.ref (a 0), .int p0] (wX1 k a σ) (fun _ : Unit => wX1 k a σ) (fun r _ => post r) := by
  refine Cti.of M_X1_stepsTo (Nat.le_of_ble_eq_true rfl) ?_
  intro p e s m args below meth c A C hd ls hl
  have hx := C.1; have hb := C.2.1; have hml := C.2.2.1; have hts := C.2.2.2.2.1
  have hl : lv_has ls 3 [(0, .ref (a 0)), (1, .int p0)] := hl
  have J24 : ∀ (H : Heap) (locs : List Loc) (ls : Array Slot), Wd B A s.heap (wX1 k a σ) H locs → lv_has ls 3 [(0, .ref (a 0)), (2, .int ((hs_server σ) p0.toNatClampNeg))] → wpX1_stepsTo_J24 σ p0 post  → W p l e rm_X1_stepsTo s m args below meth c H locs 0 0 (Qi below args s B A (fun _ : Unit => wX1 k a σ) (fun r _ => post r) 0 0) (F0 m 24 ls []) := by
    intro  H locs ls hd hl hw
    rw [wpX1_stepsTo_J24] at hw
    refine lv_aload_n hx hb dX1_stepsTo_24 rfl (lv_at hl 0 rfl) ?_
    refine g_get (v := .int (hs_arm σ)) C hd iX1_stepsTo_X1 0 1 rfl rfl 9 (by decide) (List.mem_of_getElem? (i := 3) rfl) rfl dX1_stepsTo_25 ?_
    refine lv_iload_n hx hb dX1_stepsTo_28 rfl (lv_at hl 1 rfl) ?_
    refine n_i C hd hl M_X3_stepsBetween gX1_stepsTo_X3_stepsBetween_n101 (List.mem_of_getElem? (i := 3) rfl) (List.mem_of_getElem? (i := 7) rfl) (List.mem_of_getElem? (i := 5) rfl) (c_X3_stepsBetween l B k (hs_arm σ) ((hs_server σ) p0.toNatClampNeg) _ hw) ⟨rfl, rfl⟩ ⟨Nat.le_of_ble_eq_true rfl, Nat.le_of_ble_eq_true rfl⟩ (pm_non _) (fun _ => wX1 k a σ) (fun _ => List.Perm.refl _) rfl rfl (Nat.le_of_ble_eq_true rfl) dX1_stepsTo_29 ⟨Nat.le_of_ble_eq_true rfl, Nat.le_of_ble_eq_true rfl⟩ (fun r29 _ H locs hw hd => ?_)
    exact r_i C hd dX1_stepsTo_32 () rfl hw
  rw [wpX1_stepsTo] at hw
  refine lv_aload_n hx hb dX1_stepsTo_0 rfl (lv_at hl 0 rfl) ?_
  refine g_get (v := .ref (a 7)) C hd iX1_stepsTo_X1 0 1 rfl rfl 7 (by decide) (List.mem_of_getElem? (i := 1) rfl) rfl dX1_stepsTo_1 ?_
  refine lv_iload_n hx hb dX1_stepsTo_4 rfl (lv_at hl 1 rfl) ?_
  obtain ⟨h3, hw⟩ := hw
  refine g_ild (f := hs_server σ) C hd 7 rfl h3 dX1_stepsTo_5 ?_
  refine lv_istore_n (lv' := [(2, .int ((hs_server σ) p0.toNatClampNeg)), (0, .ref (a 0)), (1, .int p0)]) hx hb dX1_stepsTo_6 rfl hl (by decide) rfl (fun ls hl => ?_)
  refine lv_iload_n hx hb dX1_stepsTo_7 rfl (lv_at hl 0 rfl) ?_
  refine lv_iload_n hx hb dX1_stepsTo_8 rfl (lv_at hl 2 rfl) ?_
  refine lv_icmp_eq (tgt := 24) hx hb dX1_stepsTo_9 (by decide) (fun c3 => ?_) (fun c3 => ?_)
  · replace hw := hw.1 c3
    exact J24  _ _ _ hd (lv_sub hl [1, 0] rfl) hw
  · replace hw := hw.2 c3
    refine lv_aload_n hx hb dX1_stepsTo_12 rfl (lv_at hl 1 rfl) ?_
    refine g_get (v := .ref (a 3)) C hd iX1_stepsTo_X1 0 1 rfl rfl 3 (by decide) (List.mem_of_getElem? (i := 2) rfl) rfl dX1_stepsTo_13 ?_
    refine lv_iload_n hx hb dX1_stepsTo_16 rfl (lv_at hl 2 rfl) ?_
    refine n_i C hd hl M_X3_headOf gX1_stepsTo_X3_headOf_n80 (List.mem_of_getElem? (i := 2) rfl) (List.mem_of_getElem? (i := 4) rfl) (List.mem_of_getElem? (i := 5) rfl) (c_X3_headOf l B k p0 _ hw) ⟨rfl, rfl⟩ ⟨Nat.le_of_ble_eq_true rfl, Nat.le_of_ble_eq_true rfl⟩ (pm_non _) (fun _ => wX1 k a σ) (fun _ => List.Perm.refl _) rfl rfl (Nat.le_of_ble_eq_true rfl) dX1_stepsTo_17 ⟨Nat.le_of_ble_eq_true rfl, Nat.le_of_ble_eq_true rfl⟩ (fun r17 _ H locs hw hd => ?_)
    obtain ⟨h4, hw⟩ := hw
    refine g_zld (f := hs_givenUp σ) C hd 3 rfl h4 dX1_stepsTo_20 ?_
    refine lv_if_eq (tgt := 33) hx hb dX1_stepsTo_21 (by decide) (fun c4 => ?_) (fun c4 => ?_)
    · replace hw := hw.1 c4
      refine lv_aload_n hx hb dX1_stepsTo_33 rfl (lv_at hl 1 rfl) ?_
      refine g_get (v := .int (hs_arm σ)) C hd iX1_stepsTo_X1 0 1 rfl rfl 9 (by decide) (List.mem_of_getElem? (i := 3) rfl) rfl dX1_stepsTo_34 ?_
      refine lv_iload_n hx hb dX1_stepsTo_37 rfl (lv_at hl 2 rfl) ?_
      refine n_i C hd hl M_X3_stepsBetween gX1_stepsTo_X3_stepsBetween_n101 (List.mem_of_getElem? (i := 3) rfl) (List.mem_of_getElem? (i := 7) rfl) (List.mem_of_getElem? (i := 5) rfl) (c_X3_stepsBetween l B k (hs_arm σ) p0 _ hw) ⟨rfl, rfl⟩ ⟨Nat.le_of_ble_eq_true rfl, Nat.le_of_ble_eq_true rfl⟩ (pm_non _) (fun _ => wX1 k a σ) (fun _ => List.Perm.refl _) rfl rfl (Nat.le_of_ble_eq_true rfl) dX1_stepsTo_38 ⟨Nat.le_of_ble_eq_true rfl, Nat.le_of_ble_eq_true rfl⟩ (fun r38 _ H locs hw hd => ?_)
      refine lv_iload_n hx hb dX1_stepsTo_41 rfl (lv_at hl 2 rfl) ?_
      refine lv_iload_n hx hb dX1_stepsTo_42 rfl (lv_at hl 0 rfl) ?_
      refine n_i C hd hl M_X3_stepsBetween gX1_stepsTo_X3_stepsBetween_n101 (List.mem_of_getElem? (i := 3) rfl) (List.mem_of_getElem? (i := 7) rfl) (List.mem_of_getElem? (i := 5) rfl) (c_X3_stepsBetween l B k p0 ((hs_server σ) p0.toNatClampNeg) _ hw) ⟨rfl, rfl⟩ ⟨Nat.le_of_ble_eq_true rfl, Nat.le_of_ble_eq_true rfl⟩ (pm_non _) (fun _ => wX1 k a σ) (fun _ => List.Perm.refl _) rfl rfl (Nat.le_of_ble_eq_true rfl) dX1_stepsTo_43 ⟨Nat.le_of_ble_eq_true rfl, Nat.le_of_ble_eq_true rfl⟩ (fun r43 _ H locs hw hd => ?_)
      refine lv_iadd hx hb dX1_stepsTo_46 ?_
      exact r_i C hd dX1_stepsTo_47 () rfl hw
    · replace hw := hw.2 c4
      exact J24  _ _ _ hd (lv_sub hl [1, 0] rfl) hw
abbrev rm_X1_changeLimit : Room := { frames := 0, cells := 0, slots := 0, locals := 0 }
theorem M_X1_changeLimit : MI yX1_changeLimit wsX1_changeLimit cX1_changeLimit 3 (some .int) 1 := ⟨⟨_, rfl⟩, by decide +kernel, by decide +kernel, by decide +kernel, by decide +kernel⟩
theorem iX1_changeLimit_X1 : ∀ w ∈ wsX10, w ∈ wsX1_changeLimit := fun _ h => List.mem_cons_of_mem _ (List.mem_append_right _ h)
def wpX1_changeLimit (σ : HS) (p0 : Int32) (post : Int32 → HS → Prop) : Prop := ((p0 < 1 → post (-2) σ) ∧ (¬ p0 < 1 → ((p0 ≤ 999 → (((hs_limit σ) = p0 → post (-5) (hs_setLimit σ p0)) ∧ (¬ (hs_limit σ) = p0 → post (hs_limit σ) (hs_setLimit σ p0)))) ∧ (¬ p0 ≤ 999 → post (-2) σ))))
set_option maxHeartbeats 4000000 in
set_option maxRecDepth 100000 in
theorem c_X1_changeLimit (l : Launch) (B : va_G) (k : KT) (a : Nat → Nat) (σ : HS) (p0 : Int32) (post : Int32 → HS → Prop) (hw : wpX1_changeLimit σ p0 post) : Cti l yX1_changeLimit wsX1_changeLimit rm_X1_changeLimit 0 0 B k [.ref (a 0), .int p0] (wX1 k a σ) (fun u => wX1 k a u) post := by
  refine Cti.of M_X1_changeLimit (Nat.le_of_ble_eq_true rfl) ?_
  intro p e s m args below meth c A C hd ls hl
  have hx := C.1; have hb := C.2.1; have hml := C.2.2.1; have hts := C.2.2.2.2.1
  have hl : lv_has ls 3 [(0, .ref (a 0)), (1, .int p0)] := hl
  rw [wpX1_changeLimit] at hw
  refine lv_iload_n hx hb dX1_changeLimit_0 rfl (lv_at hl 1 rfl) ?_
  refine lv_iconst (v := 1) hx hb dX1_changeLimit_1 (by decide) ?_
  refine lv_icmp_lt (tgt := 12) hx hb dX1_changeLimit_2 (by decide) (fun c4 => ?_) (fun c4 => ?_)
  · replace hw := hw.1 c4
    refine lv_bipush (v := (-2)) hx hb dX1_changeLimit_12 (by decide) ?_
    exact r_i C hd dX1_changeLimit_14 σ rfl hw
  · replace hw := hw.2 c4
    refine lv_iload_n hx hb dX1_changeLimit_5 rfl (lv_at hl 1 rfl) ?_
    refine lv_sipush (v := 999) hx hb dX1_changeLimit_6 (by decide) ?_
    refine lv_icmp_le (tgt := 15) hx hb dX1_changeLimit_9 (by decide) (fun c5 => ?_) (fun c5 => ?_)
    · replace hw := hw.1 c5
      refine lv_aload_n hx hb dX1_changeLimit_15 rfl (lv_at hl 0 rfl) ?_
      refine g_get (v := .int (hs_limit σ)) C hd iX1_changeLimit_X1 0 1 rfl rfl 0 (by decide) (List.mem_of_getElem? (i := 1) rfl) rfl dX1_changeLimit_16 ?_
      refine lv_istore_n (lv' := [(2, .int (hs_limit σ)), (0, .ref (a 0)), (1, .int p0)]) hx hb dX1_changeLimit_19 rfl hl (by decide) rfl (fun ls hl => ?_)
      refine lv_aload_n hx hb dX1_changeLimit_20 rfl (lv_at hl 1 rfl) ?_
      refine lv_iload_n hx hb dX1_changeLimit_21 rfl (lv_at hl 2 rfl) ?_
      refine g_put C hd iX1_changeLimit_X1 tyX1 tyX1_ok nmX1 0 1 rfl rfl 0 (by decide) (List.mem_of_getElem? (i := 1) rfl) rfl rfl rfl (Nat.le_of_ble_eq_true rfl) (wX1 k a (hs_setLimit σ p0)) (wX1_putLimit k a _ _) dX1_changeLimit_22 (fun H locs hd => ?_)
      refine lv_iload_n hx hb dX1_changeLimit_25 rfl (lv_at hl 0 rfl) ?_
      refine lv_iload_n hx hb dX1_changeLimit_26 rfl (lv_at hl 2 rfl) ?_
      refine lv_icmp_ne (tgt := 35) hx hb dX1_changeLimit_27 (by decide) (fun c6 => ?_) (fun c6 => ?_)
      · replace hw := hw.2 c6
        refine lv_iload_n hx hb dX1_changeLimit_35 rfl (lv_at hl 0 rfl) ?_
        exact r_i C hd dX1_changeLimit_36 (hs_setLimit σ p0) rfl hw
      · replace hw := hw.1 c6
        refine lv_bipush (v := (-5)) hx hb dX1_changeLimit_30 (by decide) ?_
        refine lv_goto (tgt := 36) hx hb dX1_changeLimit_32 (by decide) ?_
        exact r_i C hd dX1_changeLimit_36 (hs_setLimit σ p0) rfl hw
    · replace hw := hw.2 c5
      refine lv_bipush (v := (-2)) hx hb dX1_changeLimit_12 (by decide) ?_
      exact r_i C hd dX1_changeLimit_14 σ rfl hw
abbrev rm_X1_goTo : Room := { frames := 3, cells := 0, slots := 0, locals := 68 }
theorem M_X1_goTo : MI yX1_goTo wsX1_goTo cX1_goTo 2 none 1 := ⟨⟨_, rfl⟩, by decide +kernel, by decide +kernel, by decide +kernel, by decide +kernel⟩
theorem iX1_goTo_X1 : ∀ w ∈ wsX10, w ∈ wsX1_goTo := fun _ h => List.mem_cons_of_mem _ (List.mem_append_right _ h)
def wpX1_goTo (σ : HS) (p0 : Int32) (post : HS → Prop) : Prop := wpX1_stepsTo σ p0 (fun r7 => (vp_in p0 64 ∧ post (hs_setArm (hs_setSteps σ ((hs_steps σ) + r7)) ((hs_server σ) p0.toNatClampNeg))))
set_option maxHeartbeats 4000000 in
set_option maxRecDepth 100000 in
theorem c_X1_goTo (l : Launch) (B : va_G) (k : KT) (a : Nat → Nat) (σ : HS) (p0 : Int32) (post : HS → Prop) (hw : wpX1_goTo σ p0 post) : Ctv l yX1_goTo wsX1_goTo rm_X1_goTo 0 0 B k [.ref (a 0), .int p0] (wX1 k a σ) (fun u => wX1 k a u) post := by
  refine Ctv.of M_X1_goTo (Nat.le_of_ble_eq_true rfl) ?_
  intro p e s m args below meth c A C hd ls hl
  have hx := C.1; have hb := C.2.1; have hml := C.2.2.1; have hts := C.2.2.2.2.1
  have hl : lv_has ls 2 [(0, .ref (a 0)), (1, .int p0)] := hl
  rw [wpX1_goTo] at hw
  refine lv_aload_n hx hb dX1_goTo_0 rfl (lv_at hl 0 rfl) ?_
  refine lv_dup hx hb dX1_goTo_1 rfl ?_
  refine g_get (v := .int (hs_steps σ)) C hd iX1_goTo_X1 0 1 rfl rfl 10 (by decide) (List.mem_of_getElem? (i := 1) rfl) rfl dX1_goTo_2 ?_
  refine lv_aload_n hx hb dX1_goTo_5 rfl (lv_at hl 0 rfl) ?_
  refine lv_iload_n hx hb dX1_goTo_6 rfl (lv_at hl 1 rfl) ?_
  refine v_i C hd hl M_X1_stepsTo gX1_goTo_X1_stepsTo (c_X1_stepsTo l B k a σ p0 _ hw) ⟨rfl, rfl⟩ ⟨Nat.le_of_ble_eq_true rfl, Nat.le_of_ble_eq_true rfl⟩ (pm_all _) (fun _ => wX1 k a σ) (fun _ => (pm_all _).symm) 0 1 rfl rfl rfl rfl rfl (Nat.le_of_ble_eq_true rfl) dX1_goTo_7 ⟨Nat.le_of_ble_eq_true rfl, Nat.le_of_ble_eq_true rfl⟩ (fun r7 _ H locs hw hd => ?_)
  refine lv_iadd hx hb dX1_goTo_10 ?_
  refine g_put C hd iX1_goTo_X1 tyX1 tyX1_ok nmX1 0 1 rfl rfl 10 (by decide) (List.mem_of_getElem? (i := 1) rfl) rfl rfl rfl (Nat.le_of_ble_eq_true rfl) (wX1 k a (hs_setSteps σ ((hs_steps σ) + r7))) (wX1_putSteps k a _ _) dX1_goTo_11 (fun H locs hd => ?_)
  refine lv_aload_n hx hb dX1_goTo_14 rfl (lv_at hl 0 rfl) ?_
  refine lv_aload_n hx hb dX1_goTo_15 rfl (lv_at hl 0 rfl) ?_
  refine g_get (v := .ref (a 7)) C hd iX1_goTo_X1 0 1 rfl rfl 7 (by decide) (List.mem_of_getElem? (i := 2) rfl) rfl dX1_goTo_16 ?_
  refine lv_iload_n hx hb dX1_goTo_19 rfl (lv_at hl 1 rfl) ?_
  obtain ⟨h2, hw⟩ := hw
  refine g_ild (f := hs_server σ) C hd 7 rfl h2 dX1_goTo_20 ?_
  refine g_put C hd iX1_goTo_X1 tyX1 tyX1_ok nmX1 0 1 rfl rfl 9 (by decide) (List.mem_of_getElem? (i := 3) rfl) rfl rfl rfl (Nat.le_of_ble_eq_true rfl) (wX1 k a (hs_setArm (hs_setSteps σ ((hs_steps σ) + r7)) ((hs_server σ) p0.toNatClampNeg))) (wX1_putArm k a _ _) dX1_goTo_21 (fun H locs hd => ?_)
  exact r_v C hd dX1_goTo_24 (hs_setArm (hs_setSteps σ ((hs_steps σ) + r7)) ((hs_server σ) p0.toNatClampNeg)) rfl hw
abbrev rm_X1_wearByReading : Room := { frames := 1, cells := 0, slots := 0, locals := 20 }
theorem M_X1_wearByReading : MI yX1_wearByReading wsX1_wearByReading cX1_wearByReading 2 none 1 := ⟨⟨_, rfl⟩, by decide +kernel, by decide +kernel, by decide +kernel, by decide +kernel⟩
theorem iX1_wearByReading_X1 : ∀ w ∈ wsX10, w ∈ wsX1_wearByReading := fun _ h => List.mem_cons_of_mem _ (List.mem_append_right _ h)
def wpX1_wearByReading (σ : HS) (p0 : Int32) (post : HS → Prop) : Prop := (vp_in p0 64 ∧ wpX3_headOf p0 (fun r12 => (vp_in r12 4 ∧ post (hs_setWear σ (upd (hs_wear σ) p0.toNatClampNeg (((hs_wear σ) p0.toNatClampNeg) + ((hs_ageing σ) r12.toNatClampNeg)))))))
set_option maxHeartbeats 4000000 in
set_option maxRecDepth 100000 in
theorem c_X1_wearByReading (l : Launch) (B : va_G) (k : KT) (a : Nat → Nat) (σ : HS) (p0 : Int32) (post : HS → Prop) (hw : wpX1_wearByReading σ p0 post) : Ctv l yX1_wearByReading wsX1_wearByReading rm_X1_wearByReading 0 0 B k [.ref (a 0), .int p0] (wX1 k a σ) (fun u => wX1 k a u) post := by
  refine Ctv.of M_X1_wearByReading (Nat.le_of_ble_eq_true rfl) ?_
  intro p e s m args below meth c A C hd ls hl
  have hx := C.1; have hb := C.2.1; have hml := C.2.2.1; have hts := C.2.2.2.2.1
  have hl : lv_has ls 2 [(0, .ref (a 0)), (1, .int p0)] := hl
  rw [wpX1_wearByReading] at hw
  refine lv_aload_n hx hb dX1_wearByReading_0 rfl (lv_at hl 0 rfl) ?_
  refine g_get (v := .ref (a 4)) C hd iX1_wearByReading_X1 0 1 rfl rfl 4 (by decide) (List.mem_of_getElem? (i := 1) rfl) rfl dX1_wearByReading_1 ?_
  refine lv_iload_n hx hb dX1_wearByReading_4 rfl (lv_at hl 1 rfl) ?_
  refine lv_dup2_11 hx hb dX1_wearByReading_5 rfl rfl ?_
  obtain ⟨h3, hw⟩ := hw
  refine g_ild (f := hs_wear σ) C hd 4 rfl h3 dX1_wearByReading_6 ?_
  refine lv_aload_n hx hb dX1_wearByReading_7 rfl (lv_at hl 0 rfl) ?_
  refine g_get (v := .ref (a 1)) C hd iX1_wearByReading_X1 0 1 rfl rfl 1 (by decide) (List.mem_of_getElem? (i := 2) rfl) rfl dX1_wearByReading_8 ?_
  refine lv_iload_n hx hb dX1_wearByReading_11 rfl (lv_at hl 1 rfl) ?_
  refine n_i C hd hl M_X3_headOf gX1_wearByReading_X3_headOf_n80 (List.mem_of_getElem? (i := 2) rfl) (List.mem_of_getElem? (i := 3) rfl) (List.mem_of_getElem? (i := 4) rfl) (c_X3_headOf l B k p0 _ hw) ⟨rfl, rfl⟩ ⟨Nat.le_of_ble_eq_true rfl, Nat.le_of_ble_eq_true rfl⟩ (pm_non _) (fun _ => wX1 k a σ) (fun _ => List.Perm.refl _) rfl rfl (Nat.le_of_ble_eq_true rfl) dX1_wearByReading_12 ⟨Nat.le_of_ble_eq_true rfl, Nat.le_of_ble_eq_true rfl⟩ (fun r12 _ H locs hw hd => ?_)
  obtain ⟨h4, hw⟩ := hw
  refine g_ild (f := hs_ageing σ) C hd 1 rfl h4 dX1_wearByReading_15 ?_
  refine lv_iadd hx hb dX1_wearByReading_16 ?_
  refine g_ist (f := hs_wear σ) C hd 4 rfl h3 (wX1 k a (hs_setWear σ (upd (hs_wear σ) p0.toNatClampNeg (((hs_wear σ) p0.toNatClampNeg) + ((hs_ageing σ) r12.toNatClampNeg))))) (wX1_stWear k a _ _) dX1_wearByReading_17 (fun H locs hd => ?_)
  exact r_v C hd dX1_wearByReading_18 (hs_setWear σ (upd (hs_wear σ) p0.toNatClampNeg (((hs_wear σ) p0.toNatClampNeg) + ((hs_ageing σ) r12.toNatClampNeg)))) rfl hw
abbrev rm_X1_release : Room := { frames := 1, cells := 0, slots := 0, locals := 21 }
theorem M_X1_release : MI yX1_release wsX1_release cX1_release 2 none 1 := ⟨⟨_, rfl⟩, by decide +kernel, by decide +kernel, by decide +kernel, by decide +kernel⟩
theorem iX1_release_X1 : ∀ w ∈ wsX10, w ∈ wsX1_release := fun _ h => List.mem_cons_of_mem _ (List.mem_append_right _ h)
def wpX1_release_J21 (p0 : Int32) (post : HS → Prop) (σ21 : HS) : Prop := (vp_in p0 64 ∧ post (hs_setServer σ21 (upd (hs_server σ21) p0.toNatClampNeg (-5))))
def wpX1_release (σ : HS) (p0 : Int32) (post : HS → Prop) : Prop := wpX1_isLost σ p0 (fun b2 => ((b2 = true → wpX1_release_J21 p0 post σ) ∧ (b2 = false → (vp_in p0 64 ∧ (vp_in ((hs_server σ) p0.toNatClampNeg) 64 ∧ wpX1_release_J21 p0 post (hs_setClient σ (upd (hs_client σ) ((hs_server σ) p0.toNatClampNeg).toNatClampNeg (-5))))))))
set_option maxHeartbeats 4000000 in
set_option maxRecDepth 100000 in
theorem c_X1_release (l : Launch) (B : va_G) (k : KT) (a : Nat → Nat) (σ : HS) (p0 : Int32) (post : HS → Prop) (hw : wpX1_release σ p0 post) : Ctv l yX1_release wsX1_release rm_X1_release 0 0 B k [.ref (a 0), .int p0] (wX1 k a σ) (fun u => wX1 k a u) post := by
  refine Ctv.of M_X1_release (Nat.le_of_ble_eq_true rfl) ?_
  intro p e s m args below meth c A C hd ls hl
  have hx := C.1; have hb := C.2.1; have hml := C.2.2.1; have hts := C.2.2.2.2.1
  have hl : lv_has ls 2 [(0, .ref (a 0)), (1, .int p0)] := hl
  have J21 : ∀ (σ21 : HS) (H : Heap) (locs : List Loc) (ls : Array Slot), Wd B A s.heap (wX1 k a σ21) H locs → lv_has ls 2 [(0, .ref (a 0)), (1, .int p0)] → wpX1_release_J21 p0 post σ21 → W p l e rm_X1_release s m args below meth c H locs 0 0 (Qv below args s B A (fun u => wX1 k a u) post 0 0) (F0 m 21 ls []) := by
    intro σ21 H locs ls hd hl hw
    rw [wpX1_release_J21] at hw
    refine lv_aload_n hx hb dX1_release_21 rfl (lv_at hl 0 rfl) ?_
    refine g_get (v := .ref (a 7)) C hd iX1_release_X1 0 1 rfl rfl 7 (by decide) (List.mem_of_getElem? (i := 2) rfl) rfl dX1_release_22 ?_
    refine lv_iload_n hx hb dX1_release_25 rfl (lv_at hl 1 rfl) ?_
    refine lv_bipush (v := (-5)) hx hb dX1_release_26 (by decide) ?_
    obtain ⟨h7, hw⟩ := hw
    refine g_ist (f := hs_server σ21) C hd 7 rfl h7 (wX1 k a (hs_setServer σ21 (upd (hs_server σ21) p0.toNatClampNeg (-5)))) (wX1_stServer k a _ _) dX1_release_28 (fun H locs hd => ?_)
    exact r_v C hd dX1_release_29 (hs_setServer σ21 (upd (hs_server σ21) p0.toNatClampNeg (-5))) rfl hw
  rw [wpX1_release] at hw
  refine lv_aload_n hx hb dX1_release_0 rfl (lv_at hl 0 rfl) ?_
  refine lv_iload_n hx hb dX1_release_1 rfl (lv_at hl 1 rfl) ?_
  refine v_i C hd hl M_X1_isLost gX1_release_X1_isLost (c_X1_isLost l B k a σ p0 _ hw) ⟨rfl, rfl⟩ ⟨Nat.le_of_ble_eq_true rfl, Nat.le_of_ble_eq_true rfl⟩ (pm_all _) (fun _ => wX1 k a σ) (fun _ => (pm_all _).symm) 0 1 rfl rfl rfl rfl rfl (Nat.le_of_ble_eq_true rfl) dX1_release_2 ⟨Nat.le_of_ble_eq_true rfl, Nat.le_of_ble_eq_true rfl⟩ (fun r _ H locs hp hd => ?_)
  obtain ⟨b2, rfl, hw⟩ := hp
  refine lv_if_ne (tgt := 21) hx hb dX1_release_5 (by decide) (fun c2 => ?_) (fun c2 => ?_)
  · replace hw := hw.1 ((bi_ne _).mp c2)
    exact J21 σ _ _ _ hd (lv_sub hl [0, 1] rfl) hw
  · replace hw := hw.2 ((bi_eq _).mp c2)
    refine lv_aload_n hx hb dX1_release_8 rfl (lv_at hl 0 rfl) ?_
    refine g_get (v := .ref (a 8)) C hd iX1_release_X1 0 1 rfl rfl 8 (by decide) (List.mem_of_getElem? (i := 1) rfl) rfl dX1_release_9 ?_
    refine lv_aload_n hx hb dX1_release_12 rfl (lv_at hl 0 rfl) ?_
    refine g_get (v := .ref (a 7)) C hd iX1_release_X1 0 1 rfl rfl 7 (by decide) (List.mem_of_getElem? (i := 2) rfl) rfl dX1_release_13 ?_
    refine lv_iload_n hx hb dX1_release_16 rfl (lv_at hl 1 rfl) ?_
    obtain ⟨h8, hw⟩ := hw
    refine g_ild (f := hs_server σ) C hd 7 rfl h8 dX1_release_17 ?_
    refine lv_bipush (v := (-5)) hx hb dX1_release_18 (by decide) ?_
    obtain ⟨h9, hw⟩ := hw
    refine g_ist (f := hs_client σ) C hd 8 rfl h9 (wX1 k a (hs_setClient σ (upd (hs_client σ) ((hs_server σ) p0.toNatClampNeg).toNatClampNeg (-5)))) (wX1_stClient k a _ _) dX1_release_20 (fun H locs hd => ?_)
    exact J21 (hs_setClient σ (upd (hs_client σ) ((hs_server σ) p0.toNatClampNeg).toNatClampNeg (-5))) _ _ _ hd (lv_sub hl [0, 1] rfl) hw
abbrev rm_X1_lend : Room := { frames := 2, cells := 0, slots := 0, locals := 42 }
theorem M_X1_lend : MI yX1_lend wsX1_lend cX1_lend 3 none 2 := ⟨⟨_, rfl⟩, by decide +kernel, by decide +kernel, by decide +kernel, by decide +kernel⟩
theorem iX1_lend_X1 : ∀ w ∈ wsX10, w ∈ wsX1_lend := fun _ h => List.mem_cons_of_mem _ (List.mem_append_right _ h)
def wpX1_lend (σ : HS) (p0 : Int32) (p1 : Int32) (post : HS → Prop) : Prop := wpX1_release σ p0 (fun σ2 => (vp_in p0 64 ∧ (vp_in p1 64 ∧ post (hs_setClient (hs_setServer σ2 (upd (hs_server σ2) p0.toNatClampNeg p1)) (upd (hs_client σ2) p1.toNatClampNeg p0)))))
set_option maxHeartbeats 4000000 in
set_option maxRecDepth 100000 in
theorem c_X1_lend (l : Launch) (B : va_G) (k : KT) (a : Nat → Nat) (σ : HS) (p0 : Int32) (p1 : Int32) (post : HS → Prop) (hw : wpX1_lend σ p0 p1 post) : Ctv l yX1_lend wsX1_lend rm_X1_lend 0 0 B k [.ref (a 0), .int p0, .int p1] (wX1 k a σ) (fun u => wX1 k a u) post := by
  refine Ctv.of M_X1_lend (Nat.le_of_ble_eq_true rfl) ?_
  intro p e s m args below meth c A C hd ls hl
  have hx := C.1; have hb := C.2.1; have hml := C.2.2.1; have hts := C.2.2.2.2.1
  have hl : lv_has ls 3 [(0, .ref (a 0)), (1, .int p0), (2, .int p1)] := hl
  rw [wpX1_lend] at hw
  refine lv_aload_n hx hb dX1_lend_0 rfl (lv_at hl 0 rfl) ?_
  refine lv_iload_n hx hb dX1_lend_1 rfl (lv_at hl 1 rfl) ?_
  refine v_v C hd hl M_X1_release gX1_lend_X1_release (c_X1_release l B k a σ p0 _ hw) ⟨rfl, rfl⟩ ⟨Nat.le_of_ble_eq_true rfl, Nat.le_of_ble_eq_true rfl⟩ (pm_all _) (fun u => wX1 k a u) (fun _ => (pm_all _).symm) 0 1 rfl rfl rfl rfl rfl (Nat.le_of_ble_eq_true rfl) dX1_lend_2 ⟨Nat.le_of_ble_eq_true rfl, Nat.le_of_ble_eq_true rfl⟩ (fun σ2 H locs hw hd => ?_)
  refine lv_aload_n hx hb dX1_lend_5 rfl (lv_at hl 0 rfl) ?_
  refine g_get (v := .ref (a 7)) C hd iX1_lend_X1 0 1 rfl rfl 7 (by decide) (List.mem_of_getElem? (i := 1) rfl) rfl dX1_lend_6 ?_
  refine lv_iload_n hx hb dX1_lend_9 rfl (lv_at hl 1 rfl) ?_
  refine lv_iload_n hx hb dX1_lend_10 rfl (lv_at hl 2 rfl) ?_
  obtain ⟨h3, hw⟩ := hw
  refine g_ist (f := hs_server σ2) C hd 7 rfl h3 (wX1 k a (hs_setServer σ2 (upd (hs_server σ2) p0.toNatClampNeg p1))) (wX1_stServer k a _ _) dX1_lend_11 (fun H locs hd => ?_)
  refine lv_aload_n hx hb dX1_lend_12 rfl (lv_at hl 0 rfl) ?_
  refine g_get (v := .ref (a 8)) C hd iX1_lend_X1 0 1 rfl rfl 8 (by decide) (List.mem_of_getElem? (i := 2) rfl) rfl dX1_lend_13 ?_
  refine lv_iload_n hx hb dX1_lend_16 rfl (lv_at hl 2 rfl) ?_
  refine lv_iload_n hx hb dX1_lend_17 rfl (lv_at hl 1 rfl) ?_
  obtain ⟨h4, hw⟩ := hw
  refine g_ist (f := hs_client σ2) C hd 8 rfl h4 (wX1 k a (hs_setClient (hs_setServer σ2 (upd (hs_server σ2) p0.toNatClampNeg p1)) (upd (hs_client σ2) p1.toNatClampNeg p0))) (wX1_stClient k a _ _) dX1_lend_18 (fun H locs hd => ?_)
  exact r_v C hd dX1_lend_19 (hs_setClient (hs_setServer σ2 (upd (hs_server σ2) p0.toNatClampNeg p1)) (upd (hs_client σ2) p1.toNatClampNeg p0)) rfl hw
abbrev rm_X1_moveTo : Room := { frames := 2, cells := 0, slots := 0, locals := 46 }
theorem M_X1_moveTo : MI yX1_moveTo wsX1_moveTo cX1_moveTo 2 none 1 := ⟨⟨_, rfl⟩, by decide +kernel, by decide +kernel, by decide +kernel, by decide +kernel⟩
theorem iX1_moveTo_X1 : ∀ w ∈ wsX10, w ∈ wsX1_moveTo := fun _ h => List.mem_cons_of_mem _ (List.mem_append_right _ h)
def wpX1_moveTo (σ : HS) (p0 : Int32) (post : HS → Prop) : Prop := wpX3_stepsBetween (hs_arm σ) p0 (fun r10 => post (hs_setArm (hs_setSteps σ ((hs_steps σ) + r10)) p0))
set_option maxHeartbeats 4000000 in
set_option maxRecDepth 100000 in
theorem c_X1_moveTo (l : Launch) (B : va_G) (k : KT) (a : Nat → Nat) (σ : HS) (p0 : Int32) (post : HS → Prop) (hw : wpX1_moveTo σ p0 post) : Ctv l yX1_moveTo wsX1_moveTo rm_X1_moveTo 0 0 B k [.ref (a 0), .int p0] (wX1 k a σ) (fun u => wX1 k a u) post := by
  refine Ctv.of M_X1_moveTo (Nat.le_of_ble_eq_true rfl) ?_
  intro p e s m args below meth c A C hd ls hl
  have hx := C.1; have hb := C.2.1; have hml := C.2.2.1; have hts := C.2.2.2.2.1
  have hl : lv_has ls 2 [(0, .ref (a 0)), (1, .int p0)] := hl
  rw [wpX1_moveTo] at hw
  refine lv_aload_n hx hb dX1_moveTo_0 rfl (lv_at hl 0 rfl) ?_
  refine lv_dup hx hb dX1_moveTo_1 rfl ?_
  refine g_get (v := .int (hs_steps σ)) C hd iX1_moveTo_X1 0 1 rfl rfl 10 (by decide) (List.mem_of_getElem? (i := 1) rfl) rfl dX1_moveTo_2 ?_
  refine lv_aload_n hx hb dX1_moveTo_5 rfl (lv_at hl 0 rfl) ?_
  refine g_get (v := .int (hs_arm σ)) C hd iX1_moveTo_X1 0 1 rfl rfl 9 (by decide) (List.mem_of_getElem? (i := 2) rfl) rfl dX1_moveTo_6 ?_
  refine lv_iload_n hx hb dX1_moveTo_9 rfl (lv_at hl 1 rfl) ?_
  refine n_i C hd hl M_X3_stepsBetween gX1_moveTo_X3_stepsBetween_n101 (List.mem_of_getElem? (i := 3) rfl) (List.mem_of_getElem? (i := 3) rfl) (List.mem_of_getElem? (i := 4) rfl) (c_X3_stepsBetween l B k (hs_arm σ) p0 _ hw) ⟨rfl, rfl⟩ ⟨Nat.le_of_ble_eq_true rfl, Nat.le_of_ble_eq_true rfl⟩ (pm_non _) (fun _ => wX1 k a σ) (fun _ => List.Perm.refl _) rfl rfl (Nat.le_of_ble_eq_true rfl) dX1_moveTo_10 ⟨Nat.le_of_ble_eq_true rfl, Nat.le_of_ble_eq_true rfl⟩ (fun r10 _ H locs hw hd => ?_)
  refine lv_iadd hx hb dX1_moveTo_13 ?_
  refine g_put C hd iX1_moveTo_X1 tyX1 tyX1_ok nmX1 0 1 rfl rfl 10 (by decide) (List.mem_of_getElem? (i := 1) rfl) rfl rfl rfl (Nat.le_of_ble_eq_true rfl) (wX1 k a (hs_setSteps σ ((hs_steps σ) + r10))) (wX1_putSteps k a _ _) dX1_moveTo_14 (fun H locs hd => ?_)
  refine lv_aload_n hx hb dX1_moveTo_17 rfl (lv_at hl 0 rfl) ?_
  refine lv_iload_n hx hb dX1_moveTo_18 rfl (lv_at hl 1 rfl) ?_
  refine g_put C hd iX1_moveTo_X1 tyX1 tyX1_ok nmX1 0 1 rfl rfl 9 (by decide) (List.mem_of_getElem? (i := 2) rfl) rfl rfl rfl (Nat.le_of_ble_eq_true rfl) (wX1 k a (hs_setArm (hs_setSteps σ ((hs_steps σ) + r10)) p0)) (wX1_putArm k a _ _) dX1_moveTo_19 (fun H locs hd => ?_)
  exact r_v C hd dX1_moveTo_22 (hs_setArm (hs_setSteps σ ((hs_steps σ) + r10)) p0) rfl hw
abbrev rm_X1_wearByWriting : Room := { frames := 1, cells := 0, slots := 0, locals := 20 }
theorem M_X1_wearByWriting : MI yX1_wearByWriting wsX1_wearByWriting cX1_wearByWriting 2 none 1 := ⟨⟨_, rfl⟩, by decide +kernel, by decide +kernel, by decide +kernel, by decide +kernel⟩
theorem iX1_wearByWriting_X1 : ∀ w ∈ wsX10, w ∈ wsX1_wearByWriting := fun _ h => List.mem_cons_of_mem _ (List.mem_append_right _ h)
def wpX1_wearByWriting (σ : HS) (p0 : Int32) (post : HS → Prop) : Prop := (vp_in p0 64 ∧ wpX3_headOf p0 (fun r13 => (vp_in r13 4 ∧ post (hs_setWear σ (upd (hs_wear σ) p0.toNatClampNeg (((hs_wear σ) p0.toNatClampNeg) + (2 * ((hs_ageing σ) r13.toNatClampNeg))))))))
set_option maxHeartbeats 4000000 in
set_option maxRecDepth 100000 in
theorem c_X1_wearByWriting (l : Launch) (B : va_G) (k : KT) (a : Nat → Nat) (σ : HS) (p0 : Int32) (post : HS → Prop) (hw : wpX1_wearByWriting σ p0 post) : Ctv l yX1_wearByWriting wsX1_wearByWriting rm_X1_wearByWriting 0 0 B k [.ref (a 0), .int p0] (wX1 k a σ) (fun u => wX1 k a u) post := by
  refine Ctv.of M_X1_wearByWriting (Nat.le_of_ble_eq_true rfl) ?_
  intro p e s m args below meth c A C hd ls hl
  have hx := C.1; have hb := C.2.1; have hml := C.2.2.1; have hts := C.2.2.2.2.1
  have hl : lv_has ls 2 [(0, .ref (a 0)), (1, .int p0)] := hl
  rw [wpX1_wearByWriting] at hw
  refine lv_aload_n hx hb dX1_wearByWriting_0 rfl (lv_at hl 0 rfl) ?_
  refine g_get (v := .ref (a 4)) C hd iX1_wearByWriting_X1 0 1 rfl rfl 4 (by decide) (List.mem_of_getElem? (i := 1) rfl) rfl dX1_wearByWriting_1 ?_
  refine lv_iload_n hx hb dX1_wearByWriting_4 rfl (lv_at hl 1 rfl) ?_
  refine lv_dup2_11 hx hb dX1_wearByWriting_5 rfl rfl ?_
  obtain ⟨h3, hw⟩ := hw
  refine g_ild (f := hs_wear σ) C hd 4 rfl h3 dX1_wearByWriting_6 ?_
  refine lv_iconst (v := 2) hx hb dX1_wearByWriting_7 (by decide) ?_
  refine lv_aload_n hx hb dX1_wearByWriting_8 rfl (lv_at hl 0 rfl) ?_
  refine g_get (v := .ref (a 1)) C hd iX1_wearByWriting_X1 0 1 rfl rfl 1 (by decide) (List.mem_of_getElem? (i := 2) rfl) rfl dX1_wearByWriting_9 ?_
  refine lv_iload_n hx hb dX1_wearByWriting_12 rfl (lv_at hl 1 rfl) ?_
  refine n_i C hd hl M_X3_headOf gX1_wearByWriting_X3_headOf_n80 (List.mem_of_getElem? (i := 2) rfl) (List.mem_of_getElem? (i := 3) rfl) (List.mem_of_getElem? (i := 4) rfl) (c_X3_headOf l B k p0 _ hw) ⟨rfl, rfl⟩ ⟨Nat.le_of_ble_eq_true rfl, Nat.le_of_ble_eq_true rfl⟩ (pm_non _) (fun _ => wX1 k a σ) (fun _ => List.Perm.refl _) rfl rfl (Nat.le_of_ble_eq_true rfl) dX1_wearByWriting_13 ⟨Nat.le_of_ble_eq_true rfl, Nat.le_of_ble_eq_true rfl⟩ (fun r13 _ H locs hw hd => ?_)
  obtain ⟨h4, hw⟩ := hw
  refine g_ild (f := hs_ageing σ) C hd 1 rfl h4 dX1_wearByWriting_16 ?_
  refine lv_imul hx hb dX1_wearByWriting_17 ?_
  refine lv_iadd hx hb dX1_wearByWriting_18 ?_
  refine g_ist (f := hs_wear σ) C hd 4 rfl h3 (wX1 k a (hs_setWear σ (upd (hs_wear σ) p0.toNatClampNeg (((hs_wear σ) p0.toNatClampNeg) + (2 * ((hs_ageing σ) r13.toNatClampNeg)))))) (wX1_stWear k a _ _) dX1_wearByWriting_19 (fun H locs hd => ?_)
  exact r_v C hd dX1_wearByWriting_20 (hs_setWear σ (upd (hs_wear σ) p0.toNatClampNeg (((hs_wear σ) p0.toNatClampNeg) + (2 * ((hs_ageing σ) r13.toNatClampNeg))))) rfl hw
abbrev rm_X1_lose : Room := { frames := 2, cells := 0, slots := 0, locals := 42 }
theorem M_X1_lose : MI yX1_lose wsX1_lose cX1_lose 2 none 1 := ⟨⟨_, rfl⟩, by decide +kernel, by decide +kernel, by decide +kernel, by decide +kernel⟩
theorem iX1_lose_X1 : ∀ w ∈ wsX10, w ∈ wsX1_lose := fun _ h => List.mem_cons_of_mem _ (List.mem_append_right _ h)
def wpX1_lose (σ : HS) (p0 : Int32) (post : HS → Prop) : Prop := wpX1_release σ p0 (fun σ2 => post (hs_setLosses σ2 ((hs_losses σ2) + 1)))
set_option maxHeartbeats 4000000 in
set_option maxRecDepth 100000 in
theorem c_X1_lose (l : Launch) (B : va_G) (k : KT) (a : Nat → Nat) (σ : HS) (p0 : Int32) (post : HS → Prop) (hw : wpX1_lose σ p0 post) : Ctv l yX1_lose wsX1_lose rm_X1_lose 0 0 B k [.ref (a 0), .int p0] (wX1 k a σ) (fun u => wX1 k a u) post := by
  refine Ctv.of M_X1_lose (Nat.le_of_ble_eq_true rfl) ?_
  intro p e s m args below meth c A C hd ls hl
  have hx := C.1; have hb := C.2.1; have hml := C.2.2.1; have hts := C.2.2.2.2.1
  have hl : lv_has ls 2 [(0, .ref (a 0)), (1, .int p0)] := hl
  rw [wpX1_lose] at hw
  refine lv_aload_n hx hb dX1_lose_0 rfl (lv_at hl 0 rfl) ?_
  refine lv_iload_n hx hb dX1_lose_1 rfl (lv_at hl 1 rfl) ?_
  refine v_v C hd hl M_X1_release gX1_lose_X1_release (c_X1_release l B k a σ p0 _ hw) ⟨rfl, rfl⟩ ⟨Nat.le_of_ble_eq_true rfl, Nat.le_of_ble_eq_true rfl⟩ (pm_all _) (fun u => wX1 k a u) (fun _ => (pm_all _).symm) 0 1 rfl rfl rfl rfl rfl (Nat.le_of_ble_eq_true rfl) dX1_lose_2 ⟨Nat.le_of_ble_eq_true rfl, Nat.le_of_ble_eq_true rfl⟩ (fun σ2 H locs hw hd => ?_)
  refine lv_aload_n hx hb dX1_lose_5 rfl (lv_at hl 0 rfl) ?_
  refine lv_dup hx hb dX1_lose_6 rfl ?_
  refine g_get (v := .int (hs_losses σ2)) C hd iX1_lose_X1 0 1 rfl rfl 12 (by decide) (List.mem_of_getElem? (i := 1) rfl) rfl dX1_lose_7 ?_
  refine lv_iconst (v := 1) hx hb dX1_lose_10 (by decide) ?_
  refine lv_iadd hx hb dX1_lose_11 ?_
  refine g_put C hd iX1_lose_X1 tyX1 tyX1_ok nmX1 0 1 rfl rfl 12 (by decide) (List.mem_of_getElem? (i := 1) rfl) rfl rfl rfl (Nat.le_of_ble_eq_true rfl) (wX1 k a (hs_setLosses σ2 ((hs_losses σ2) + 1))) (wX1_putLosses k a _ _) dX1_lose_12 (fun H locs hd => ?_)
  exact r_v C hd dX1_lose_15 (hs_setLosses σ2 ((hs_losses σ2) + 1)) rfl hw
abbrev rm_X1_lookAt : Room := { frames := 4, cells := 0, slots := 0, locals := 93 }
theorem M_X1_lookAt : MI yX1_lookAt wsX1_lookAt cX1_lookAt 4 none 1 := ⟨⟨_, rfl⟩, by decide +kernel, by decide +kernel, by decide +kernel, by decide +kernel⟩
theorem iX1_lookAt_X1 : ∀ w ∈ wsX10, w ∈ wsX1_lookAt := fun _ h => List.mem_cons_of_mem _ (List.mem_append_right _ h)
def wpX1_lookAt (σ : HS) (p0 : Int32) (post : HS → Prop) : Prop := (vp_in p0 64 ∧ wpX1_isGood σ ((hs_server σ) p0.toNatClampNeg) (fun b9 => ((b9 = true → post σ) ∧ (b9 = false → wpX1_lendableTo σ p0 (fun r18 => ((r18 = (-5) → wpX1_isBad σ ((hs_server σ) p0.toNatClampNeg) (fun b69 => ((b69 = true → wpX1_lose σ p0 (fun σ77 => post σ77)) ∧ (b69 = false → post σ)))) ∧ (¬ r18 = (-5) → wpX1_lend σ p0 r18 (fun σ31 => wpX1_moveTo σ31 r18 (fun σ36 => wpX1_wearByWriting σ36 r18 (fun σ41 => post (hs_setRescuesOf (hs_setRescues σ41 ((hs_rescues σ41) + 1)) (upd (hs_rescuesOf σ41) p0.toNatClampNeg (((hs_rescuesOf σ41) p0.toNatClampNeg) + 1)))))))))))))
set_option maxHeartbeats 4000000 in
set_option maxRecDepth 100000 in
theorem c_X1_lookAt (l : Launch) (B : va_G) (k : KT) (a : Nat → Nat) (σ : HS) (p0 : Int32) (post : HS → Prop) (hw : wpX1_lookAt σ p0 post) : Ctv l yX1_lookAt wsX1_lookAt rm_X1_lookAt 0 0 B k [.ref (a 0), .int p0] (wX1 k a σ) (fun u => wX1 k a u) post := by
  refine Ctv.of M_X1_lookAt (Nat.le_of_ble_eq_true rfl) ?_
  intro p e s m args below meth c A C hd ls hl
  have hx := C.1; have hb := C.2.1; have hml := C.2.2.1; have hts := C.2.2.2.2.1
  have hl : lv_has ls 4 [(0, .ref (a 0)), (1, .int p0)] := hl
  rw [wpX1_lookAt] at hw
  refine lv_aload_n hx hb dX1_lookAt_0 rfl (lv_at hl 0 rfl) ?_
  refine g_get (v := .ref (a 7)) C hd iX1_lookAt_X1 0 1 rfl rfl 7 (by decide) (List.mem_of_getElem? (i := 1) rfl) rfl dX1_lookAt_1 ?_
  refine lv_iload_n hx hb dX1_lookAt_4 rfl (lv_at hl 1 rfl) ?_
  obtain ⟨h2, hw⟩ := hw
  refine g_ild (f := hs_server σ) C hd 7 rfl h2 dX1_lookAt_5 ?_
  refine lv_istore_n (lv' := [(2, .int ((hs_server σ) p0.toNatClampNeg)), (0, .ref (a 0)), (1, .int p0)]) hx hb dX1_lookAt_6 rfl hl (by decide) rfl (fun ls hl => ?_)
  refine lv_aload_n hx hb dX1_lookAt_7 rfl (lv_at hl 1 rfl) ?_
  refine lv_iload_n hx hb dX1_lookAt_8 rfl (lv_at hl 0 rfl) ?_
  refine v_i C hd hl M_X1_isGood gX1_lookAt_X1_isGood (c_X1_isGood l B k a σ ((hs_server σ) p0.toNatClampNeg) _ hw) ⟨rfl, rfl⟩ ⟨Nat.le_of_ble_eq_true rfl, Nat.le_of_ble_eq_true rfl⟩ (pm_all _) (fun _ => wX1 k a σ) (fun _ => (pm_all _).symm) 0 1 rfl rfl rfl rfl rfl (Nat.le_of_ble_eq_true rfl) dX1_lookAt_9 ⟨Nat.le_of_ble_eq_true rfl, Nat.le_of_ble_eq_true rfl⟩ (fun r _ H locs hp hd => ?_)
  obtain ⟨b9, rfl, hw⟩ := hp
  refine lv_if_eq (tgt := 16) hx hb dX1_lookAt_12 (by decide) (fun c6 => ?_) (fun c6 => ?_)
  · replace hw := hw.2 ((bi_eq _).mp c6)
    refine lv_aload_n hx hb dX1_lookAt_16 rfl (lv_at hl 1 rfl) ?_
    refine lv_iload_n hx hb dX1_lookAt_17 rfl (lv_at hl 2 rfl) ?_
    refine v_i C hd hl M_X1_lendableTo gX1_lookAt_X1_lendableTo (c_X1_lendableTo l B k a σ p0 _ hw) ⟨rfl, rfl⟩ ⟨Nat.le_of_ble_eq_true rfl, Nat.le_of_ble_eq_true rfl⟩ (pm_all _) (fun _ => wX1 k a σ) (fun _ => (pm_all _).symm) 0 1 rfl rfl rfl rfl rfl (Nat.le_of_ble_eq_true rfl) dX1_lookAt_18 ⟨Nat.le_of_ble_eq_true rfl, Nat.le_of_ble_eq_true rfl⟩ (fun r18 _ H locs hw hd => ?_)
    refine lv_istore_n (lv' := [(3, .int r18), (2, .int ((hs_server σ) p0.toNatClampNeg)), (0, .ref (a 0)), (1, .int p0)]) hx hb dX1_lookAt_21 rfl hl (by decide) rfl (fun ls hl => ?_)
    refine lv_iload_n hx hb dX1_lookAt_22 rfl (lv_at hl 0 rfl) ?_
    refine lv_bipush (v := (-5)) hx hb dX1_lookAt_23 (by decide) ?_
    refine lv_icmp_eq (tgt := 67) hx hb dX1_lookAt_25 (by decide) (fun c4 => ?_) (fun c4 => ?_)
    · replace hw := hw.1 c4
      refine lv_aload_n hx hb dX1_lookAt_67 rfl (lv_at hl 2 rfl) ?_
      refine lv_iload_n hx hb dX1_lookAt_68 rfl (lv_at hl 1 rfl) ?_
      refine v_i C hd hl M_X1_isBad gX1_lookAt_X1_isBad (c_X1_isBad l B k a σ ((hs_server σ) p0.toNatClampNeg) _ hw) ⟨rfl, rfl⟩ ⟨Nat.le_of_ble_eq_true rfl, Nat.le_of_ble_eq_true rfl⟩ (pm_all _) (fun _ => wX1 k a σ) (fun _ => (pm_all _).symm) 0 1 rfl rfl rfl rfl rfl (Nat.le_of_ble_eq_true rfl) dX1_lookAt_69 ⟨Nat.le_of_ble_eq_true rfl, Nat.le_of_ble_eq_true rfl⟩ (fun r _ H locs hp hd => ?_)
      obtain ⟨b69, rfl, hw⟩ := hp
      refine lv_if_eq (tgt := 80) hx hb dX1_lookAt_72 (by decide) (fun c5 => ?_) (fun c5 => ?_)
      · replace hw := hw.2 ((bi_eq _).mp c5)
        exact r_v C hd dX1_lookAt_80 σ rfl hw
      · replace hw := hw.1 ((bi_ne _).mp c5)
        refine lv_aload_n hx hb dX1_lookAt_75 rfl (lv_at hl 2 rfl) ?_
        refine lv_iload_n hx hb dX1_lookAt_76 rfl (lv_at hl 3 rfl) ?_
        refine v_v C hd hl M_X1_lose gX1_lookAt_X1_lose (c_X1_lose l B k a σ p0 _ hw) ⟨rfl, rfl⟩ ⟨Nat.le_of_ble_eq_true rfl, Nat.le_of_ble_eq_true rfl⟩ (pm_all _) (fun u => wX1 k a u) (fun _ => (pm_all _).symm) 0 1 rfl rfl rfl rfl rfl (Nat.le_of_ble_eq_true rfl) dX1_lookAt_77 ⟨Nat.le_of_ble_eq_true rfl, Nat.le_of_ble_eq_true rfl⟩ (fun σ77 H locs hw hd => ?_)
        exact r_v C hd dX1_lookAt_80 σ77 rfl hw
    · replace hw := hw.2 c4
      refine lv_aload_n hx hb dX1_lookAt_28 rfl (lv_at hl 2 rfl) ?_
      refine lv_iload_n hx hb dX1_lookAt_29 rfl (lv_at hl 3 rfl) ?_
      refine lv_iload_n hx hb dX1_lookAt_30 rfl (lv_at hl 0 rfl) ?_
      refine v_v C hd hl M_X1_lend gX1_lookAt_X1_lend (c_X1_lend l B k a σ p0 r18 _ hw) ⟨rfl, rfl⟩ ⟨Nat.le_of_ble_eq_true rfl, Nat.le_of_ble_eq_true rfl⟩ (pm_all _) (fun u => wX1 k a u) (fun _ => (pm_all _).symm) 0 1 rfl rfl rfl rfl rfl (Nat.le_of_ble_eq_true rfl) dX1_lookAt_31 ⟨Nat.le_of_ble_eq_true rfl, Nat.le_of_ble_eq_true rfl⟩ (fun σ31 H locs hw hd => ?_)
      refine lv_aload_n hx hb dX1_lookAt_34 rfl (lv_at hl 2 rfl) ?_
      refine lv_iload_n hx hb dX1_lookAt_35 rfl (lv_at hl 0 rfl) ?_
      refine v_v C hd hl M_X1_moveTo gX1_lookAt_X1_moveTo (c_X1_moveTo l B k a σ31 r18 _ hw) ⟨rfl, rfl⟩ ⟨Nat.le_of_ble_eq_true rfl, Nat.le_of_ble_eq_true rfl⟩ (pm_all _) (fun u => wX1 k a u) (fun _ => (pm_all _).symm) 0 1 rfl rfl rfl rfl rfl (Nat.le_of_ble_eq_true rfl) dX1_lookAt_36 ⟨Nat.le_of_ble_eq_true rfl, Nat.le_of_ble_eq_true rfl⟩ (fun σ36 H locs hw hd => ?_)
      refine lv_aload_n hx hb dX1_lookAt_39 rfl (lv_at hl 2 rfl) ?_
      refine lv_iload_n hx hb dX1_lookAt_40 rfl (lv_at hl 0 rfl) ?_
      refine v_v C hd hl M_X1_wearByWriting gX1_lookAt_X1_wearByWriting (c_X1_wearByWriting l B k a σ36 r18 _ hw) ⟨rfl, rfl⟩ ⟨Nat.le_of_ble_eq_true rfl, Nat.le_of_ble_eq_true rfl⟩ (pm_all _) (fun u => wX1 k a u) (fun _ => (pm_all _).symm) 0 1 rfl rfl rfl rfl rfl (Nat.le_of_ble_eq_true rfl) dX1_lookAt_41 ⟨Nat.le_of_ble_eq_true rfl, Nat.le_of_ble_eq_true rfl⟩ (fun σ41 H locs hw hd => ?_)
      refine lv_aload_n hx hb dX1_lookAt_44 rfl (lv_at hl 2 rfl) ?_
      refine lv_dup hx hb dX1_lookAt_45 rfl ?_
      refine g_get (v := .int (hs_rescues σ41)) C hd iX1_lookAt_X1 0 1 rfl rfl 11 (by decide) (List.mem_of_getElem? (i := 2) rfl) rfl dX1_lookAt_46 ?_
      refine lv_iconst (v := 1) hx hb dX1_lookAt_49 (by decide) ?_
      refine lv_iadd hx hb dX1_lookAt_50 ?_
      refine g_put C hd iX1_lookAt_X1 tyX1 tyX1_ok nmX1 0 1 rfl rfl 11 (by decide) (List.mem_of_getElem? (i := 2) rfl) rfl rfl rfl (Nat.le_of_ble_eq_true rfl) (wX1 k a (hs_setRescues σ41 ((hs_rescues σ41) + 1))) (wX1_putRescues k a _ _) dX1_lookAt_51 (fun H locs hd => ?_)
      refine lv_aload_n hx hb dX1_lookAt_54 rfl (lv_at hl 2 rfl) ?_
      refine g_get (v := .ref (a 6)) C hd iX1_lookAt_X1 0 1 rfl rfl 6 (by decide) (List.mem_of_getElem? (i := 3) rfl) rfl dX1_lookAt_55 ?_
      refine lv_iload_n hx hb dX1_lookAt_58 rfl (lv_at hl 3 rfl) ?_
      refine lv_dup2_11 hx hb dX1_lookAt_59 rfl rfl ?_
      refine g_ild (f := hs_rescuesOf σ41) C hd 6 rfl h2 dX1_lookAt_60 ?_
      refine lv_iconst (v := 1) hx hb dX1_lookAt_61 (by decide) ?_
      refine lv_iadd hx hb dX1_lookAt_62 ?_
      refine g_ist (f := hs_rescuesOf σ41) C hd 6 rfl h2 (wX1 k a (hs_setRescuesOf (hs_setRescues σ41 ((hs_rescues σ41) + 1)) (upd (hs_rescuesOf σ41) p0.toNatClampNeg (((hs_rescuesOf σ41) p0.toNatClampNeg) + 1)))) (wX1_stRescuesOf k a _ _) dX1_lookAt_63 (fun H locs hd => ?_)
      refine lv_goto (tgt := 80) hx hb dX1_lookAt_64 (by decide) ?_
      exact r_v C hd dX1_lookAt_80 (hs_setRescuesOf (hs_setRescues σ41 ((hs_rescues σ41) + 1)) (upd (hs_rescuesOf σ41) p0.toNatClampNeg (((hs_rescuesOf σ41) p0.toNatClampNeg) + 1))) rfl hw
  · replace hw := hw.1 ((bi_ne _).mp c6)
    exact r_v C hd dX1_lookAt_15 σ rfl hw
abbrev rm_X1_readAt : Room := { frames := 5, cells := 0, slots := 0, locals := 116 }
theorem M_X1_readAt : MI yX1_readAt wsX1_readAt cX1_readAt 2 (some .int) 1 := ⟨⟨_, rfl⟩, by decide +kernel, by decide +kernel, by decide +kernel, by decide +kernel⟩
theorem iX1_readAt_X1 : ∀ w ∈ wsX10, w ∈ wsX1_readAt := fun _ h => List.mem_cons_of_mem _ (List.mem_append_right _ h)
def wpX1_readAt (σ : HS) (p0 : Int32) (post : Int32 → HS → Prop) : Prop := wpX1_isAddress σ p0 (fun b2 => ((b2 = true → wpX1_isLost σ p0 (fun b12 => ((b12 = true → post (-4) σ) ∧ (b12 = false → wpX1_goTo σ p0 (fun σ23 => (vp_in p0 64 ∧ wpX1_wearByReading σ23 ((hs_server σ23) p0.toNatClampNeg) (fun σ33 => wpX1_lookAt (hs_setReads σ33 ((hs_reads σ33) + 1)) p0 (fun σ48 => post ((hs_value σ48) p0.toNatClampNeg) σ48)))))))) ∧ (b2 = false → post (-1) σ)))
set_option maxHeartbeats 4000000 in
set_option maxRecDepth 100000 in
theorem c_X1_readAt (l : Launch) (B : va_G) (k : KT) (a : Nat → Nat) (σ : HS) (p0 : Int32) (post : Int32 → HS → Prop) (hw : wpX1_readAt σ p0 post) : Cti l yX1_readAt wsX1_readAt rm_X1_readAt 0 0 B k [.ref (a 0), .int p0] (wX1 k a σ) (fun u => wX1 k a u) post := by
  refine Cti.of M_X1_readAt (Nat.le_of_ble_eq_true rfl) ?_
  intro p e s m args below meth c A C hd ls hl
  have hx := C.1; have hb := C.2.1; have hml := C.2.2.1; have hts := C.2.2.2.2.1
  have hl : lv_has ls 2 [(0, .ref (a 0)), (1, .int p0)] := hl
  rw [wpX1_readAt] at hw
  refine lv_aload_n hx hb dX1_readAt_0 rfl (lv_at hl 0 rfl) ?_
  refine lv_iload_n hx hb dX1_readAt_1 rfl (lv_at hl 1 rfl) ?_
  refine v_i C hd hl M_X1_isAddress gX1_readAt_X1_isAddress (c_X1_isAddress l B k a σ p0 _ hw) ⟨rfl, rfl⟩ ⟨Nat.le_of_ble_eq_true rfl, Nat.le_of_ble_eq_true rfl⟩ (pm_all _) (fun _ => wX1 k a σ) (fun _ => (pm_all _).symm) 0 1 rfl rfl rfl rfl rfl (Nat.le_of_ble_eq_true rfl) dX1_readAt_2 ⟨Nat.le_of_ble_eq_true rfl, Nat.le_of_ble_eq_true rfl⟩ (fun r _ H locs hp hd => ?_)
  obtain ⟨b2, rfl, hw⟩ := hp
  refine lv_if_ne (tgt := 10) hx hb dX1_readAt_5 (by decide) (fun c4 => ?_) (fun c4 => ?_)
  · replace hw := hw.1 ((bi_ne _).mp c4)
    refine lv_aload_n hx hb dX1_readAt_10 rfl (lv_at hl 0 rfl) ?_
    refine lv_iload_n hx hb dX1_readAt_11 rfl (lv_at hl 1 rfl) ?_
    refine v_i C hd hl M_X1_isLost gX1_readAt_X1_isLost (c_X1_isLost l B k a σ p0 _ hw) ⟨rfl, rfl⟩ ⟨Nat.le_of_ble_eq_true rfl, Nat.le_of_ble_eq_true rfl⟩ (pm_all _) (fun _ => wX1 k a σ) (fun _ => (pm_all _).symm) 0 1 rfl rfl rfl rfl rfl (Nat.le_of_ble_eq_true rfl) dX1_readAt_12 ⟨Nat.le_of_ble_eq_true rfl, Nat.le_of_ble_eq_true rfl⟩ (fun r _ H locs hp hd => ?_)
    obtain ⟨b12, rfl, hw⟩ := hp
    refine lv_if_eq (tgt := 21) hx hb dX1_readAt_15 (by decide) (fun c3 => ?_) (fun c3 => ?_)
    · replace hw := hw.2 ((bi_eq _).mp c3)
      refine lv_aload_n hx hb dX1_readAt_21 rfl (lv_at hl 0 rfl) ?_
      refine lv_iload_n hx hb dX1_readAt_22 rfl (lv_at hl 1 rfl) ?_
      refine v_v C hd hl M_X1_goTo gX1_readAt_X1_goTo (c_X1_goTo l B k a σ p0 _ hw) ⟨rfl, rfl⟩ ⟨Nat.le_of_ble_eq_true rfl, Nat.le_of_ble_eq_true rfl⟩ (pm_all _) (fun u => wX1 k a u) (fun _ => (pm_all _).symm) 0 1 rfl rfl rfl rfl rfl (Nat.le_of_ble_eq_true rfl) dX1_readAt_23 ⟨Nat.le_of_ble_eq_true rfl, Nat.le_of_ble_eq_true rfl⟩ (fun σ23 H locs hw hd => ?_)
      refine lv_aload_n hx hb dX1_readAt_26 rfl (lv_at hl 0 rfl) ?_
      refine lv_aload_n hx hb dX1_readAt_27 rfl (lv_at hl 0 rfl) ?_
      refine g_get (v := .ref (a 7)) C hd iX1_readAt_X1 0 1 rfl rfl 7 (by decide) (List.mem_of_getElem? (i := 1) rfl) rfl dX1_readAt_28 ?_
      refine lv_iload_n hx hb dX1_readAt_31 rfl (lv_at hl 1 rfl) ?_
      obtain ⟨h2, hw⟩ := hw
      refine g_ild (f := hs_server σ23) C hd 7 rfl h2 dX1_readAt_32 ?_
      refine v_v C hd hl M_X1_wearByReading gX1_readAt_X1_wearByReading (c_X1_wearByReading l B k a σ23 ((hs_server σ23) p0.toNatClampNeg) _ hw) ⟨rfl, rfl⟩ ⟨Nat.le_of_ble_eq_true rfl, Nat.le_of_ble_eq_true rfl⟩ (pm_all _) (fun u => wX1 k a u) (fun _ => (pm_all _).symm) 0 1 rfl rfl rfl rfl rfl (Nat.le_of_ble_eq_true rfl) dX1_readAt_33 ⟨Nat.le_of_ble_eq_true rfl, Nat.le_of_ble_eq_true rfl⟩ (fun σ33 H locs hw hd => ?_)
      refine lv_aload_n hx hb dX1_readAt_36 rfl (lv_at hl 0 rfl) ?_
      refine lv_dup hx hb dX1_readAt_37 rfl ?_
      refine g_get (v := .int (hs_reads σ33)) C hd iX1_readAt_X1 0 1 rfl rfl 13 (by decide) (List.mem_of_getElem? (i := 2) rfl) rfl dX1_readAt_38 ?_
      refine lv_iconst (v := 1) hx hb dX1_readAt_41 (by decide) ?_
      refine lv_iadd hx hb dX1_readAt_42 ?_
      refine g_put C hd iX1_readAt_X1 tyX1 tyX1_ok nmX1 0 1 rfl rfl 13 (by decide) (List.mem_of_getElem? (i := 2) rfl) rfl rfl rfl (Nat.le_of_ble_eq_true rfl) (wX1 k a (hs_setReads σ33 ((hs_reads σ33) + 1))) (wX1_putReads k a _ _) dX1_readAt_43 (fun H locs hd => ?_)
      refine lv_aload_n hx hb dX1_readAt_46 rfl (lv_at hl 0 rfl) ?_
      refine lv_iload_n hx hb dX1_readAt_47 rfl (lv_at hl 1 rfl) ?_
      refine v_v C hd hl M_X1_lookAt gX1_readAt_X1_lookAt (c_X1_lookAt l B k a (hs_setReads σ33 ((hs_reads σ33) + 1)) p0 _ hw) ⟨rfl, rfl⟩ ⟨Nat.le_of_ble_eq_true rfl, Nat.le_of_ble_eq_true rfl⟩ (pm_all _) (fun u => wX1 k a u) (fun _ => (pm_all _).symm) 0 1 rfl rfl rfl rfl rfl (Nat.le_of_ble_eq_true rfl) dX1_readAt_48 ⟨Nat.le_of_ble_eq_true rfl, Nat.le_of_ble_eq_true rfl⟩ (fun σ48 H locs hw hd => ?_)
      refine lv_aload_n hx hb dX1_readAt_51 rfl (lv_at hl 0 rfl) ?_
      refine g_get (v := .ref (a 5)) C hd iX1_readAt_X1 0 1 rfl rfl 5 (by decide) (List.mem_of_getElem? (i := 3) rfl) rfl dX1_readAt_52 ?_
      refine lv_iload_n hx hb dX1_readAt_55 rfl (lv_at hl 1 rfl) ?_
      refine g_ild (f := hs_value σ48) C hd 5 rfl h2 dX1_readAt_56 ?_
      exact r_i C hd dX1_readAt_57 σ48 rfl hw
    · replace hw := hw.1 ((bi_ne _).mp c3)
      refine lv_bipush (v := (-4)) hx hb dX1_readAt_18 (by decide) ?_
      exact r_i C hd dX1_readAt_20 σ rfl hw
  · replace hw := hw.2 ((bi_eq _).mp c4)
    refine lv_iconst (v := (-1)) hx hb dX1_readAt_8 (by decide) ?_
    exact r_i C hd dX1_readAt_9 σ rfl hw
abbrev rm_X1_writeAt : Room := { frames := 5, cells := 0, slots := 0, locals := 116 }
theorem M_X1_writeAt : MI yX1_writeAt wsX1_writeAt cX1_writeAt 4 (some .int) 2 := ⟨⟨_, rfl⟩, by decide +kernel, by decide +kernel, by decide +kernel, by decide +kernel⟩
theorem iX1_writeAt_X1 : ∀ w ∈ wsX10, w ∈ wsX1_writeAt := fun _ h => List.mem_cons_of_mem _ (List.mem_append_right _ h)
def wpX1_writeAt_J53 (p0 : Int32) (p1 : Int32) (post : Int32 → HS → Prop) (σ53 : HS) : Prop := wpX1_goTo σ53 p0 (fun σ55 => (vp_in p0 64 ∧ wpX1_wearByWriting σ55 ((hs_server σ55) p0.toNatClampNeg) (fun σ65 => wpX1_lookAt (hs_setWrites (hs_setValue σ65 (upd (hs_value σ65) p0.toNatClampNeg p1)) ((hs_writes σ65) + 1)) p0 (fun σ87 => wpX1_isLost σ87 p0 (fun b92 => ((b92 = true → post 100 σ87) ∧ (b92 = false → post ((hs_server σ87) p0.toNatClampNeg) σ87)))))))
def wpX1_writeAt (σ : HS) (p0 : Int32) (p1 : Int32) (post : Int32 → HS → Prop) : Prop := wpX1_isAddress σ p0 (fun b2 => ((b2 = true → ((p1 < 0 → post (-2) σ) ∧ (¬ p1 < 0 → ((p1 ≤ 999 → wpX1_isLost σ p0 (fun b26 => ((b26 = true → wpX1_lendableTo σ p0 (fun r34 => ((r34 = (-5) → post (-4) σ) ∧ (¬ r34 = (-5) → wpX1_lend σ p0 r34 (fun σ50 => wpX1_writeAt_J53 p0 p1 post σ50))))) ∧ (b26 = false → wpX1_writeAt_J53 p0 p1 post σ)))) ∧ (¬ p1 ≤ 999 → post (-2) σ))))) ∧ (b2 = false → post (-1) σ)))
set_option maxHeartbeats 4000000 in
set_option maxRecDepth 100000 in
theorem c_X1_writeAt (l : Launch) (B : va_G) (k : KT) (a : Nat → Nat) (σ : HS) (p0 : Int32) (p1 : Int32) (post : Int32 → HS → Prop) (hw : wpX1_writeAt σ p0 p1 post) : Cti l yX1_writeAt wsX1_writeAt rm_X1_writeAt 0 0 B k [.ref (a 0), .int p0, .int p1] (wX1 k a σ) (fun u => wX1 k a u) post := by
  refine Cti.of M_X1_writeAt (Nat.le_of_ble_eq_true rfl) ?_
  intro p e s m args below meth c A C hd ls hl
  have hx := C.1; have hb := C.2.1; have hml := C.2.2.1; have hts := C.2.2.2.2.1
  have hl : lv_has ls 4 [(0, .ref (a 0)), (1, .int p0), (2, .int p1)] := hl
  have J53 : ∀ (σ53 : HS) (H : Heap) (locs : List Loc) (ls : Array Slot), Wd B A s.heap (wX1 k a σ53) H locs → lv_has ls 4 [(0, .ref (a 0)), (1, .int p0), (2, .int p1)] → wpX1_writeAt_J53 p0 p1 post σ53 → W p l e rm_X1_writeAt s m args below meth c H locs 0 0 (Qi below args s B A (fun u => wX1 k a u) post 0 0) (F0 m 53 ls []) := by
    intro σ53 H locs ls hd hl hw
    rw [wpX1_writeAt_J53] at hw
    refine lv_aload_n hx hb dX1_writeAt_53 rfl (lv_at hl 0 rfl) ?_
    refine lv_iload_n hx hb dX1_writeAt_54 rfl (lv_at hl 1 rfl) ?_
    refine v_v C hd hl M_X1_goTo gX1_writeAt_X1_goTo (c_X1_goTo l B k a σ53 p0 _ hw) ⟨rfl, rfl⟩ ⟨Nat.le_of_ble_eq_true rfl, Nat.le_of_ble_eq_true rfl⟩ (pm_all _) (fun u => wX1 k a u) (fun _ => (pm_all _).symm) 0 1 rfl rfl rfl rfl rfl (Nat.le_of_ble_eq_true rfl) dX1_writeAt_55 ⟨Nat.le_of_ble_eq_true rfl, Nat.le_of_ble_eq_true rfl⟩ (fun σ55 H locs hw hd => ?_)
    refine lv_aload_n hx hb dX1_writeAt_58 rfl (lv_at hl 0 rfl) ?_
    refine lv_aload_n hx hb dX1_writeAt_59 rfl (lv_at hl 0 rfl) ?_
    refine g_get (v := .ref (a 7)) C hd iX1_writeAt_X1 0 1 rfl rfl 7 (by decide) (List.mem_of_getElem? (i := 1) rfl) rfl dX1_writeAt_60 ?_
    refine lv_iload_n hx hb dX1_writeAt_63 rfl (lv_at hl 1 rfl) ?_
    obtain ⟨h5, hw⟩ := hw
    refine g_ild (f := hs_server σ55) C hd 7 rfl h5 dX1_writeAt_64 ?_
    refine v_v C hd hl M_X1_wearByWriting gX1_writeAt_X1_wearByWriting (c_X1_wearByWriting l B k a σ55 ((hs_server σ55) p0.toNatClampNeg) _ hw) ⟨rfl, rfl⟩ ⟨Nat.le_of_ble_eq_true rfl, Nat.le_of_ble_eq_true rfl⟩ (pm_all _) (fun u => wX1 k a u) (fun _ => (pm_all _).symm) 0 1 rfl rfl rfl rfl rfl (Nat.le_of_ble_eq_true rfl) dX1_writeAt_65 ⟨Nat.le_of_ble_eq_true rfl, Nat.le_of_ble_eq_true rfl⟩ (fun σ65 H locs hw hd => ?_)
    refine lv_aload_n hx hb dX1_writeAt_68 rfl (lv_at hl 0 rfl) ?_
    refine g_get (v := .ref (a 5)) C hd iX1_writeAt_X1 0 1 rfl rfl 5 (by decide) (List.mem_of_getElem? (i := 2) rfl) rfl dX1_writeAt_69 ?_
    refine lv_iload_n hx hb dX1_writeAt_72 rfl (lv_at hl 1 rfl) ?_
    refine lv_iload_n hx hb dX1_writeAt_73 rfl (lv_at hl 2 rfl) ?_
    refine g_ist (f := hs_value σ65) C hd 5 rfl h5 (wX1 k a (hs_setValue σ65 (upd (hs_value σ65) p0.toNatClampNeg p1))) (wX1_stValue k a _ _) dX1_writeAt_74 (fun H locs hd => ?_)
    refine lv_aload_n hx hb dX1_writeAt_75 rfl (lv_at hl 0 rfl) ?_
    refine lv_dup hx hb dX1_writeAt_76 rfl ?_
    refine g_get (v := .int (hs_writes σ65)) C hd iX1_writeAt_X1 0 1 rfl rfl 14 (by decide) (List.mem_of_getElem? (i := 3) rfl) rfl dX1_writeAt_77 ?_
    refine lv_iconst (v := 1) hx hb dX1_writeAt_80 (by decide) ?_
    refine lv_iadd hx hb dX1_writeAt_81 ?_
    refine g_put C hd iX1_writeAt_X1 tyX1 tyX1_ok nmX1 0 1 rfl rfl 14 (by decide) (List.mem_of_getElem? (i := 3) rfl) rfl rfl rfl (Nat.le_of_ble_eq_true rfl) (wX1 k a (hs_setWrites (hs_setValue σ65 (upd (hs_value σ65) p0.toNatClampNeg p1)) ((hs_writes σ65) + 1))) (wX1_putWrites k a _ _) dX1_writeAt_82 (fun H locs hd => ?_)
    refine lv_aload_n hx hb dX1_writeAt_85 rfl (lv_at hl 0 rfl) ?_
    refine lv_iload_n hx hb dX1_writeAt_86 rfl (lv_at hl 1 rfl) ?_
    refine v_v C hd hl M_X1_lookAt gX1_writeAt_X1_lookAt (c_X1_lookAt l B k a (hs_setWrites (hs_setValue σ65 (upd (hs_value σ65) p0.toNatClampNeg p1)) ((hs_writes σ65) + 1)) p0 _ hw) ⟨rfl, rfl⟩ ⟨Nat.le_of_ble_eq_true rfl, Nat.le_of_ble_eq_true rfl⟩ (pm_all _) (fun u => wX1 k a u) (fun _ => (pm_all _).symm) 0 1 rfl rfl rfl rfl rfl (Nat.le_of_ble_eq_true rfl) dX1_writeAt_87 ⟨Nat.le_of_ble_eq_true rfl, Nat.le_of_ble_eq_true rfl⟩ (fun σ87 H locs hw hd => ?_)
    refine lv_aload_n hx hb dX1_writeAt_90 rfl (lv_at hl 0 rfl) ?_
    refine lv_iload_n hx hb dX1_writeAt_91 rfl (lv_at hl 1 rfl) ?_
    refine v_i C hd hl M_X1_isLost gX1_writeAt_X1_isLost (c_X1_isLost l B k a σ87 p0 _ hw) ⟨rfl, rfl⟩ ⟨Nat.le_of_ble_eq_true rfl, Nat.le_of_ble_eq_true rfl⟩ (pm_all _) (fun _ => wX1 k a σ87) (fun _ => (pm_all _).symm) 0 1 rfl rfl rfl rfl rfl (Nat.le_of_ble_eq_true rfl) dX1_writeAt_92 ⟨Nat.le_of_ble_eq_true rfl, Nat.le_of_ble_eq_true rfl⟩ (fun r _ H locs hp hd => ?_)
    obtain ⟨b92, rfl, hw⟩ := hp
    refine lv_if_eq (tgt := 103) hx hb dX1_writeAt_95 (by decide) (fun c10 => ?_) (fun c10 => ?_)
    · replace hw := hw.2 ((bi_eq _).mp c10)
      refine lv_aload_n hx hb dX1_writeAt_103 rfl (lv_at hl 0 rfl) ?_
      refine g_get (v := .ref (a 7)) C hd iX1_writeAt_X1 0 1 rfl rfl 7 (by decide) (List.mem_of_getElem? (i := 1) rfl) rfl dX1_writeAt_104 ?_
      refine lv_iload_n hx hb dX1_writeAt_107 rfl (lv_at hl 1 rfl) ?_
      refine g_ild (f := hs_server σ87) C hd 7 rfl h5 dX1_writeAt_108 ?_
      exact r_i C hd dX1_writeAt_109 σ87 rfl hw
    · replace hw := hw.1 ((bi_ne _).mp c10)
      refine lv_bipush (v := 100) hx hb dX1_writeAt_98 (by decide) ?_
      refine lv_goto (tgt := 109) hx hb dX1_writeAt_100 (by decide) ?_
      exact r_i C hd dX1_writeAt_109 σ87 rfl hw
  rw [wpX1_writeAt] at hw
  refine lv_aload_n hx hb dX1_writeAt_0 rfl (lv_at hl 0 rfl) ?_
  refine lv_iload_n hx hb dX1_writeAt_1 rfl (lv_at hl 1 rfl) ?_
  refine v_i C hd hl M_X1_isAddress gX1_writeAt_X1_isAddress (c_X1_isAddress l B k a σ p0 _ hw) ⟨rfl, rfl⟩ ⟨Nat.le_of_ble_eq_true rfl, Nat.le_of_ble_eq_true rfl⟩ (pm_all _) (fun _ => wX1 k a σ) (fun _ => (pm_all _).symm) 0 1 rfl rfl rfl rfl rfl (Nat.le_of_ble_eq_true rfl) dX1_writeAt_2 ⟨Nat.le_of_ble_eq_true rfl, Nat.le_of_ble_eq_true rfl⟩ (fun r _ H locs hp hd => ?_)
  obtain ⟨b2, rfl, hw⟩ := hp
  refine lv_if_ne (tgt := 10) hx hb dX1_writeAt_5 (by decide) (fun c15 => ?_) (fun c15 => ?_)
  · replace hw := hw.1 ((bi_ne _).mp c15)
    refine lv_iload_n hx hb dX1_writeAt_10 rfl (lv_at hl 2 rfl) ?_
    refine lv_if_lt (tgt := 21) hx hb dX1_writeAt_11 (by decide) (fun c11 => ?_) (fun c11 => ?_)
    · replace hw := hw.1 c11
      refine lv_bipush (v := (-2)) hx hb dX1_writeAt_21 (by decide) ?_
      exact r_i C hd dX1_writeAt_23 σ rfl hw
    · replace hw := hw.2 c11
      refine lv_iload_n hx hb dX1_writeAt_14 rfl (lv_at hl 2 rfl) ?_
      refine lv_sipush (v := 999) hx hb dX1_writeAt_15 (by decide) ?_
      refine lv_icmp_le (tgt := 24) hx hb dX1_writeAt_18 (by decide) (fun c12 => ?_) (fun c12 => ?_)
      · replace hw := hw.1 c12
        refine lv_aload_n hx hb dX1_writeAt_24 rfl (lv_at hl 0 rfl) ?_
        refine lv_iload_n hx hb dX1_writeAt_25 rfl (lv_at hl 1 rfl) ?_
        refine v_i C hd hl M_X1_isLost gX1_writeAt_X1_isLost (c_X1_isLost l B k a σ p0 _ hw) ⟨rfl, rfl⟩ ⟨Nat.le_of_ble_eq_true rfl, Nat.le_of_ble_eq_true rfl⟩ (pm_all _) (fun _ => wX1 k a σ) (fun _ => (pm_all _).symm) 0 1 rfl rfl rfl rfl rfl (Nat.le_of_ble_eq_true rfl) dX1_writeAt_26 ⟨Nat.le_of_ble_eq_true rfl, Nat.le_of_ble_eq_true rfl⟩ (fun r _ H locs hp hd => ?_)
        obtain ⟨b26, rfl, hw⟩ := hp
        refine lv_if_eq (tgt := 53) hx hb dX1_writeAt_29 (by decide) (fun c14 => ?_) (fun c14 => ?_)
        · replace hw := hw.2 ((bi_eq _).mp c14)
          exact J53 σ _ _ _ hd (lv_sub hl [0, 1, 2] rfl) hw
        · replace hw := hw.1 ((bi_ne _).mp c14)
          refine lv_aload_n hx hb dX1_writeAt_32 rfl (lv_at hl 0 rfl) ?_
          refine lv_iload_n hx hb dX1_writeAt_33 rfl (lv_at hl 1 rfl) ?_
          refine v_i C hd hl M_X1_lendableTo gX1_writeAt_X1_lendableTo (c_X1_lendableTo l B k a σ p0 _ hw) ⟨rfl, rfl⟩ ⟨Nat.le_of_ble_eq_true rfl, Nat.le_of_ble_eq_true rfl⟩ (pm_all _) (fun _ => wX1 k a σ) (fun _ => (pm_all _).symm) 0 1 rfl rfl rfl rfl rfl (Nat.le_of_ble_eq_true rfl) dX1_writeAt_34 ⟨Nat.le_of_ble_eq_true rfl, Nat.le_of_ble_eq_true rfl⟩ (fun r34 _ H locs hw hd => ?_)
          refine lv_istore_n (lv' := [(3, .int r34), (0, .ref (a 0)), (1, .int p0), (2, .int p1)]) hx hb dX1_writeAt_37 rfl hl (by decide) rfl (fun ls hl => ?_)
          refine lv_iload_n hx hb dX1_writeAt_38 rfl (lv_at hl 0 rfl) ?_
          refine lv_bipush (v := (-5)) hx hb dX1_writeAt_39 (by decide) ?_
          refine lv_icmp_ne (tgt := 47) hx hb dX1_writeAt_41 (by decide) (fun c13 => ?_) (fun c13 => ?_)
          · replace hw := hw.2 c13
            refine lv_aload_n hx hb dX1_writeAt_47 rfl (lv_at hl 1 rfl) ?_
            refine lv_iload_n hx hb dX1_writeAt_48 rfl (lv_at hl 2 rfl) ?_
            refine lv_iload_n hx hb dX1_writeAt_49 rfl (lv_at hl 0 rfl) ?_
            refine v_v C hd hl M_X1_lend gX1_writeAt_X1_lend (c_X1_lend l B k a σ p0 r34 _ hw) ⟨rfl, rfl⟩ ⟨Nat.le_of_ble_eq_true rfl, Nat.le_of_ble_eq_true rfl⟩ (pm_all _) (fun u => wX1 k a u) (fun _ => (pm_all _).symm) 0 1 rfl rfl rfl rfl rfl (Nat.le_of_ble_eq_true rfl) dX1_writeAt_50 ⟨Nat.le_of_ble_eq_true rfl, Nat.le_of_ble_eq_true rfl⟩ (fun σ50 H locs hw hd => ?_)
            exact J53 σ50 _ _ _ hd (lv_sub hl [1, 2, 3] rfl) hw
          · replace hw := hw.1 c13
            refine lv_bipush (v := (-4)) hx hb dX1_writeAt_44 (by decide) ?_
            exact r_i C hd dX1_writeAt_46 σ rfl hw
      · replace hw := hw.2 c12
        refine lv_bipush (v := (-2)) hx hb dX1_writeAt_21 (by decide) ?_
        exact r_i C hd dX1_writeAt_23 σ rfl hw
  · replace hw := hw.2 ((bi_eq _).mp c15)
    refine lv_iconst (v := (-1)) hx hb dX1_writeAt_8 (by decide) ?_
    exact r_i C hd dX1_writeAt_9 σ rfl hw
abbrev rm_X1_copyRow : Room := { frames := 6, cells := 0, slots := 0, locals := 139 }
theorem M_X1_copyRow : MI yX1_copyRow wsX1_copyRow cX1_copyRow 6 (some .int) 3 := ⟨⟨_, rfl⟩, by decide +kernel, by decide +kernel, by decide +kernel, by decide +kernel⟩
theorem iX1_copyRow_X1 : ∀ w ∈ wsX10, w ∈ wsX1_copyRow := fun _ h => List.mem_cons_of_mem _ (List.mem_append_right _ h)
def wpX1_copyRow_L3 (p0 : Int32) (p1 : Int32) (p2 : Int32) (post : Int32 → HS → Prop) : Nat → Int32 → HS → Prop
  | 0, _, _ => False
  | n3 + 1, v3l4, σ3 => ((p2 ≤ v3l4 → post p2 σ3) ∧ (¬ p2 ≤ v3l4 → wpX1_readAt σ3 (p0 + v3l4) (fun r14 σ14 => ((r14 < 0 → post v3l4 σ14) ∧ (¬ r14 < 0 → wpX1_writeAt σ14 (p1 + v3l4) r14 (fun r31 σ31 => ((0 ≤ r31 → wpX1_copyRow_L3 p0 p1 p2 post n3 (v3l4 + 1) σ31) ∧ (¬ 0 ≤ r31 → post v3l4 σ31))))))))
def wpX1_copyRow (σ : HS) (p0 : Int32) (p1 : Int32) (p2 : Int32) (post : Int32 → HS → Prop) : Prop := ∃ n3 : Nat, wpX1_copyRow_L3 p0 p1 p2 post n3 0 σ
set_option maxHeartbeats 4000000 in
set_option maxRecDepth 100000 in
theorem c_X1_copyRow (l : Launch) (B : va_G) (k : KT) (a : Nat → Nat) (σ : HS) (p0 : Int32) (p1 : Int32) (p2 : Int32) (post : Int32 → HS → Prop) (hw : wpX1_copyRow σ p0 p1 p2 post) : Cti l yX1_copyRow wsX1_copyRow rm_X1_copyRow 0 0 B k [.ref (a 0), .int p0, .int p1, .int p2] (wX1 k a σ) (fun u => wX1 k a u) post := by
  refine Cti.of M_X1_copyRow (Nat.le_of_ble_eq_true rfl) ?_
  intro p e s m args below meth c A C hd ls hl
  have hx := C.1; have hb := C.2.1; have hml := C.2.2.1; have hts := C.2.2.2.2.1
  have hl : lv_has ls 6 [(0, .ref (a 0)), (1, .int p0), (2, .int p1), (3, .int p2)] := hl
  have L3 : ∀ (n3 : Nat), ∀ (v3l4 : Int32) (σ3 : HS) (H : Heap) (locs : List Loc) (ls : Array Slot), Wd B A s.heap (wX1 k a σ3) H locs → lv_has ls 6 [(0, .ref (a 0)), (1, .int p0), (2, .int p1), (3, .int p2), (4, .int v3l4)] → wpX1_copyRow_L3 p0 p1 p2 post n3 v3l4 σ3 → W p l e rm_X1_copyRow s m args below meth c H locs 0 0 (Qi below args s B A (fun u => wX1 k a u) post 0 0) (F0 m 3 ls []) := by
    intro n3
    induction n3 with
    | zero => intro v3l4 σ3 H locs ls hd hl hw; exact absurd hw (by simp [wpX1_copyRow_L3])
    | succ n3 ih3 =>
      intro v3l4 σ3 H locs ls hd hl hw
      rw [wpX1_copyRow_L3] at hw
      refine lv_iload hx hb dX1_copyRow_3 (lv_at hl 4 rfl) ?_
      refine lv_iload_n hx hb dX1_copyRow_5 rfl (lv_at hl 3 rfl) ?_
      refine lv_icmp_ge (tgt := 46) hx hb dX1_copyRow_6 (by decide) (fun c13 => ?_) (fun c13 => ?_)
      · replace hw := hw.1 c13
        refine lv_iload_n hx hb dX1_copyRow_46 rfl (lv_at hl 3 rfl) ?_
        exact r_i C hd dX1_copyRow_47 σ3 rfl hw
      · replace hw := hw.2 c13
        refine lv_aload_n hx hb dX1_copyRow_9 rfl (lv_at hl 0 rfl) ?_
        refine lv_iload_n hx hb dX1_copyRow_10 rfl (lv_at hl 1 rfl) ?_
        refine lv_iload hx hb dX1_copyRow_11 (lv_at hl 4 rfl) ?_
        refine lv_iadd hx hb dX1_copyRow_13 ?_
        refine v_i C hd hl M_X1_readAt gX1_copyRow_X1_readAt (c_X1_readAt l B k a σ3 (p0 + v3l4) _ hw) ⟨rfl, rfl⟩ ⟨Nat.le_of_ble_eq_true rfl, Nat.le_of_ble_eq_true rfl⟩ (pm_all _) (fun u => wX1 k a u) (fun _ => (pm_all _).symm) 0 1 rfl rfl rfl rfl rfl (Nat.le_of_ble_eq_true rfl) dX1_copyRow_14 ⟨Nat.le_of_ble_eq_true rfl, Nat.le_of_ble_eq_true rfl⟩ (fun r14 σ14 H locs hw hd => ?_)
        refine lv_istore (lv' := [(5, .int r14), (0, .ref (a 0)), (1, .int p0), (2, .int p1), (3, .int p2), (4, .int v3l4)]) hx hb dX1_copyRow_17 hl (by decide) rfl (fun ls hl => ?_)
        refine lv_iload hx hb dX1_copyRow_19 (lv_at hl 0 rfl) ?_
        refine lv_if_lt (tgt := 37) hx hb dX1_copyRow_21 (by decide) (fun c14 => ?_) (fun c14 => ?_)
        · replace hw := hw.1 c14
          refine lv_iload hx hb dX1_copyRow_37 (lv_at hl 5 rfl) ?_
          exact r_i C hd dX1_copyRow_39 σ14 rfl hw
        · replace hw := hw.2 c14
          refine lv_aload_n hx hb dX1_copyRow_24 rfl (lv_at hl 1 rfl) ?_
          refine lv_iload_n hx hb dX1_copyRow_25 rfl (lv_at hl 3 rfl) ?_
          refine lv_iload hx hb dX1_copyRow_26 (lv_at hl 5 rfl) ?_
          refine lv_iadd hx hb dX1_copyRow_28 ?_
          refine lv_iload hx hb dX1_copyRow_29 (lv_at hl 0 rfl) ?_
          refine v_i C hd hl M_X1_writeAt gX1_copyRow_X1_writeAt (c_X1_writeAt l B k a σ14 (p1 + v3l4) r14 _ hw) ⟨rfl, rfl⟩ ⟨Nat.le_of_ble_eq_true rfl, Nat.le_of_ble_eq_true rfl⟩ (pm_all _) (fun u => wX1 k a u) (fun _ => (pm_all _).symm) 0 1 rfl rfl rfl rfl rfl (Nat.le_of_ble_eq_true rfl) dX1_copyRow_31 ⟨Nat.le_of_ble_eq_true rfl, Nat.le_of_ble_eq_true rfl⟩ (fun r31 σ31 H locs hw hd => ?_)
          refine lv_if_ge (tgt := 40) hx hb dX1_copyRow_34 (by decide) (fun c15 => ?_) (fun c15 => ?_)
          · replace hw := hw.1 c15
            refine lv_iinc (v := v3l4 + 1) (lv' := [(4, .int (v3l4 + 1)), (5, .int r14), (0, .ref (a 0)), (1, .int p0), (2, .int p1), (3, .int p2)]) hx hb dX1_copyRow_40 hl (k := 5) rfl rfl (by decide) rfl (fun ls hl => ?_)
            refine lv_goto (tgt := 3) hx hb dX1_copyRow_43 (by decide) ?_
            exact ih3 (v3l4 + 1) σ31 _ _ _ hd (lv_sub hl [2, 3, 4, 5, 0] rfl) hw
          · replace hw := hw.2 c15
            refine lv_iload hx hb dX1_copyRow_37 (lv_at hl 5 rfl) ?_
            exact r_i C hd dX1_copyRow_39 σ31 rfl hw
  rw [wpX1_copyRow] at hw
  refine lv_iconst (v := 0) hx hb dX1_copyRow_0 (by decide) ?_
  refine lv_istore (lv' := [(4, .int 0), (0, .ref (a 0)), (1, .int p0), (2, .int p1), (3, .int p2)]) hx hb dX1_copyRow_1 hl (by decide) rfl (fun ls hl => ?_)
  obtain ⟨n, hw⟩ := hw
  exact L3 n 0 σ _ _ _ hd (lv_sub hl [1, 2, 3, 4, 0] rfl) hw
abbrev rm_X1_lostOf : Room := { frames := 1, cells := 0, slots := 0, locals := 21 }
theorem M_X1_lostOf : MI yX1_lostOf wsX1_lostOf cX1_lostOf 4 (some .int) 1 := ⟨⟨_, rfl⟩, by decide +kernel, by decide +kernel, by decide +kernel, by decide +kernel⟩
theorem iX1_lostOf_X1 : ∀ w ∈ wsX10, w ∈ wsX1_lostOf := fun _ h => List.mem_cons_of_mem _ (List.mem_append_right _ h)
def wpX1_lostOf_L4 (σ : HS) (p0 : Int32) (post : Int32 → Prop) : Nat → Int32 → Int32 → Prop
  | 0, _, _ => False
  | n4 + 1, v4l2, v4l3 => (vp_in p0 4 ∧ (((16 - ((hs_spares σ) p0.toNatClampNeg)) ≤ v4l3 → post v4l2) ∧ (¬ (16 - ((hs_spares σ) p0.toNatClampNeg)) ≤ v4l3 → wpX1_isLost σ ((p0 * 16) + v4l3) (fun b24 => ((b24 = true → wpX1_lostOf_L4 σ p0 post n4 (v4l2 + 1) (v4l3 + 1)) ∧ (b24 = false → wpX1_lostOf_L4 σ p0 post n4 v4l2 (v4l3 + 1)))))))
def wpX1_lostOf (σ : HS) (p0 : Int32) (post : Int32 → Prop) : Prop := ∃ n4 : Nat, wpX1_lostOf_L4 σ p0 post n4 0 0
set_option maxHeartbeats 4000000 in
set_option maxRecDepth 100000 in
theorem c_X1_lostOf (l : Launch) (B : va_G) (k : KT) (a : Nat → Nat) (σ : HS) (p0 : Int32) (post : Int32 → Prop) (hw : wpX1_lostOf σ p0 post) : Cti l yX1_lostOf wsX1_lostOf rm_X1_lostOf 0 0 B k [.ref (a 0), .int p0] (wX1 k a σ) (fun _ : Unit => wX1 k a σ) (fun r _ => post r) := by
  refine Cti.of M_X1_lostOf (Nat.le_of_ble_eq_true rfl) ?_
  intro p e s m args below meth c A C hd ls hl
  have hx := C.1; have hb := C.2.1; have hml := C.2.2.1; have hts := C.2.2.2.2.1
  have hl : lv_has ls 4 [(0, .ref (a 0)), (1, .int p0)] := hl
  have L4 : ∀ (n4 : Nat), ∀ (v4l2 : Int32) (v4l3 : Int32) (H : Heap) (locs : List Loc) (ls : Array Slot), Wd B A s.heap (wX1 k a σ) H locs → lv_has ls 4 [(0, .ref (a 0)), (1, .int p0), (2, .int v4l2), (3, .int v4l3)] → wpX1_lostOf_L4 σ p0 post n4 v4l2 v4l3 → W p l e rm_X1_lostOf s m args below meth c H locs 0 0 (Qi below args s B A (fun _ : Unit => wX1 k a σ) (fun r _ => post r) 0 0) (F0 m 4 ls []) := by
    intro n4
    induction n4 with
    | zero => intro v4l2 v4l3 H locs ls hd hl hw; exact absurd hw (by simp [wpX1_lostOf_L4])
    | succ n4 ih4 =>
      intro v4l2 v4l3 H locs ls hd hl hw
      rw [wpX1_lostOf_L4] at hw
      refine lv_iload_n hx hb dX1_lostOf_4 rfl (lv_at hl 3 rfl) ?_
      refine lv_bipush (v := 16) hx hb dX1_lostOf_5 (by decide) ?_
      refine lv_aload_n hx hb dX1_lostOf_7 rfl (lv_at hl 0 rfl) ?_
      refine g_get (v := .ref (a 2)) C hd iX1_lostOf_X1 0 1 rfl rfl 2 (by decide) (List.mem_of_getElem? (i := 1) rfl) rfl dX1_lostOf_8 ?_
      refine lv_iload_n hx hb dX1_lostOf_11 rfl (lv_at hl 1 rfl) ?_
      obtain ⟨h5, hw⟩ := hw
      refine g_ild (f := hs_spares σ) C hd 2 rfl h5 dX1_lostOf_12 ?_
      refine lv_isub hx hb dX1_lostOf_13 ?_
      refine lv_icmp_ge (tgt := 39) hx hb dX1_lostOf_14 (by decide) (fun c9 => ?_) (fun c9 => ?_)
      · replace hw := hw.1 c9
        refine lv_iload_n hx hb dX1_lostOf_39 rfl (lv_at hl 2 rfl) ?_
        exact r_i C hd dX1_lostOf_40 () rfl hw
      · replace hw := hw.2 c9
        refine lv_aload_n hx hb dX1_lostOf_17 rfl (lv_at hl 0 rfl) ?_
        refine lv_iload_n hx hb dX1_lostOf_18 rfl (lv_at hl 1 rfl) ?_
        refine lv_bipush (v := 16) hx hb dX1_lostOf_19 (by decide) ?_
        refine lv_imul hx hb dX1_lostOf_21 ?_
        refine lv_iload_n hx hb dX1_lostOf_22 rfl (lv_at hl 3 rfl) ?_
        refine lv_iadd hx hb dX1_lostOf_23 ?_
        refine v_i C hd hl M_X1_isLost gX1_lostOf_X1_isLost (c_X1_isLost l B k a σ ((p0 * 16) + v4l3) _ hw) ⟨rfl, rfl⟩ ⟨Nat.le_of_ble_eq_true rfl, Nat.le_of_ble_eq_true rfl⟩ (pm_all _) (fun _ => wX1 k a σ) (fun _ => (pm_all _).symm) 0 1 rfl rfl rfl rfl rfl (Nat.le_of_ble_eq_true rfl) dX1_lostOf_24 ⟨Nat.le_of_ble_eq_true rfl, Nat.le_of_ble_eq_true rfl⟩ (fun r _ H locs hp hd => ?_)
        obtain ⟨b24, rfl, hw⟩ := hp
        refine lv_if_eq (tgt := 33) hx hb dX1_lostOf_27 (by decide) (fun c10 => ?_) (fun c10 => ?_)
        · replace hw := hw.2 ((bi_eq _).mp c10)
          refine lv_iinc (v := v4l3 + 1) (lv' := [(3, .int (v4l3 + 1)), (0, .ref (a 0)), (1, .int p0), (2, .int v4l2)]) hx hb dX1_lostOf_33 hl (k := 3) rfl rfl (by decide) rfl (fun ls hl => ?_)
          refine lv_goto (tgt := 4) hx hb dX1_lostOf_36 (by decide) ?_
          exact ih4 v4l2 (v4l3 + 1) _ _ _ hd (lv_sub hl [1, 2, 3, 0] rfl) hw
        · replace hw := hw.1 ((bi_ne _).mp c10)
          refine lv_iinc (v := v4l2 + 1) (lv' := [(2, .int (v4l2 + 1)), (0, .ref (a 0)), (1, .int p0), (3, .int v4l3)]) hx hb dX1_lostOf_30 hl (k := 2) rfl rfl (by decide) rfl (fun ls hl => ?_)
          refine lv_iinc (v := v4l3 + 1) (lv' := [(3, .int (v4l3 + 1)), (2, .int (v4l2 + 1)), (0, .ref (a 0)), (1, .int p0)]) hx hb dX1_lostOf_33 hl (k := 3) rfl rfl (by decide) rfl (fun ls hl => ?_)
          refine lv_goto (tgt := 4) hx hb dX1_lostOf_36 (by decide) ?_
          exact ih4 (v4l2 + 1) (v4l3 + 1) _ _ _ hd (lv_sub hl [2, 3, 1, 0] rfl) hw
  rw [wpX1_lostOf] at hw
  refine lv_iconst (v := 0) hx hb dX1_lostOf_0 (by decide) ?_
  refine lv_istore_n (lv' := [(2, .int 0), (0, .ref (a 0)), (1, .int p0)]) hx hb dX1_lostOf_1 rfl hl (by decide) rfl (fun ls hl => ?_)
  refine lv_iconst (v := 0) hx hb dX1_lostOf_2 (by decide) ?_
  refine lv_istore_n (lv' := [(3, .int 0), (2, .int 0), (0, .ref (a 0)), (1, .int p0)]) hx hb dX1_lostOf_3 rfl hl (by decide) rfl (fun ls hl => ?_)
  obtain ⟨n, hw⟩ := hw
  exact L4 n 0 0 _ _ _ hd (lv_sub hl [2, 3, 1, 0] rfl) hw
abbrev rm_X1_testHead : Room := { frames := 6, cells := 0, slots := 0, locals := 137 }
theorem M_X1_testHead : MI yX1_testHead wsX1_testHead cX1_testHead 4 (some .int) 1 := ⟨⟨_, rfl⟩, by decide +kernel, by decide +kernel, by decide +kernel, by decide +kernel⟩
theorem iX1_testHead_X1 : ∀ w ∈ wsX10, w ∈ wsX1_testHead := fun _ h => List.mem_cons_of_mem _ (List.mem_append_right _ h)
def wpX1_testHead_L27 (σ : HS) (p0 : Int32) (post : Int32 → HS → Prop) : Nat → Int32 → HS → Prop
  | 0, _, _ => False
  | n27 + 1, v27l3, σ27 => (vp_in p0 4 ∧ (((16 - ((hs_spares σ27) p0.toNatClampNeg)) ≤ v27l3 → post ((hs_rescues σ27) - (hs_rescues σ)) σ27) ∧ (¬ (16 - ((hs_spares σ27) p0.toNatClampNeg)) ≤ v27l3 → wpX1_readAt σ27 ((p0 * 16) + v27l3) (fun r47 σ47 => wpX1_testHead_L27 σ p0 post n27 (v27l3 + 1) σ47))))
def wpX1_testHead (σ : HS) (p0 : Int32) (post : Int32 → HS → Prop) : Prop := wpX1_lostOf σ p0 (fun r2 => (vp_in p0 4 ∧ ((r2 = (16 - ((hs_spares σ) p0.toNatClampNeg)) → post (-5) σ) ∧ (¬ r2 = (16 - ((hs_spares σ) p0.toNatClampNeg)) → ∃ n27 : Nat, wpX1_testHead_L27 σ p0 post n27 0 σ))))
set_option maxHeartbeats 4000000 in
set_option maxRecDepth 100000 in
theorem c_X1_testHead (l : Launch) (B : va_G) (k : KT) (a : Nat → Nat) (σ : HS) (p0 : Int32) (post : Int32 → HS → Prop) (hw : wpX1_testHead σ p0 post) : Cti l yX1_testHead wsX1_testHead rm_X1_testHead 0 0 B k [.ref (a 0), .int p0] (wX1 k a σ) (fun u => wX1 k a u) post := by
  refine Cti.of M_X1_testHead (Nat.le_of_ble_eq_true rfl) ?_
  intro p e s m args below meth c A C hd ls hl
  have hx := C.1; have hb := C.2.1; have hml := C.2.2.1; have hts := C.2.2.2.2.1
  have hl : lv_has ls 4 [(0, .ref (a 0)), (1, .int p0)] := hl
  have L27 : ∀ (n27 : Nat), ∀ (v27l3 : Int32) (σ27 : HS) (H : Heap) (locs : List Loc) (ls : Array Slot), Wd B A s.heap (wX1 k a σ27) H locs → lv_has ls 4 [(0, .ref (a 0)), (1, .int p0), (2, .int (hs_rescues σ)), (3, .int v27l3)] → wpX1_testHead_L27 σ p0 post n27 v27l3 σ27 → W p l e rm_X1_testHead s m args below meth c H locs 0 0 (Qi below args s B A (fun u => wX1 k a u) post 0 0) (F0 m 27 ls []) := by
    intro n27
    induction n27 with
    | zero => intro v27l3 σ27 H locs ls hd hl hw; exact absurd hw (by simp [wpX1_testHead_L27])
    | succ n27 ih27 =>
      intro v27l3 σ27 H locs ls hd hl hw
      rw [wpX1_testHead_L27] at hw
      refine lv_iload_n hx hb dX1_testHead_27 rfl (lv_at hl 3 rfl) ?_
      refine lv_bipush (v := 16) hx hb dX1_testHead_28 (by decide) ?_
      refine lv_aload_n hx hb dX1_testHead_30 rfl (lv_at hl 0 rfl) ?_
      refine g_get (v := .ref (a 2)) C hd iX1_testHead_X1 0 1 rfl rfl 2 (by decide) (List.mem_of_getElem? (i := 1) rfl) rfl dX1_testHead_31 ?_
      refine lv_iload_n hx hb dX1_testHead_34 rfl (lv_at hl 1 rfl) ?_
      obtain ⟨h6, hw⟩ := hw
      refine g_ild (f := hs_spares σ27) C hd 2 rfl h6 dX1_testHead_35 ?_
      refine lv_isub hx hb dX1_testHead_36 ?_
      refine lv_icmp_ge (tgt := 57) hx hb dX1_testHead_37 (by decide) (fun c6 => ?_) (fun c6 => ?_)
      · replace hw := hw.1 c6
        refine lv_aload_n hx hb dX1_testHead_57 rfl (lv_at hl 0 rfl) ?_
        refine g_get (v := .int (hs_rescues σ27)) C hd iX1_testHead_X1 0 1 rfl rfl 11 (by decide) (List.mem_of_getElem? (i := 2) rfl) rfl dX1_testHead_58 ?_
        refine lv_iload_n hx hb dX1_testHead_61 rfl (lv_at hl 2 rfl) ?_
        refine lv_isub hx hb dX1_testHead_62 ?_
        exact r_i C hd dX1_testHead_63 σ27 rfl hw
      · replace hw := hw.2 c6
        refine lv_aload_n hx hb dX1_testHead_40 rfl (lv_at hl 0 rfl) ?_
        refine lv_iload_n hx hb dX1_testHead_41 rfl (lv_at hl 1 rfl) ?_
        refine lv_bipush (v := 16) hx hb dX1_testHead_42 (by decide) ?_
        refine lv_imul hx hb dX1_testHead_44 ?_
        refine lv_iload_n hx hb dX1_testHead_45 rfl (lv_at hl 3 rfl) ?_
        refine lv_iadd hx hb dX1_testHead_46 ?_
        refine v_i C hd hl M_X1_readAt gX1_testHead_X1_readAt (c_X1_readAt l B k a σ27 ((p0 * 16) + v27l3) _ hw) ⟨rfl, rfl⟩ ⟨Nat.le_of_ble_eq_true rfl, Nat.le_of_ble_eq_true rfl⟩ (pm_all _) (fun u => wX1 k a u) (fun _ => (pm_all _).symm) 0 1 rfl rfl rfl rfl rfl (Nat.le_of_ble_eq_true rfl) dX1_testHead_47 ⟨Nat.le_of_ble_eq_true rfl, Nat.le_of_ble_eq_true rfl⟩ (fun r47 σ47 H locs hw hd => ?_)
        refine lv_pop hx hb dX1_testHead_50 rfl ?_
        refine lv_iinc (v := v27l3 + 1) (lv' := [(3, .int (v27l3 + 1)), (0, .ref (a 0)), (1, .int p0), (2, .int (hs_rescues σ))]) hx hb dX1_testHead_51 hl (k := 3) rfl rfl (by decide) rfl (fun ls hl => ?_)
        refine lv_goto (tgt := 27) hx hb dX1_testHead_54 (by decide) ?_
        exact ih27 (v27l3 + 1) σ47 _ _ _ hd (lv_sub hl [1, 2, 3, 0] rfl) hw
  rw [wpX1_testHead] at hw
  refine lv_aload_n hx hb dX1_testHead_0 rfl (lv_at hl 0 rfl) ?_
  refine lv_iload_n hx hb dX1_testHead_1 rfl (lv_at hl 1 rfl) ?_
  refine v_i C hd hl M_X1_lostOf gX1_testHead_X1_lostOf (c_X1_lostOf l B k a σ p0 _ hw) ⟨rfl, rfl⟩ ⟨Nat.le_of_ble_eq_true rfl, Nat.le_of_ble_eq_true rfl⟩ (pm_all _) (fun _ => wX1 k a σ) (fun _ => (pm_all _).symm) 0 1 rfl rfl rfl rfl rfl (Nat.le_of_ble_eq_true rfl) dX1_testHead_2 ⟨Nat.le_of_ble_eq_true rfl, Nat.le_of_ble_eq_true rfl⟩ (fun r2 _ H locs hw hd => ?_)
  refine lv_bipush (v := 16) hx hb dX1_testHead_5 (by decide) ?_
  refine lv_aload_n hx hb dX1_testHead_7 rfl (lv_at hl 0 rfl) ?_
  refine g_get (v := .ref (a 2)) C hd iX1_testHead_X1 0 1 rfl rfl 2 (by decide) (List.mem_of_getElem? (i := 1) rfl) rfl dX1_testHead_8 ?_
  refine lv_iload_n hx hb dX1_testHead_11 rfl (lv_at hl 1 rfl) ?_
  obtain ⟨h7, hw⟩ := hw
  refine g_ild (f := hs_spares σ) C hd 2 rfl h7 dX1_testHead_12 ?_
  refine lv_isub hx hb dX1_testHead_13 ?_
  refine lv_icmp_ne (tgt := 20) hx hb dX1_testHead_14 (by decide) (fun c7 => ?_) (fun c7 => ?_)
  · replace hw := hw.2 c7
    refine lv_aload_n hx hb dX1_testHead_20 rfl (lv_at hl 0 rfl) ?_
    refine g_get (v := .int (hs_rescues σ)) C hd iX1_testHead_X1 0 1 rfl rfl 11 (by decide) (List.mem_of_getElem? (i := 2) rfl) rfl dX1_testHead_21 ?_
    refine lv_istore_n (lv' := [(2, .int (hs_rescues σ)), (0, .ref (a 0)), (1, .int p0)]) hx hb dX1_testHead_24 rfl hl (by decide) rfl (fun ls hl => ?_)
    refine lv_iconst (v := 0) hx hb dX1_testHead_25 (by decide) ?_
    refine lv_istore_n (lv' := [(3, .int 0), (2, .int (hs_rescues σ)), (0, .ref (a 0)), (1, .int p0)]) hx hb dX1_testHead_26 rfl hl (by decide) rfl (fun ls hl => ?_)
    obtain ⟨n, hw⟩ := hw
    exact L27 n 0 σ _ _ _ hd (lv_sub hl [2, 3, 1, 0] rfl) hw
  · replace hw := hw.1 c7
    refine lv_bipush (v := (-5)) hx hb dX1_testHead_17 (by decide) ?_
    exact r_i C hd dX1_testHead_19 σ rfl hw
abbrev rm_X1_giveBackAt : Room := { frames := 4, cells := 0, slots := 0, locals := 89 }
theorem M_X1_giveBackAt : MI yX1_giveBackAt wsX1_giveBackAt cX1_giveBackAt 3 (some .int) 1 := ⟨⟨_, rfl⟩, by decide +kernel, by decide +kernel, by decide +kernel, by decide +kernel⟩
theorem iX1_giveBackAt_X1 : ∀ w ∈ wsX10, w ∈ wsX1_giveBackAt := fun _ h => List.mem_cons_of_mem _ (List.mem_append_right _ h)
def wpX1_giveBackAt (σ : HS) (p0 : Int32) (post : Int32 → HS → Prop) : Prop := wpX1_isAddress σ p0 (fun b2 => ((b2 = true → wpX1_isLongWay σ p0 (fun b12 => ((b12 = true → wpX1_isGood σ p0 (fun b23 => ((b23 = true → wpX3_headOf p0 (fun r34 => (vp_in r34 4 ∧ ((((hs_givenUp σ) r34.toNatClampNeg) = 0 → (vp_in p0 64 ∧ wpX1_goTo σ p0 (fun σ53 => wpX1_moveTo σ53 p0 (fun σ58 => wpX1_wearByWriting σ58 p0 (fun σ63 => wpX1_lend σ63 p0 p0 (fun σ69 => post ((hs_server σ) p0.toNatClampNeg) σ69)))))) ∧ (¬ ((hs_givenUp σ) r34.toNatClampNeg) = 0 → post (-4) σ))))) ∧ (b23 = false → post (-4) σ)))) ∧ (b12 = false → post (-5) σ)))) ∧ (b2 = false → post (-1) σ)))
set_option maxHeartbeats 4000000 in
set_option maxRecDepth 100000 in
theorem c_X1_giveBackAt (l : Launch) (B : va_G) (k : KT) (a : Nat → Nat) (σ : HS) (p0 : Int32) (post : Int32 → HS → Prop) (hw : wpX1_giveBackAt σ p0 post) : Cti l yX1_giveBackAt wsX1_giveBackAt rm_X1_giveBackAt 0 0 B k [.ref (a 0), .int p0] (wX1 k a σ) (fun u => wX1 k a u) post := by
  refine Cti.of M_X1_giveBackAt (Nat.le_of_ble_eq_true rfl) ?_
  intro p e s m args below meth c A C hd ls hl
  have hx := C.1; have hb := C.2.1; have hml := C.2.2.1; have hts := C.2.2.2.2.1
  have hl : lv_has ls 3 [(0, .ref (a 0)), (1, .int p0)] := hl
  rw [wpX1_giveBackAt] at hw
  refine lv_aload_n hx hb dX1_giveBackAt_0 rfl (lv_at hl 0 rfl) ?_
  refine lv_iload_n hx hb dX1_giveBackAt_1 rfl (lv_at hl 1 rfl) ?_
  refine v_i C hd hl M_X1_isAddress gX1_giveBackAt_X1_isAddress (c_X1_isAddress l B k a σ p0 _ hw) ⟨rfl, rfl⟩ ⟨Nat.le_of_ble_eq_true rfl, Nat.le_of_ble_eq_true rfl⟩ (pm_all _) (fun _ => wX1 k a σ) (fun _ => (pm_all _).symm) 0 1 rfl rfl rfl rfl rfl (Nat.le_of_ble_eq_true rfl) dX1_giveBackAt_2 ⟨Nat.le_of_ble_eq_true rfl, Nat.le_of_ble_eq_true rfl⟩ (fun r _ H locs hp hd => ?_)
  obtain ⟨b2, rfl, hw⟩ := hp
  refine lv_if_ne (tgt := 10) hx hb dX1_giveBackAt_5 (by decide) (fun c8 => ?_) (fun c8 => ?_)
  · replace hw := hw.1 ((bi_ne _).mp c8)
    refine lv_aload_n hx hb dX1_giveBackAt_10 rfl (lv_at hl 0 rfl) ?_
    refine lv_iload_n hx hb dX1_giveBackAt_11 rfl (lv_at hl 1 rfl) ?_
    refine v_i C hd hl M_X1_isLongWay gX1_giveBackAt_X1_isLongWay (c_X1_isLongWay l B k a σ p0 _ hw) ⟨rfl, rfl⟩ ⟨Nat.le_of_ble_eq_true rfl, Nat.le_of_ble_eq_true rfl⟩ (pm_all _) (fun _ => wX1 k a σ) (fun _ => (pm_all _).symm) 0 1 rfl rfl rfl rfl rfl (Nat.le_of_ble_eq_true rfl) dX1_giveBackAt_12 ⟨Nat.le_of_ble_eq_true rfl, Nat.le_of_ble_eq_true rfl⟩ (fun r _ H locs hp hd => ?_)
    obtain ⟨b12, rfl, hw⟩ := hp
    refine lv_if_ne (tgt := 21) hx hb dX1_giveBackAt_15 (by decide) (fun c7 => ?_) (fun c7 => ?_)
    · replace hw := hw.1 ((bi_ne _).mp c7)
      refine lv_aload_n hx hb dX1_giveBackAt_21 rfl (lv_at hl 0 rfl) ?_
      refine lv_iload_n hx hb dX1_giveBackAt_22 rfl (lv_at hl 1 rfl) ?_
      refine v_i C hd hl M_X1_isGood gX1_giveBackAt_X1_isGood (c_X1_isGood l B k a σ p0 _ hw) ⟨rfl, rfl⟩ ⟨Nat.le_of_ble_eq_true rfl, Nat.le_of_ble_eq_true rfl⟩ (pm_all _) (fun _ => wX1 k a σ) (fun _ => (pm_all _).symm) 0 1 rfl rfl rfl rfl rfl (Nat.le_of_ble_eq_true rfl) dX1_giveBackAt_23 ⟨Nat.le_of_ble_eq_true rfl, Nat.le_of_ble_eq_true rfl⟩ (fun r _ H locs hp hd => ?_)
      obtain ⟨b23, rfl, hw⟩ := hp
      refine lv_if_eq (tgt := 41) hx hb dX1_giveBackAt_26 (by decide) (fun c6 => ?_) (fun c6 => ?_)
      · replace hw := hw.2 ((bi_eq _).mp c6)
        refine lv_bipush (v := (-4)) hx hb dX1_giveBackAt_41 (by decide) ?_
        exact r_i C hd dX1_giveBackAt_43 σ rfl hw
      · replace hw := hw.1 ((bi_ne _).mp c6)
        refine lv_aload_n hx hb dX1_giveBackAt_29 rfl (lv_at hl 0 rfl) ?_
        refine g_get (v := .ref (a 3)) C hd iX1_giveBackAt_X1 0 1 rfl rfl 3 (by decide) (List.mem_of_getElem? (i := 1) rfl) rfl dX1_giveBackAt_30 ?_
        refine lv_iload_n hx hb dX1_giveBackAt_33 rfl (lv_at hl 1 rfl) ?_
        refine n_i C hd hl M_X3_headOf gX1_giveBackAt_X3_headOf_n80 (List.mem_of_getElem? (i := 2) rfl) (List.mem_of_getElem? (i := 14) rfl) (List.mem_of_getElem? (i := 10) rfl) (c_X3_headOf l B k p0 _ hw) ⟨rfl, rfl⟩ ⟨Nat.le_of_ble_eq_true rfl, Nat.le_of_ble_eq_true rfl⟩ (pm_non _) (fun _ => wX1 k a σ) (fun _ => List.Perm.refl _) rfl rfl (Nat.le_of_ble_eq_true rfl) dX1_giveBackAt_34 ⟨Nat.le_of_ble_eq_true rfl, Nat.le_of_ble_eq_true rfl⟩ (fun r34 _ H locs hw hd => ?_)
        obtain ⟨h3, hw⟩ := hw
        refine g_zld (f := hs_givenUp σ) C hd 3 rfl h3 dX1_giveBackAt_37 ?_
        refine lv_if_eq (tgt := 44) hx hb dX1_giveBackAt_38 (by decide) (fun c5 => ?_) (fun c5 => ?_)
        · replace hw := hw.1 c5
          refine lv_aload_n hx hb dX1_giveBackAt_44 rfl (lv_at hl 0 rfl) ?_
          refine g_get (v := .ref (a 7)) C hd iX1_giveBackAt_X1 0 1 rfl rfl 7 (by decide) (List.mem_of_getElem? (i := 2) rfl) rfl dX1_giveBackAt_45 ?_
          refine lv_iload_n hx hb dX1_giveBackAt_48 rfl (lv_at hl 1 rfl) ?_
          obtain ⟨h4, hw⟩ := hw
          refine g_ild (f := hs_server σ) C hd 7 rfl h4 dX1_giveBackAt_49 ?_
          refine lv_istore_n (lv' := [(2, .int ((hs_server σ) p0.toNatClampNeg)), (0, .ref (a 0)), (1, .int p0)]) hx hb dX1_giveBackAt_50 rfl hl (by decide) rfl (fun ls hl => ?_)
          refine lv_aload_n hx hb dX1_giveBackAt_51 rfl (lv_at hl 1 rfl) ?_
          refine lv_iload_n hx hb dX1_giveBackAt_52 rfl (lv_at hl 2 rfl) ?_
          refine v_v C hd hl M_X1_goTo gX1_giveBackAt_X1_goTo (c_X1_goTo l B k a σ p0 _ hw) ⟨rfl, rfl⟩ ⟨Nat.le_of_ble_eq_true rfl, Nat.le_of_ble_eq_true rfl⟩ (pm_all _) (fun u => wX1 k a u) (fun _ => (pm_all _).symm) 0 1 rfl rfl rfl rfl rfl (Nat.le_of_ble_eq_true rfl) dX1_giveBackAt_53 ⟨Nat.le_of_ble_eq_true rfl, Nat.le_of_ble_eq_true rfl⟩ (fun σ53 H locs hw hd => ?_)
          refine lv_aload_n hx hb dX1_giveBackAt_56 rfl (lv_at hl 1 rfl) ?_
          refine lv_iload_n hx hb dX1_giveBackAt_57 rfl (lv_at hl 2 rfl) ?_
          refine v_v C hd hl M_X1_moveTo gX1_giveBackAt_X1_moveTo (c_X1_moveTo l B k a σ53 p0 _ hw) ⟨rfl, rfl⟩ ⟨Nat.le_of_ble_eq_true rfl, Nat.le_of_ble_eq_true rfl⟩ (pm_all _) (fun u => wX1 k a u) (fun _ => (pm_all _).symm) 0 1 rfl rfl rfl rfl rfl (Nat.le_of_ble_eq_true rfl) dX1_giveBackAt_58 ⟨Nat.le_of_ble_eq_true rfl, Nat.le_of_ble_eq_true rfl⟩ (fun σ58 H locs hw hd => ?_)
          refine lv_aload_n hx hb dX1_giveBackAt_61 rfl (lv_at hl 1 rfl) ?_
          refine lv_iload_n hx hb dX1_giveBackAt_62 rfl (lv_at hl 2 rfl) ?_
          refine v_v C hd hl M_X1_wearByWriting gX1_giveBackAt_X1_wearByWriting (c_X1_wearByWriting l B k a σ58 p0 _ hw) ⟨rfl, rfl⟩ ⟨Nat.le_of_ble_eq_true rfl, Nat.le_of_ble_eq_true rfl⟩ (pm_all _) (fun u => wX1 k a u) (fun _ => (pm_all _).symm) 0 1 rfl rfl rfl rfl rfl (Nat.le_of_ble_eq_true rfl) dX1_giveBackAt_63 ⟨Nat.le_of_ble_eq_true rfl, Nat.le_of_ble_eq_true rfl⟩ (fun σ63 H locs hw hd => ?_)
          refine lv_aload_n hx hb dX1_giveBackAt_66 rfl (lv_at hl 1 rfl) ?_
          refine lv_iload_n hx hb dX1_giveBackAt_67 rfl (lv_at hl 2 rfl) ?_
          refine lv_iload_n hx hb dX1_giveBackAt_68 rfl (lv_at hl 2 rfl) ?_
          refine v_v C hd hl M_X1_lend gX1_giveBackAt_X1_lend (c_X1_lend l B k a σ63 p0 p0 _ hw) ⟨rfl, rfl⟩ ⟨Nat.le_of_ble_eq_true rfl, Nat.le_of_ble_eq_true rfl⟩ (pm_all _) (fun u => wX1 k a u) (fun _ => (pm_all _).symm) 0 1 rfl rfl rfl rfl rfl (Nat.le_of_ble_eq_true rfl) dX1_giveBackAt_69 ⟨Nat.le_of_ble_eq_true rfl, Nat.le_of_ble_eq_true rfl⟩ (fun σ69 H locs hw hd => ?_)
          refine lv_iload_n hx hb dX1_giveBackAt_72 rfl (lv_at hl 0 rfl) ?_
          exact r_i C hd dX1_giveBackAt_73 σ69 rfl hw
        · replace hw := hw.2 c5
          refine lv_bipush (v := (-4)) hx hb dX1_giveBackAt_41 (by decide) ?_
          exact r_i C hd dX1_giveBackAt_43 σ rfl hw
    · replace hw := hw.2 ((bi_eq _).mp c7)
      refine lv_bipush (v := (-5)) hx hb dX1_giveBackAt_18 (by decide) ?_
      exact r_i C hd dX1_giveBackAt_20 σ rfl hw
  · replace hw := hw.2 ((bi_eq _).mp c8)
    refine lv_iconst (v := (-1)) hx hb dX1_giveBackAt_8 (by decide) ?_
    exact r_i C hd dX1_giveBackAt_9 σ rfl hw
abbrev rm_X1_moveAway : Room := { frames := 4, cells := 0, slots := 0, locals := 93 }
theorem M_X1_moveAway : MI yX1_moveAway wsX1_moveAway cX1_moveAway 3 none 1 := ⟨⟨_, rfl⟩, by decide +kernel, by decide +kernel, by decide +kernel, by decide +kernel⟩
theorem iX1_moveAway_X1 : ∀ w ∈ wsX10, w ∈ wsX1_moveAway := fun _ h => List.mem_cons_of_mem _ (List.mem_append_right _ h)
def wpX1_moveAway (σ : HS) (p0 : Int32) (post : HS → Prop) : Prop := wpX1_lendableTo σ p0 (fun r2 => ((r2 = (-5) → wpX1_lose σ p0 (fun σ14 => post σ14)) ∧ (¬ r2 = (-5) → wpX1_lend σ p0 r2 (fun σ23 => wpX1_wearByWriting σ23 r2 (fun σ28 => post σ28)))))
set_option maxHeartbeats 4000000 in
set_option maxRecDepth 100000 in
theorem c_X1_moveAway (l : Launch) (B : va_G) (k : KT) (a : Nat → Nat) (σ : HS) (p0 : Int32) (post : HS → Prop) (hw : wpX1_moveAway σ p0 post) : Ctv l yX1_moveAway wsX1_moveAway rm_X1_moveAway 0 0 B k [.ref (a 0), .int p0] (wX1 k a σ) (fun u => wX1 k a u) post := by
  refine Ctv.of M_X1_moveAway (Nat.le_of_ble_eq_true rfl) ?_
  intro p e s m args below meth c A C hd ls hl
  have hx := C.1; have hb := C.2.1; have hml := C.2.2.1; have hts := C.2.2.2.2.1
  have hl : lv_has ls 3 [(0, .ref (a 0)), (1, .int p0)] := hl
  rw [wpX1_moveAway] at hw
  refine lv_aload_n hx hb dX1_moveAway_0 rfl (lv_at hl 0 rfl) ?_
  refine lv_iload_n hx hb dX1_moveAway_1 rfl (lv_at hl 1 rfl) ?_
  refine v_i C hd hl M_X1_lendableTo gX1_moveAway_X1_lendableTo (c_X1_lendableTo l B k a σ p0 _ hw) ⟨rfl, rfl⟩ ⟨Nat.le_of_ble_eq_true rfl, Nat.le_of_ble_eq_true rfl⟩ (pm_all _) (fun _ => wX1 k a σ) (fun _ => (pm_all _).symm) 0 1 rfl rfl rfl rfl rfl (Nat.le_of_ble_eq_true rfl) dX1_moveAway_2 ⟨Nat.le_of_ble_eq_true rfl, Nat.le_of_ble_eq_true rfl⟩ (fun r2 _ H locs hw hd => ?_)
  refine lv_istore_n (lv' := [(2, .int r2), (0, .ref (a 0)), (1, .int p0)]) hx hb dX1_moveAway_5 rfl hl (by decide) rfl (fun ls hl => ?_)
  refine lv_iload_n hx hb dX1_moveAway_6 rfl (lv_at hl 0 rfl) ?_
  refine lv_bipush (v := (-5)) hx hb dX1_moveAway_7 (by decide) ?_
  refine lv_icmp_ne (tgt := 20) hx hb dX1_moveAway_9 (by decide) (fun c2 => ?_) (fun c2 => ?_)
  · replace hw := hw.2 c2
    refine lv_aload_n hx hb dX1_moveAway_20 rfl (lv_at hl 1 rfl) ?_
    refine lv_iload_n hx hb dX1_moveAway_21 rfl (lv_at hl 2 rfl) ?_
    refine lv_iload_n hx hb dX1_moveAway_22 rfl (lv_at hl 0 rfl) ?_
    refine v_v C hd hl M_X1_lend gX1_moveAway_X1_lend (c_X1_lend l B k a σ p0 r2 _ hw) ⟨rfl, rfl⟩ ⟨Nat.le_of_ble_eq_true rfl, Nat.le_of_ble_eq_true rfl⟩ (pm_all _) (fun u => wX1 k a u) (fun _ => (pm_all _).symm) 0 1 rfl rfl rfl rfl rfl (Nat.le_of_ble_eq_true rfl) dX1_moveAway_23 ⟨Nat.le_of_ble_eq_true rfl, Nat.le_of_ble_eq_true rfl⟩ (fun σ23 H locs hw hd => ?_)
    refine lv_aload_n hx hb dX1_moveAway_26 rfl (lv_at hl 1 rfl) ?_
    refine lv_iload_n hx hb dX1_moveAway_27 rfl (lv_at hl 0 rfl) ?_
    refine v_v C hd hl M_X1_wearByWriting gX1_moveAway_X1_wearByWriting (c_X1_wearByWriting l B k a σ23 r2 _ hw) ⟨rfl, rfl⟩ ⟨Nat.le_of_ble_eq_true rfl, Nat.le_of_ble_eq_true rfl⟩ (pm_all _) (fun u => wX1 k a u) (fun _ => (pm_all _).symm) 0 1 rfl rfl rfl rfl rfl (Nat.le_of_ble_eq_true rfl) dX1_moveAway_28 ⟨Nat.le_of_ble_eq_true rfl, Nat.le_of_ble_eq_true rfl⟩ (fun σ28 H locs hw hd => ?_)
    exact r_v C hd dX1_moveAway_31 σ28 rfl hw
  · replace hw := hw.1 c2
    refine lv_aload_n hx hb dX1_moveAway_12 rfl (lv_at hl 1 rfl) ?_
    refine lv_iload_n hx hb dX1_moveAway_13 rfl (lv_at hl 2 rfl) ?_
    refine v_v C hd hl M_X1_lose gX1_moveAway_X1_lose (c_X1_lose l B k a σ p0 _ hw) ⟨rfl, rfl⟩ ⟨Nat.le_of_ble_eq_true rfl, Nat.le_of_ble_eq_true rfl⟩ (pm_all _) (fun u => wX1 k a u) (fun _ => (pm_all _).symm) 0 1 rfl rfl rfl rfl rfl (Nat.le_of_ble_eq_true rfl) dX1_moveAway_14 ⟨Nat.le_of_ble_eq_true rfl, Nat.le_of_ble_eq_true rfl⟩ (fun σ14 H locs hw hd => ?_)
    refine lv_goto (tgt := 31) hx hb dX1_moveAway_17 (by decide) ?_
    exact r_v C hd dX1_moveAway_31 σ14 rfl hw
abbrev rm_X1_vacate : Room := { frames := 5, cells := 0, slots := 0, locals := 115 }
theorem M_X1_vacate : MI yX1_vacate wsX1_vacate cX1_vacate 4 (some .int) 1 := ⟨⟨_, rfl⟩, by decide +kernel, by decide +kernel, by decide +kernel, by decide +kernel⟩
theorem iX1_vacate_X1 : ∀ w ∈ wsX10, w ∈ wsX1_vacate := fun _ h => List.mem_cons_of_mem _ (List.mem_append_right _ h)
def wpX1_vacate_L14 (σ : HS) (p0 : Int32) (post : Int32 → HS → Prop) : Nat → Int32 → HS → Prop
  | 0, _, _ => False
  | n14 + 1, v14l3, σ14 => ((64 ≤ v14l3 → post ((hs_losses σ14) - (hs_losses σ)) σ14) ∧ (¬ 64 ≤ v14l3 → wpX1_isAddress σ14 v14l3 (fun b22 => ((b22 = true → wpX1_isLost σ14 v14l3 (fun b30 => ((b30 = true → wpX1_vacate_L14 σ p0 post n14 (v14l3 + 1) σ14) ∧ (b30 = false → (vp_in v14l3 64 ∧ wpX3_headOf ((hs_server σ14) v14l3.toNatClampNeg) (fun r42 => ((r42 = p0 → wpX1_moveAway σ14 v14l3 (fun σ51 => wpX1_vacate_L14 σ p0 post n14 (v14l3 + 1) σ51)) ∧ (¬ r42 = p0 → wpX1_vacate_L14 σ p0 post n14 (v14l3 + 1) σ14)))))))) ∧ (b22 = false → wpX1_vacate_L14 σ p0 post n14 (v14l3 + 1) σ14)))))
def wpX1_vacate (σ : HS) (p0 : Int32) (post : Int32 → HS → Prop) : Prop := (vp_in p0 4 ∧ ∃ n14 : Nat, wpX1_vacate_L14 σ p0 post n14 0 (hs_setGivenUp σ (upd (hs_givenUp σ) p0.toNatClampNeg 1)))
set_option maxHeartbeats 4000000 in
set_option maxRecDepth 100000 in
theorem c_X1_vacate (l : Launch) (B : va_G) (k : KT) (a : Nat → Nat) (σ : HS) (p0 : Int32) (post : Int32 → HS → Prop) (hw : wpX1_vacate σ p0 post) : Cti l yX1_vacate wsX1_vacate rm_X1_vacate 0 0 B k [.ref (a 0), .int p0] (wX1 k a σ) (fun u => wX1 k a u) post := by
  refine Cti.of M_X1_vacate (Nat.le_of_ble_eq_true rfl) ?_
  intro p e s m args below meth c A C hd ls hl
  have hx := C.1; have hb := C.2.1; have hml := C.2.2.1; have hts := C.2.2.2.2.1
  have hl : lv_has ls 4 [(0, .ref (a 0)), (1, .int p0)] := hl
  have L14 : ∀ (n14 : Nat), ∀ (v14l3 : Int32) (σ14 : HS) (H : Heap) (locs : List Loc) (ls : Array Slot), Wd B A s.heap (wX1 k a σ14) H locs → lv_has ls 4 [(0, .ref (a 0)), (1, .int p0), (2, .int (hs_losses σ)), (3, .int v14l3)] → wpX1_vacate_L14 σ p0 post n14 v14l3 σ14 → W p l e rm_X1_vacate s m args below meth c H locs 0 0 (Qi below args s B A (fun u => wX1 k a u) post 0 0) (F0 m 14 ls []) := by
    intro n14
    induction n14 with
    | zero => intro v14l3 σ14 H locs ls hd hl hw; exact absurd hw (by simp [wpX1_vacate_L14])
    | succ n14 ih14 =>
      intro v14l3 σ14 H locs ls hd hl hw
      rw [wpX1_vacate_L14] at hw
      refine lv_iload_n hx hb dX1_vacate_14 rfl (lv_at hl 3 rfl) ?_
      refine lv_bipush (v := 64) hx hb dX1_vacate_15 (by decide) ?_
      refine lv_icmp_ge (tgt := 60) hx hb dX1_vacate_17 (by decide) (fun c17 => ?_) (fun c17 => ?_)
      · replace hw := hw.1 c17
        refine lv_aload_n hx hb dX1_vacate_60 rfl (lv_at hl 0 rfl) ?_
        refine g_get (v := .int (hs_losses σ14)) C hd iX1_vacate_X1 0 1 rfl rfl 12 (by decide) (List.mem_of_getElem? (i := 1) rfl) rfl dX1_vacate_61 ?_
        refine lv_iload_n hx hb dX1_vacate_64 rfl (lv_at hl 2 rfl) ?_
        refine lv_isub hx hb dX1_vacate_65 ?_
        exact r_i C hd dX1_vacate_66 σ14 rfl hw
      · replace hw := hw.2 c17
        refine lv_aload_n hx hb dX1_vacate_20 rfl (lv_at hl 0 rfl) ?_
        refine lv_iload_n hx hb dX1_vacate_21 rfl (lv_at hl 3 rfl) ?_
        refine v_i C hd hl M_X1_isAddress gX1_vacate_X1_isAddress (c_X1_isAddress l B k a σ14 v14l3 _ hw) ⟨rfl, rfl⟩ ⟨Nat.le_of_ble_eq_true rfl, Nat.le_of_ble_eq_true rfl⟩ (pm_all _) (fun _ => wX1 k a σ14) (fun _ => (pm_all _).symm) 0 1 rfl rfl rfl rfl rfl (Nat.le_of_ble_eq_true rfl) dX1_vacate_22 ⟨Nat.le_of_ble_eq_true rfl, Nat.le_of_ble_eq_true rfl⟩ (fun r _ H locs hp hd => ?_)
        obtain ⟨b22, rfl, hw⟩ := hp
        refine lv_if_eq (tgt := 54) hx hb dX1_vacate_25 (by decide) (fun c20 => ?_) (fun c20 => ?_)
        · replace hw := hw.2 ((bi_eq _).mp c20)
          refine lv_iinc (v := v14l3 + 1) (lv' := [(3, .int (v14l3 + 1)), (0, .ref (a 0)), (1, .int p0), (2, .int (hs_losses σ))]) hx hb dX1_vacate_54 hl (k := 3) rfl rfl (by decide) rfl (fun ls hl => ?_)
          refine lv_goto (tgt := 14) hx hb dX1_vacate_57 (by decide) ?_
          exact ih14 (v14l3 + 1) σ14 _ _ _ hd (lv_sub hl [1, 2, 3, 0] rfl) hw
        · replace hw := hw.1 ((bi_ne _).mp c20)
          refine lv_aload_n hx hb dX1_vacate_28 rfl (lv_at hl 0 rfl) ?_
          refine lv_iload_n hx hb dX1_vacate_29 rfl (lv_at hl 3 rfl) ?_
          refine v_i C hd hl M_X1_isLost gX1_vacate_X1_isLost (c_X1_isLost l B k a σ14 v14l3 _ hw) ⟨rfl, rfl⟩ ⟨Nat.le_of_ble_eq_true rfl, Nat.le_of_ble_eq_true rfl⟩ (pm_all _) (fun _ => wX1 k a σ14) (fun _ => (pm_all _).symm) 0 1 rfl rfl rfl rfl rfl (Nat.le_of_ble_eq_true rfl) dX1_vacate_30 ⟨Nat.le_of_ble_eq_true rfl, Nat.le_of_ble_eq_true rfl⟩ (fun r _ H locs hp hd => ?_)
          obtain ⟨b30, rfl, hw⟩ := hp
          refine lv_if_ne (tgt := 54) hx hb dX1_vacate_33 (by decide) (fun c19 => ?_) (fun c19 => ?_)
          · replace hw := hw.1 ((bi_ne _).mp c19)
            refine lv_iinc (v := v14l3 + 1) (lv' := [(3, .int (v14l3 + 1)), (0, .ref (a 0)), (1, .int p0), (2, .int (hs_losses σ))]) hx hb dX1_vacate_54 hl (k := 3) rfl rfl (by decide) rfl (fun ls hl => ?_)
            refine lv_goto (tgt := 14) hx hb dX1_vacate_57 (by decide) ?_
            exact ih14 (v14l3 + 1) σ14 _ _ _ hd (lv_sub hl [1, 2, 3, 0] rfl) hw
          · replace hw := hw.2 ((bi_eq _).mp c19)
            refine lv_aload_n hx hb dX1_vacate_36 rfl (lv_at hl 0 rfl) ?_
            refine g_get (v := .ref (a 7)) C hd iX1_vacate_X1 0 1 rfl rfl 7 (by decide) (List.mem_of_getElem? (i := 3) rfl) rfl dX1_vacate_37 ?_
            refine lv_iload_n hx hb dX1_vacate_40 rfl (lv_at hl 3 rfl) ?_
            obtain ⟨h6, hw⟩ := hw
            refine g_ild (f := hs_server σ14) C hd 7 rfl h6 dX1_vacate_41 ?_
            refine n_i C hd hl M_X3_headOf gX1_vacate_X3_headOf_n80 (List.mem_of_getElem? (i := 2) rfl) (List.mem_of_getElem? (i := 15) rfl) (List.mem_of_getElem? (i := 11) rfl) (c_X3_headOf l B k ((hs_server σ14) v14l3.toNatClampNeg) _ hw) ⟨rfl, rfl⟩ ⟨Nat.le_of_ble_eq_true rfl, Nat.le_of_ble_eq_true rfl⟩ (pm_non _) (fun _ => wX1 k a σ14) (fun _ => List.Perm.refl _) rfl rfl (Nat.le_of_ble_eq_true rfl) dX1_vacate_42 ⟨Nat.le_of_ble_eq_true rfl, Nat.le_of_ble_eq_true rfl⟩ (fun r42 _ H locs hw hd => ?_)
            refine lv_iload_n hx hb dX1_vacate_45 rfl (lv_at hl 1 rfl) ?_
            refine lv_icmp_ne (tgt := 54) hx hb dX1_vacate_46 (by decide) (fun c18 => ?_) (fun c18 => ?_)
            · replace hw := hw.2 c18
              refine lv_iinc (v := v14l3 + 1) (lv' := [(3, .int (v14l3 + 1)), (0, .ref (a 0)), (1, .int p0), (2, .int (hs_losses σ))]) hx hb dX1_vacate_54 hl (k := 3) rfl rfl (by decide) rfl (fun ls hl => ?_)
              refine lv_goto (tgt := 14) hx hb dX1_vacate_57 (by decide) ?_
              exact ih14 (v14l3 + 1) σ14 _ _ _ hd (lv_sub hl [1, 2, 3, 0] rfl) hw
            · replace hw := hw.1 c18
              refine lv_aload_n hx hb dX1_vacate_49 rfl (lv_at hl 0 rfl) ?_
              refine lv_iload_n hx hb dX1_vacate_50 rfl (lv_at hl 3 rfl) ?_
              refine v_v C hd hl M_X1_moveAway gX1_vacate_X1_moveAway (c_X1_moveAway l B k a σ14 v14l3 _ hw) ⟨rfl, rfl⟩ ⟨Nat.le_of_ble_eq_true rfl, Nat.le_of_ble_eq_true rfl⟩ (pm_all _) (fun u => wX1 k a u) (fun _ => (pm_all _).symm) 0 1 rfl rfl rfl rfl rfl (Nat.le_of_ble_eq_true rfl) dX1_vacate_51 ⟨Nat.le_of_ble_eq_true rfl, Nat.le_of_ble_eq_true rfl⟩ (fun σ51 H locs hw hd => ?_)
              refine lv_iinc (v := v14l3 + 1) (lv' := [(3, .int (v14l3 + 1)), (0, .ref (a 0)), (1, .int p0), (2, .int (hs_losses σ))]) hx hb dX1_vacate_54 hl (k := 3) rfl rfl (by decide) rfl (fun ls hl => ?_)
              refine lv_goto (tgt := 14) hx hb dX1_vacate_57 (by decide) ?_
              exact ih14 (v14l3 + 1) σ51 _ _ _ hd (lv_sub hl [1, 2, 3, 0] rfl) hw
  rw [wpX1_vacate] at hw
  refine lv_aload_n hx hb dX1_vacate_0 rfl (lv_at hl 0 rfl) ?_
  refine g_get (v := .int (hs_losses σ)) C hd iX1_vacate_X1 0 1 rfl rfl 12 (by decide) (List.mem_of_getElem? (i := 1) rfl) rfl dX1_vacate_1 ?_
  refine lv_istore_n (lv' := [(2, .int (hs_losses σ)), (0, .ref (a 0)), (1, .int p0)]) hx hb dX1_vacate_4 rfl hl (by decide) rfl (fun ls hl => ?_)
  refine lv_aload_n hx hb dX1_vacate_5 rfl (lv_at hl 1 rfl) ?_
  refine g_get (v := .ref (a 3)) C hd iX1_vacate_X1 0 1 rfl rfl 3 (by decide) (List.mem_of_getElem? (i := 2) rfl) rfl dX1_vacate_6 ?_
  refine lv_iload_n hx hb dX1_vacate_9 rfl (lv_at hl 2 rfl) ?_
  refine lv_iconst (v := 1) hx hb dX1_vacate_10 (by decide) ?_
  obtain ⟨h7, hw⟩ := hw
  refine g_zst (f := hs_givenUp σ) C hd 3 rfl true h7 (wX1 k a (hs_setGivenUp σ (upd (hs_givenUp σ) p0.toNatClampNeg 1))) (wX1_stGivenUp k a _ _) dX1_vacate_11 (fun H locs hd => ?_)
  refine lv_iconst (v := 0) hx hb dX1_vacate_12 (by decide) ?_
  refine lv_istore_n (lv' := [(3, .int 0), (2, .int (hs_losses σ)), (0, .ref (a 0)), (1, .int p0)]) hx hb dX1_vacate_13 rfl hl (by decide) rfl (fun ls hl => ?_)
  obtain ⟨n, hw⟩ := hw
  exact L14 n 0 (hs_setGivenUp σ (upd (hs_givenUp σ) p0.toNatClampNeg 1)) _ _ _ hd (lv_sub hl [2, 3, 1, 0] rfl) hw
abbrev rm_X1_tellAddress : Room := { frames := 4, cells := 0, slots := 0, locals := 93 }
theorem M_X1_tellAddress : MI yX1_tellAddress wsX1_tellAddress cX1_tellAddress 3 (some .int) 2 := ⟨⟨_, rfl⟩, by decide +kernel, by decide +kernel, by decide +kernel, by decide +kernel⟩
theorem iX1_tellAddress_X1 : ∀ w ∈ wsX10, w ∈ wsX1_tellAddress := fun _ h => List.mem_cons_of_mem _ (List.mem_append_right _ h)
def wpX1_tellAddress (σ : HS) (p0 : Int32) (p1 : Int32) (post : Int32 → Prop) : Prop := ((p1 = 0 → wpX1_isLost σ p0 (fun b42 => ((b42 = true → post (-5)) ∧ (b42 = false → (vp_in p0 64 ∧ post ((hs_value σ) p0.toNatClampNeg)))))) ∧ (p1 = 1 → (vp_in p0 64 ∧ post ((hs_server σ) p0.toNatClampNeg))) ∧ (p1 = 2 → wpX1_isLongWay σ p0 (fun b69 => ((b69 = true → post 1) ∧ (b69 = false → post 0)))) ∧ (p1 = 3 → wpX1_lendableTo σ p0 (fun r83 => post r83)) ∧ (p1 = 4 → wpX1_isLost σ p0 (fun b89 => ((b89 = true → post (-5)) ∧ (b89 = false → wpX1_stepsTo σ p0 (fun r102 => post r102))))) ∧ (p1 = 5 → (vp_in p0 64 ∧ post ((hs_rescuesOf σ) p0.toNatClampNeg))) ∧ (¬ p1 = 0 → ¬ p1 = 1 → ¬ p1 = 2 → ¬ p1 = 3 → ¬ p1 = 4 → ¬ p1 = 5 → post (-2)))
set_option maxHeartbeats 4000000 in
set_option maxRecDepth 100000 in
theorem c_X1_tellAddress (l : Launch) (B : va_G) (k : KT) (a : Nat → Nat) (σ : HS) (p0 : Int32) (p1 : Int32) (post : Int32 → Prop) (hw : wpX1_tellAddress σ p0 p1 post) : Cti l yX1_tellAddress wsX1_tellAddress rm_X1_tellAddress 0 0 B k [.ref (a 0), .int p0, .int p1] (wX1 k a σ) (fun _ : Unit => wX1 k a σ) (fun r _ => post r) := by
  refine Cti.of M_X1_tellAddress (Nat.le_of_ble_eq_true rfl) ?_
  intro p e s m args below meth c A C hd ls hl
  have hx := C.1; have hb := C.2.1; have hml := C.2.2.1; have hts := C.2.2.2.2.1
  have hl : lv_has ls 3 [(0, .ref (a 0)), (1, .int p0), (2, .int p1)] := hl
  rw [wpX1_tellAddress] at hw
  refine lv_iload_n hx hb dX1_tellAddress_0 rfl (lv_at hl 2 rfl) ?_
  by_cases c11 : p1 = 0
  · replace hw := hw.1 c11
    refine lv_tableIn (tgt := 40) hx hb dX1_tellAddress_1 (by rw [c11]; decide) (by rw [c11]; decide) (by rw [c11]; rfl) (by decide) ?_
    refine lv_aload_n hx hb dX1_tellAddress_40 rfl (lv_at hl 0 rfl) ?_
    refine lv_iload_n hx hb dX1_tellAddress_41 rfl (lv_at hl 1 rfl) ?_
    refine v_i C hd hl M_X1_isLost gX1_tellAddress_X1_isLost (c_X1_isLost l B k a σ p0 _ hw) ⟨rfl, rfl⟩ ⟨Nat.le_of_ble_eq_true rfl, Nat.le_of_ble_eq_true rfl⟩ (pm_all _) (fun _ => wX1 k a σ) (fun _ => (pm_all _).symm) 0 1 rfl rfl rfl rfl rfl (Nat.le_of_ble_eq_true rfl) dX1_tellAddress_42 ⟨Nat.le_of_ble_eq_true rfl, Nat.le_of_ble_eq_true rfl⟩ (fun r _ H locs hp hd => ?_)
    obtain ⟨b42, rfl, hw⟩ := hp
    refine lv_if_eq (tgt := 53) hx hb dX1_tellAddress_45 (by decide) (fun c10 => ?_) (fun c10 => ?_)
    · replace hw := hw.2 ((bi_eq _).mp c10)
      refine lv_aload_n hx hb dX1_tellAddress_53 rfl (lv_at hl 0 rfl) ?_
      refine g_get (v := .ref (a 5)) C hd iX1_tellAddress_X1 0 1 rfl rfl 5 (by decide) (List.mem_of_getElem? (i := 1) rfl) rfl dX1_tellAddress_54 ?_
      refine lv_iload_n hx hb dX1_tellAddress_57 rfl (lv_at hl 1 rfl) ?_
      obtain ⟨h4, hw⟩ := hw
      refine g_ild (f := hs_value σ) C hd 5 rfl h4 dX1_tellAddress_58 ?_
      exact r_i C hd dX1_tellAddress_59 () rfl hw
    · replace hw := hw.1 ((bi_ne _).mp c10)
      refine lv_bipush (v := (-5)) hx hb dX1_tellAddress_48 (by decide) ?_
      refine lv_goto (tgt := 59) hx hb dX1_tellAddress_50 (by decide) ?_
      exact r_i C hd dX1_tellAddress_59 () rfl hw
  · by_cases c12 : p1 = 1
    · replace hw := hw.2.1 c12
      refine lv_tableIn (tgt := 60) hx hb dX1_tellAddress_1 (by rw [c12]; decide) (by rw [c12]; decide) (by rw [c12]; rfl) (by decide) ?_
      refine lv_aload_n hx hb dX1_tellAddress_60 rfl (lv_at hl 0 rfl) ?_
      refine g_get (v := .ref (a 7)) C hd iX1_tellAddress_X1 0 1 rfl rfl 7 (by decide) (List.mem_of_getElem? (i := 2) rfl) rfl dX1_tellAddress_61 ?_
      refine lv_iload_n hx hb dX1_tellAddress_64 rfl (lv_at hl 1 rfl) ?_
      obtain ⟨h5, hw⟩ := hw
      refine g_ild (f := hs_server σ) C hd 7 rfl h5 dX1_tellAddress_65 ?_
      exact r_i C hd dX1_tellAddress_66 () rfl hw
    · by_cases c14 : p1 = 2
      · replace hw := hw.2.2.1 c14
        refine lv_tableIn (tgt := 67) hx hb dX1_tellAddress_1 (by rw [c14]; decide) (by rw [c14]; decide) (by rw [c14]; rfl) (by decide) ?_
        refine lv_aload_n hx hb dX1_tellAddress_67 rfl (lv_at hl 0 rfl) ?_
        refine lv_iload_n hx hb dX1_tellAddress_68 rfl (lv_at hl 1 rfl) ?_
        refine v_i C hd hl M_X1_isLongWay gX1_tellAddress_X1_isLongWay (c_X1_isLongWay l B k a σ p0 _ hw) ⟨rfl, rfl⟩ ⟨Nat.le_of_ble_eq_true rfl, Nat.le_of_ble_eq_true rfl⟩ (pm_all _) (fun _ => wX1 k a σ) (fun _ => (pm_all _).symm) 0 1 rfl rfl rfl rfl rfl (Nat.le_of_ble_eq_true rfl) dX1_tellAddress_69 ⟨Nat.le_of_ble_eq_true rfl, Nat.le_of_ble_eq_true rfl⟩ (fun r _ H locs hp hd => ?_)
        obtain ⟨b69, rfl, hw⟩ := hp
        refine lv_if_eq (tgt := 79) hx hb dX1_tellAddress_72 (by decide) (fun c13 => ?_) (fun c13 => ?_)
        · replace hw := hw.2 ((bi_eq _).mp c13)
          refine lv_iconst (v := 0) hx hb dX1_tellAddress_79 (by decide) ?_
          exact r_i C hd dX1_tellAddress_80 () rfl hw
        · replace hw := hw.1 ((bi_ne _).mp c13)
          refine lv_iconst (v := 1) hx hb dX1_tellAddress_75 (by decide) ?_
          refine lv_goto (tgt := 80) hx hb dX1_tellAddress_76 (by decide) ?_
          exact r_i C hd dX1_tellAddress_80 () rfl hw
      · by_cases c15 : p1 = 3
        · replace hw := hw.2.2.2.1 c15
          refine lv_tableIn (tgt := 81) hx hb dX1_tellAddress_1 (by rw [c15]; decide) (by rw [c15]; decide) (by rw [c15]; rfl) (by decide) ?_
          refine lv_aload_n hx hb dX1_tellAddress_81 rfl (lv_at hl 0 rfl) ?_
          refine lv_iload_n hx hb dX1_tellAddress_82 rfl (lv_at hl 1 rfl) ?_
          refine v_i C hd hl M_X1_lendableTo gX1_tellAddress_X1_lendableTo (c_X1_lendableTo l B k a σ p0 _ hw) ⟨rfl, rfl⟩ ⟨Nat.le_of_ble_eq_true rfl, Nat.le_of_ble_eq_true rfl⟩ (pm_all _) (fun _ => wX1 k a σ) (fun _ => (pm_all _).symm) 0 1 rfl rfl rfl rfl rfl (Nat.le_of_ble_eq_true rfl) dX1_tellAddress_83 ⟨Nat.le_of_ble_eq_true rfl, Nat.le_of_ble_eq_true rfl⟩ (fun r83 _ H locs hw hd => ?_)
          exact r_i C hd dX1_tellAddress_86 () rfl hw
        · by_cases c17 : p1 = 4
          · replace hw := hw.2.2.2.2.1 c17
            refine lv_tableIn (tgt := 87) hx hb dX1_tellAddress_1 (by rw [c17]; decide) (by rw [c17]; decide) (by rw [c17]; rfl) (by decide) ?_
            refine lv_aload_n hx hb dX1_tellAddress_87 rfl (lv_at hl 0 rfl) ?_
            refine lv_iload_n hx hb dX1_tellAddress_88 rfl (lv_at hl 1 rfl) ?_
            refine v_i C hd hl M_X1_isLost gX1_tellAddress_X1_isLost (c_X1_isLost l B k a σ p0 _ hw) ⟨rfl, rfl⟩ ⟨Nat.le_of_ble_eq_true rfl, Nat.le_of_ble_eq_true rfl⟩ (pm_all _) (fun _ => wX1 k a σ) (fun _ => (pm_all _).symm) 0 1 rfl rfl rfl rfl rfl (Nat.le_of_ble_eq_true rfl) dX1_tellAddress_89 ⟨Nat.le_of_ble_eq_true rfl, Nat.le_of_ble_eq_true rfl⟩ (fun r _ H locs hp hd => ?_)
            obtain ⟨b89, rfl, hw⟩ := hp
            refine lv_if_eq (tgt := 100) hx hb dX1_tellAddress_92 (by decide) (fun c16 => ?_) (fun c16 => ?_)
            · replace hw := hw.2 ((bi_eq _).mp c16)
              refine lv_aload_n hx hb dX1_tellAddress_100 rfl (lv_at hl 0 rfl) ?_
              refine lv_iload_n hx hb dX1_tellAddress_101 rfl (lv_at hl 1 rfl) ?_
              refine v_i C hd hl M_X1_stepsTo gX1_tellAddress_X1_stepsTo (c_X1_stepsTo l B k a σ p0 _ hw) ⟨rfl, rfl⟩ ⟨Nat.le_of_ble_eq_true rfl, Nat.le_of_ble_eq_true rfl⟩ (pm_all _) (fun _ => wX1 k a σ) (fun _ => (pm_all _).symm) 0 1 rfl rfl rfl rfl rfl (Nat.le_of_ble_eq_true rfl) dX1_tellAddress_102 ⟨Nat.le_of_ble_eq_true rfl, Nat.le_of_ble_eq_true rfl⟩ (fun r102 _ H locs hw hd => ?_)
              exact r_i C hd dX1_tellAddress_105 () rfl hw
            · replace hw := hw.1 ((bi_ne _).mp c16)
              refine lv_bipush (v := (-5)) hx hb dX1_tellAddress_95 (by decide) ?_
              refine lv_goto (tgt := 105) hx hb dX1_tellAddress_97 (by decide) ?_
              exact r_i C hd dX1_tellAddress_105 () rfl hw
          · by_cases c18 : p1 = 5
            · replace hw := hw.2.2.2.2.2.1 c18
              refine lv_tableIn (tgt := 106) hx hb dX1_tellAddress_1 (by rw [c18]; decide) (by rw [c18]; decide) (by rw [c18]; rfl) (by decide) ?_
              refine lv_aload_n hx hb dX1_tellAddress_106 rfl (lv_at hl 0 rfl) ?_
              refine g_get (v := .ref (a 6)) C hd iX1_tellAddress_X1 0 1 rfl rfl 6 (by decide) (List.mem_of_getElem? (i := 3) rfl) rfl dX1_tellAddress_107 ?_
              refine lv_iload_n hx hb dX1_tellAddress_110 rfl (lv_at hl 1 rfl) ?_
              obtain ⟨h6, hw⟩ := hw
              refine g_ild (f := hs_rescuesOf σ) C hd 6 rfl h6 dX1_tellAddress_111 ?_
              exact r_i C hd dX1_tellAddress_112 () rfl hw
            · replace hw := hw.2.2.2.2.2.2 c11 c12 c14 c15 c17 c18
              refine lv_tableOut (tgt := 113) hx hb dX1_tellAddress_1 (by have q0 := sw_ne (z := 0) c11 (by decide); have q1 := sw_ne (z := 1) c12 (by decide); have q2 := sw_ne (z := 2) c14 (by decide); have q3 := sw_ne (z := 3) c15 (by decide); have q4 := sw_ne (z := 4) c17 (by decide); have q5 := sw_ne (z := 5) c18 (by decide); omega) (by decide) ?_
              refine lv_bipush (v := (-2)) hx hb dX1_tellAddress_113 (by decide) ?_
              exact r_i C hd dX1_tellAddress_115 () rfl hw
abbrev rm_X1_tellSector : Room := { frames := 2, cells := 0, slots := 0, locals := 44 }
theorem M_X1_tellSector : MI yX1_tellSector wsX1_tellSector cX1_tellSector 3 (some .int) 2 := ⟨⟨_, rfl⟩, by decide +kernel, by decide +kernel, by decide +kernel, by decide +kernel⟩
theorem iX1_tellSector_X1 : ∀ w ∈ wsX10, w ∈ wsX1_tellSector := fun _ h => List.mem_cons_of_mem _ (List.mem_append_right _ h)
def wpX1_tellSector (σ : HS) (p0 : Int32) (p1 : Int32) (post : Int32 → Prop) : Prop := ((p1 = 0 → (vp_in p0 64 ∧ post ((hs_wear σ) p0.toNatClampNeg))) ∧ (p1 = 1 → wpX1_gradeOf σ p0 (fun r45 => post r45)) ∧ (p1 = 2 → wpX1_isAddress σ p0 (fun b51 => ((b51 = true → post 0) ∧ (b51 = false → post 1)))) ∧ (p1 = 3 → (vp_in p0 64 ∧ post ((hs_client σ) p0.toNatClampNeg))) ∧ (p1 = 4 → wpX1_isFree σ p0 (fun b72 => ((b72 = true → post 1) ∧ (b72 = false → post 0)))) ∧ (¬ p1 = 0 → ¬ p1 = 1 → ¬ p1 = 2 → ¬ p1 = 3 → ¬ p1 = 4 → post (-2)))
set_option maxHeartbeats 4000000 in
set_option maxRecDepth 100000 in
theorem c_X1_tellSector (l : Launch) (B : va_G) (k : KT) (a : Nat → Nat) (σ : HS) (p0 : Int32) (p1 : Int32) (post : Int32 → Prop) (hw : wpX1_tellSector σ p0 p1 post) : Cti l yX1_tellSector wsX1_tellSector rm_X1_tellSector 0 0 B k [.ref (a 0), .int p0, .int p1] (wX1 k a σ) (fun _ : Unit => wX1 k a σ) (fun r _ => post r) := by
  refine Cti.of M_X1_tellSector (Nat.le_of_ble_eq_true rfl) ?_
  intro p e s m args below meth c A C hd ls hl
  have hx := C.1; have hb := C.2.1; have hml := C.2.2.1; have hts := C.2.2.2.2.1
  have hl : lv_has ls 3 [(0, .ref (a 0)), (1, .int p0), (2, .int p1)] := hl
  rw [wpX1_tellSector] at hw
  refine lv_iload_n hx hb dX1_tellSector_0 rfl (lv_at hl 2 rfl) ?_
  by_cases c8 : p1 = 0
  · replace hw := hw.1 c8
    refine lv_tableIn (tgt := 36) hx hb dX1_tellSector_1 (by rw [c8]; decide) (by rw [c8]; decide) (by rw [c8]; rfl) (by decide) ?_
    refine lv_aload_n hx hb dX1_tellSector_36 rfl (lv_at hl 0 rfl) ?_
    refine g_get (v := .ref (a 4)) C hd iX1_tellSector_X1 0 1 rfl rfl 4 (by decide) (List.mem_of_getElem? (i := 1) rfl) rfl dX1_tellSector_37 ?_
    refine lv_iload_n hx hb dX1_tellSector_40 rfl (lv_at hl 1 rfl) ?_
    obtain ⟨h3, hw⟩ := hw
    refine g_ild (f := hs_wear σ) C hd 4 rfl h3 dX1_tellSector_41 ?_
    exact r_i C hd dX1_tellSector_42 () rfl hw
  · by_cases c9 : p1 = 1
    · replace hw := hw.2.1 c9
      refine lv_tableIn (tgt := 43) hx hb dX1_tellSector_1 (by rw [c9]; decide) (by rw [c9]; decide) (by rw [c9]; rfl) (by decide) ?_
      refine lv_aload_n hx hb dX1_tellSector_43 rfl (lv_at hl 0 rfl) ?_
      refine lv_iload_n hx hb dX1_tellSector_44 rfl (lv_at hl 1 rfl) ?_
      refine v_i C hd hl M_X1_gradeOf gX1_tellSector_X1_gradeOf (c_X1_gradeOf l B k a σ p0 _ hw) ⟨rfl, rfl⟩ ⟨Nat.le_of_ble_eq_true rfl, Nat.le_of_ble_eq_true rfl⟩ (pm_all _) (fun _ => wX1 k a σ) (fun _ => (pm_all _).symm) 0 1 rfl rfl rfl rfl rfl (Nat.le_of_ble_eq_true rfl) dX1_tellSector_45 ⟨Nat.le_of_ble_eq_true rfl, Nat.le_of_ble_eq_true rfl⟩ (fun r45 _ H locs hw hd => ?_)
      exact r_i C hd dX1_tellSector_48 () rfl hw
    · by_cases c11 : p1 = 2
      · replace hw := hw.2.2.1 c11
        refine lv_tableIn (tgt := 49) hx hb dX1_tellSector_1 (by rw [c11]; decide) (by rw [c11]; decide) (by rw [c11]; rfl) (by decide) ?_
        refine lv_aload_n hx hb dX1_tellSector_49 rfl (lv_at hl 0 rfl) ?_
        refine lv_iload_n hx hb dX1_tellSector_50 rfl (lv_at hl 1 rfl) ?_
        refine v_i C hd hl M_X1_isAddress gX1_tellSector_X1_isAddress (c_X1_isAddress l B k a σ p0 _ hw) ⟨rfl, rfl⟩ ⟨Nat.le_of_ble_eq_true rfl, Nat.le_of_ble_eq_true rfl⟩ (pm_all _) (fun _ => wX1 k a σ) (fun _ => (pm_all _).symm) 0 1 rfl rfl rfl rfl rfl (Nat.le_of_ble_eq_true rfl) dX1_tellSector_51 ⟨Nat.le_of_ble_eq_true rfl, Nat.le_of_ble_eq_true rfl⟩ (fun r _ H locs hp hd => ?_)
        obtain ⟨b51, rfl, hw⟩ := hp
        refine lv_if_eq (tgt := 61) hx hb dX1_tellSector_54 (by decide) (fun c10 => ?_) (fun c10 => ?_)
        · replace hw := hw.2 ((bi_eq _).mp c10)
          refine lv_iconst (v := 1) hx hb dX1_tellSector_61 (by decide) ?_
          exact r_i C hd dX1_tellSector_62 () rfl hw
        · replace hw := hw.1 ((bi_ne _).mp c10)
          refine lv_iconst (v := 0) hx hb dX1_tellSector_57 (by decide) ?_
          refine lv_goto (tgt := 62) hx hb dX1_tellSector_58 (by decide) ?_
          exact r_i C hd dX1_tellSector_62 () rfl hw
      · by_cases c12 : p1 = 3
        · replace hw := hw.2.2.2.1 c12
          refine lv_tableIn (tgt := 63) hx hb dX1_tellSector_1 (by rw [c12]; decide) (by rw [c12]; decide) (by rw [c12]; rfl) (by decide) ?_
          refine lv_aload_n hx hb dX1_tellSector_63 rfl (lv_at hl 0 rfl) ?_
          refine g_get (v := .ref (a 8)) C hd iX1_tellSector_X1 0 1 rfl rfl 8 (by decide) (List.mem_of_getElem? (i := 2) rfl) rfl dX1_tellSector_64 ?_
          refine lv_iload_n hx hb dX1_tellSector_67 rfl (lv_at hl 1 rfl) ?_
          obtain ⟨h4, hw⟩ := hw
          refine g_ild (f := hs_client σ) C hd 8 rfl h4 dX1_tellSector_68 ?_
          exact r_i C hd dX1_tellSector_69 () rfl hw
        · by_cases c14 : p1 = 4
          · replace hw := hw.2.2.2.2.1 c14
            refine lv_tableIn (tgt := 70) hx hb dX1_tellSector_1 (by rw [c14]; decide) (by rw [c14]; decide) (by rw [c14]; rfl) (by decide) ?_
            refine lv_aload_n hx hb dX1_tellSector_70 rfl (lv_at hl 0 rfl) ?_
            refine lv_iload_n hx hb dX1_tellSector_71 rfl (lv_at hl 1 rfl) ?_
            refine v_i C hd hl M_X1_isFree gX1_tellSector_X1_isFree (c_X1_isFree l B k a σ p0 _ hw) ⟨rfl, rfl⟩ ⟨Nat.le_of_ble_eq_true rfl, Nat.le_of_ble_eq_true rfl⟩ (pm_all _) (fun _ => wX1 k a σ) (fun _ => (pm_all _).symm) 0 1 rfl rfl rfl rfl rfl (Nat.le_of_ble_eq_true rfl) dX1_tellSector_72 ⟨Nat.le_of_ble_eq_true rfl, Nat.le_of_ble_eq_true rfl⟩ (fun r _ H locs hp hd => ?_)
            obtain ⟨b72, rfl, hw⟩ := hp
            refine lv_if_eq (tgt := 82) hx hb dX1_tellSector_75 (by decide) (fun c13 => ?_) (fun c13 => ?_)
            · replace hw := hw.2 ((bi_eq _).mp c13)
              refine lv_iconst (v := 0) hx hb dX1_tellSector_82 (by decide) ?_
              exact r_i C hd dX1_tellSector_83 () rfl hw
            · replace hw := hw.1 ((bi_ne _).mp c13)
              refine lv_iconst (v := 1) hx hb dX1_tellSector_78 (by decide) ?_
              refine lv_goto (tgt := 83) hx hb dX1_tellSector_79 (by decide) ?_
              exact r_i C hd dX1_tellSector_83 () rfl hw
          · replace hw := hw.2.2.2.2.2 c8 c9 c11 c12 c14
            refine lv_tableOut (tgt := 84) hx hb dX1_tellSector_1 (by have q0 := sw_ne (z := 0) c8 (by decide); have q1 := sw_ne (z := 1) c9 (by decide); have q2 := sw_ne (z := 2) c11 (by decide); have q3 := sw_ne (z := 3) c12 (by decide); have q4 := sw_ne (z := 4) c14 (by decide); omega) (by decide) ?_
            refine lv_bipush (v := (-2)) hx hb dX1_tellSector_84 (by decide) ?_
            exact r_i C hd dX1_tellSector_86 () rfl hw
abbrev rm_X1_leadingElsewhere : Room := { frames := 1, cells := 0, slots := 0, locals := 20 }
theorem M_X1_leadingElsewhere : MI yX1_leadingElsewhere wsX1_leadingElsewhere cX1_leadingElsewhere 6 (some .int) 2 := ⟨⟨_, rfl⟩, by decide +kernel, by decide +kernel, by decide +kernel, by decide +kernel⟩
def wpX1_leadingElsewhere_L5 (f : Nat → Int32) (p1 : Int32) (post : Int32 → Prop) : Nat → Int32 → Int32 → Prop
  | 0, _, _ => False
  | n5 + 1, v5l3, v5l4 => ((16 ≤ v5l4 → post v5l3) ∧ (¬ 16 ≤ v5l4 → (vp_in ((p1 * 16) + v5l4) 64 ∧ (((f ((p1 * 16) + v5l4).toNatClampNeg) = (-5) → wpX1_leadingElsewhere_L5 f p1 post n5 v5l3 (v5l4 + 1)) ∧ (¬ (f ((p1 * 16) + v5l4).toNatClampNeg) = (-5) → wpX3_headOf (f ((p1 * 16) + v5l4).toNatClampNeg) (fun r32 => ((r32 = p1 → wpX1_leadingElsewhere_L5 f p1 post n5 v5l3 (v5l4 + 1)) ∧ (¬ r32 = p1 → wpX1_leadingElsewhere_L5 f p1 post n5 (v5l3 + 1) (v5l4 + 1)))))))))
def wpX1_leadingElsewhere (f : Nat → Int32) (p1 : Int32) (post : Int32 → Prop) : Prop := ∃ n5 : Nat, wpX1_leadingElsewhere_L5 f p1 post n5 0 0
set_option maxHeartbeats 4000000 in
set_option maxRecDepth 100000 in
theorem c_X1_leadingElsewhere (l : Launch) (B : va_G) (k : KT) (h : Nat) (t : Nat) (f : Nat → Int32) (p1 : Int32) (post : Int32 → Prop) (hw : wpX1_leadingElsewhere f p1 post) : Cti l yX1_leadingElsewhere wsX1_leadingElsewhere rm_X1_leadingElsewhere 0 0 B k [.ref h, .ref t, .int p1] ([(t, .inl (k.1, 64, .inl f))]) (fun _ : Unit => [(t, .inl (k.1, 64, .inl f))]) (fun r _ => post r) := by
  refine Cti.of M_X1_leadingElsewhere (Nat.le_of_ble_eq_true rfl) ?_
  intro p e s m args below meth c A C hd ls hl
  have hx := C.1; have hb := C.2.1; have hml := C.2.2.1; have hts := C.2.2.2.2.1
  have hl : lv_has ls 6 [(0, .ref h), (1, .ref t), (2, .int p1)] := hl
  have L5 : ∀ (n5 : Nat), ∀ (v5l3 : Int32) (v5l4 : Int32) (H : Heap) (locs : List Loc) (ls : Array Slot), Wd B A s.heap ([(t, .inl (k.1, 64, .inl f))]) H locs → lv_has ls 6 [(1, .ref t), (2, .int p1), (3, .int v5l3), (4, .int v5l4)] → wpX1_leadingElsewhere_L5 f p1 post n5 v5l3 v5l4 → W p l e rm_X1_leadingElsewhere s m args below meth c H locs 0 0 (Qi below args s B A (fun _ : Unit => [(t, .inl (k.1, 64, .inl f))]) (fun r _ => post r) 0 0) (F0 m 5 ls []) := by
    intro n5
    induction n5 with
    | zero => intro v5l3 v5l4 H locs ls hd hl hw; exact absurd hw (by simp [wpX1_leadingElsewhere_L5])
    | succ n5 ih5 =>
      intro v5l3 v5l4 H locs ls hd hl hw
      rw [wpX1_leadingElsewhere_L5] at hw
      refine lv_iload hx hb dX1_leadingElsewhere_5 (lv_at hl 3 rfl) ?_
      refine lv_bipush (v := 16) hx hb dX1_leadingElsewhere_7 (by decide) ?_
      refine lv_icmp_ge (tgt := 48) hx hb dX1_leadingElsewhere_9 (by decide) (fun c13 => ?_) (fun c13 => ?_)
      · replace hw := hw.1 c13
        refine lv_iload_n hx hb dX1_leadingElsewhere_48 rfl (lv_at hl 2 rfl) ?_
        exact r_i C hd dX1_leadingElsewhere_49 () rfl hw
      · replace hw := hw.2 c13
        refine lv_aload_n hx hb dX1_leadingElsewhere_12 rfl (lv_at hl 0 rfl) ?_
        refine lv_iload_n hx hb dX1_leadingElsewhere_13 rfl (lv_at hl 1 rfl) ?_
        refine lv_bipush (v := 16) hx hb dX1_leadingElsewhere_14 (by decide) ?_
        refine lv_imul hx hb dX1_leadingElsewhere_16 ?_
        refine lv_iload hx hb dX1_leadingElsewhere_17 (lv_at hl 3 rfl) ?_
        refine lv_iadd hx hb dX1_leadingElsewhere_19 ?_
        obtain ⟨h5, hw⟩ := hw
        refine g_ild (f := f) C hd 0 rfl h5 dX1_leadingElsewhere_20 ?_
        refine lv_istore (lv' := [(5, .int (f ((p1 * 16) + v5l4).toNatClampNeg)), (1, .ref t), (2, .int p1), (3, .int v5l3), (4, .int v5l4)]) hx hb dX1_leadingElsewhere_21 hl (by decide) rfl (fun ls hl => ?_)
        refine lv_iload hx hb dX1_leadingElsewhere_23 (lv_at hl 0 rfl) ?_
        refine lv_bipush (v := (-5)) hx hb dX1_leadingElsewhere_25 (by decide) ?_
        refine lv_icmp_eq (tgt := 42) hx hb dX1_leadingElsewhere_27 (by decide) (fun c14 => ?_) (fun c14 => ?_)
        · replace hw := hw.1 c14
          refine lv_iinc (v := v5l4 + 1) (lv' := [(4, .int (v5l4 + 1)), (5, .int (f ((p1 * 16) + v5l4).toNatClampNeg)), (1, .ref t), (2, .int p1), (3, .int v5l3)]) hx hb dX1_leadingElsewhere_42 hl (k := 4) rfl rfl (by decide) rfl (fun ls hl => ?_)
          refine lv_goto (tgt := 5) hx hb dX1_leadingElsewhere_45 (by decide) ?_
          exact ih5 v5l3 (v5l4 + 1) _ _ _ hd (lv_sub hl [2, 3, 4, 0] rfl) hw
        · replace hw := hw.2 c14
          refine lv_iload hx hb dX1_leadingElsewhere_30 (lv_at hl 0 rfl) ?_
          refine n_i C hd hl M_X3_headOf gX1_leadingElsewhere_X3_headOf_n80 (List.mem_of_getElem? (i := 2) rfl) (List.mem_of_getElem? (i := 1) rfl) (List.mem_of_getElem? (i := 2) rfl) (c_X3_headOf l B k (f ((p1 * 16) + v5l4).toNatClampNeg) _ hw) ⟨rfl, rfl⟩ ⟨Nat.le_of_ble_eq_true rfl, Nat.le_of_ble_eq_true rfl⟩ (pm_non _) (fun _ => [(t, .inl (k.1, 64, .inl f))]) (fun _ => List.Perm.refl _) rfl rfl (Nat.le_of_ble_eq_true rfl) dX1_leadingElsewhere_32 ⟨Nat.le_of_ble_eq_true rfl, Nat.le_of_ble_eq_true rfl⟩ (fun r32 _ H locs hw hd => ?_)
          refine lv_iload_n hx hb dX1_leadingElsewhere_35 rfl (lv_at hl 2 rfl) ?_
          refine lv_icmp_eq (tgt := 42) hx hb dX1_leadingElsewhere_36 (by decide) (fun c15 => ?_) (fun c15 => ?_)
          · replace hw := hw.1 c15
            refine lv_iinc (v := v5l4 + 1) (lv' := [(4, .int (v5l4 + 1)), (5, .int (f ((p1 * 16) + v5l4).toNatClampNeg)), (1, .ref t), (2, .int p1), (3, .int v5l3)]) hx hb dX1_leadingElsewhere_42 hl (k := 4) rfl rfl (by decide) rfl (fun ls hl => ?_)
            refine lv_goto (tgt := 5) hx hb dX1_leadingElsewhere_45 (by decide) ?_
            exact ih5 v5l3 (v5l4 + 1) _ _ _ hd (lv_sub hl [2, 3, 4, 0] rfl) hw
          · replace hw := hw.2 c15
            refine lv_iinc (v := v5l3 + 1) (lv' := [(3, .int (v5l3 + 1)), (5, .int (f ((p1 * 16) + v5l4).toNatClampNeg)), (1, .ref t), (2, .int p1), (4, .int v5l4)]) hx hb dX1_leadingElsewhere_39 hl (k := 3) rfl rfl (by decide) rfl (fun ls hl => ?_)
            refine lv_iinc (v := v5l4 + 1) (lv' := [(4, .int (v5l4 + 1)), (3, .int (v5l3 + 1)), (5, .int (f ((p1 * 16) + v5l4).toNatClampNeg)), (1, .ref t), (2, .int p1)]) hx hb dX1_leadingElsewhere_42 hl (k := 4) rfl rfl (by decide) rfl (fun ls hl => ?_)
            refine lv_goto (tgt := 5) hx hb dX1_leadingElsewhere_45 (by decide) ?_
            exact ih5 (v5l3 + 1) (v5l4 + 1) _ _ _ hd (lv_sub hl [3, 4, 1, 0] rfl) hw
  rw [wpX1_leadingElsewhere] at hw
  refine lv_iconst (v := 0) hx hb dX1_leadingElsewhere_0 (by decide) ?_
  refine lv_istore_n (lv' := [(3, .int 0), (0, .ref h), (1, .ref t), (2, .int p1)]) hx hb dX1_leadingElsewhere_1 rfl hl (by decide) rfl (fun ls hl => ?_)
  refine lv_iconst (v := 0) hx hb dX1_leadingElsewhere_2 (by decide) ?_
  refine lv_istore (lv' := [(4, .int 0), (3, .int 0), (0, .ref h), (1, .ref t), (2, .int p1)]) hx hb dX1_leadingElsewhere_3 hl (by decide) rfl (fun ls hl => ?_)
  obtain ⟨n, hw⟩ := hw
  exact L5 n 0 0 _ _ _ hd (lv_sub hl [3, 4, 1, 0] rfl) hw
abbrev rm_X1_wearOf : Room := { frames := 0, cells := 0, slots := 0, locals := 0 }
theorem M_X1_wearOf : MI yX1_wearOf wsX1_wearOf cX1_wearOf 4 (some .int) 1 := ⟨⟨_, rfl⟩, by decide +kernel, by decide +kernel, by decide +kernel, by decide +kernel⟩
theorem iX1_wearOf_X1 : ∀ w ∈ wsX10, w ∈ wsX1_wearOf := fun _ h => List.mem_cons_of_mem _ (List.mem_append_right _ h)
def wpX1_wearOf_L4 (σ : HS) (p0 : Int32) (post : Int32 → Prop) : Nat → Int32 → Int32 → Prop
  | 0, _, _ => False
  | n4 + 1, v4l2, v4l3 => ((16 ≤ v4l3 → post v4l2) ∧ (¬ 16 ≤ v4l3 → (vp_in ((p0 * 16) + v4l3) 64 ∧ wpX1_wearOf_L4 σ p0 post n4 (v4l2 + ((hs_wear σ) ((p0 * 16) + v4l3).toNatClampNeg)) (v4l3 + 1))))
def wpX1_wearOf (σ : HS) (p0 : Int32) (post : Int32 → Prop) : Prop := ∃ n4 : Nat, wpX1_wearOf_L4 σ p0 post n4 0 0
set_option maxHeartbeats 4000000 in
set_option maxRecDepth 100000 in
theorem c_X1_wearOf (l : Launch) (B : va_G) (k : KT) (a : Nat → Nat) (σ : HS) (p0 : Int32) (post : Int32 → Prop) (hw : wpX1_wearOf σ p0 post) : Cti l yX1_wearOf wsX1_wearOf rm_X1_wearOf 0 0 B k [.ref (a 0), .int p0] (wX1 k a σ) (fun _ : Unit => wX1 k a σ) (fun r _ => post r) := by
  refine Cti.of M_X1_wearOf (Nat.le_of_ble_eq_true rfl) ?_
  intro p e s m args below meth c A C hd ls hl
  have hx := C.1; have hb := C.2.1; have hml := C.2.2.1; have hts := C.2.2.2.2.1
  have hl : lv_has ls 4 [(0, .ref (a 0)), (1, .int p0)] := hl
  have L4 : ∀ (n4 : Nat), ∀ (v4l2 : Int32) (v4l3 : Int32) (H : Heap) (locs : List Loc) (ls : Array Slot), Wd B A s.heap (wX1 k a σ) H locs → lv_has ls 4 [(0, .ref (a 0)), (1, .int p0), (2, .int v4l2), (3, .int v4l3)] → wpX1_wearOf_L4 σ p0 post n4 v4l2 v4l3 → W p l e rm_X1_wearOf s m args below meth c H locs 0 0 (Qi below args s B A (fun _ : Unit => wX1 k a σ) (fun r _ => post r) 0 0) (F0 m 4 ls []) := by
    intro n4
    induction n4 with
    | zero => intro v4l2 v4l3 H locs ls hd hl hw; exact absurd hw (by simp [wpX1_wearOf_L4])
    | succ n4 ih4 =>
      intro v4l2 v4l3 H locs ls hd hl hw
      rw [wpX1_wearOf_L4] at hw
      refine lv_iload_n hx hb dX1_wearOf_4 rfl (lv_at hl 3 rfl) ?_
      refine lv_bipush (v := 16) hx hb dX1_wearOf_5 (by decide) ?_
      refine lv_icmp_ge (tgt := 30) hx hb dX1_wearOf_7 (by decide) (fun c5 => ?_) (fun c5 => ?_)
      · replace hw := hw.1 c5
        refine lv_iload_n hx hb dX1_wearOf_30 rfl (lv_at hl 2 rfl) ?_
        exact r_i C hd dX1_wearOf_31 () rfl hw
      · replace hw := hw.2 c5
        refine lv_iload_n hx hb dX1_wearOf_10 rfl (lv_at hl 2 rfl) ?_
        refine lv_aload_n hx hb dX1_wearOf_11 rfl (lv_at hl 0 rfl) ?_
        refine g_get (v := .ref (a 4)) C hd iX1_wearOf_X1 0 1 rfl rfl 4 (by decide) (List.mem_of_getElem? (i := 1) rfl) rfl dX1_wearOf_12 ?_
        refine lv_iload_n hx hb dX1_wearOf_15 rfl (lv_at hl 1 rfl) ?_
        refine lv_bipush (v := 16) hx hb dX1_wearOf_16 (by decide) ?_
        refine lv_imul hx hb dX1_wearOf_18 ?_
        refine lv_iload_n hx hb dX1_wearOf_19 rfl (lv_at hl 3 rfl) ?_
        refine lv_iadd hx hb dX1_wearOf_20 ?_
        obtain ⟨h5, hw⟩ := hw
        refine g_ild (f := hs_wear σ) C hd 4 rfl h5 dX1_wearOf_21 ?_
        refine lv_iadd hx hb dX1_wearOf_22 ?_
        refine lv_istore_n (lv' := [(2, .int (v4l2 + ((hs_wear σ) ((p0 * 16) + v4l3).toNatClampNeg))), (0, .ref (a 0)), (1, .int p0), (3, .int v4l3)]) hx hb dX1_wearOf_23 rfl hl (by decide) rfl (fun ls hl => ?_)
        refine lv_iinc (v := v4l3 + 1) (lv' := [(3, .int (v4l3 + 1)), (2, .int (v4l2 + ((hs_wear σ) ((p0 * 16) + v4l3).toNatClampNeg))), (0, .ref (a 0)), (1, .int p0)]) hx hb dX1_wearOf_24 hl (k := 3) rfl rfl (by decide) rfl (fun ls hl => ?_)
        refine lv_goto (tgt := 4) hx hb dX1_wearOf_27 (by decide) ?_
        exact ih4 (v4l2 + ((hs_wear σ) ((p0 * 16) + v4l3).toNatClampNeg)) (v4l3 + 1) _ _ _ hd (lv_sub hl [2, 3, 1, 0] rfl) hw
  rw [wpX1_wearOf] at hw
  refine lv_iconst (v := 0) hx hb dX1_wearOf_0 (by decide) ?_
  refine lv_istore_n (lv' := [(2, .int 0), (0, .ref (a 0)), (1, .int p0)]) hx hb dX1_wearOf_1 rfl hl (by decide) rfl (fun ls hl => ?_)
  refine lv_iconst (v := 0) hx hb dX1_wearOf_2 (by decide) ?_
  refine lv_istore_n (lv' := [(3, .int 0), (2, .int 0), (0, .ref (a 0)), (1, .int p0)]) hx hb dX1_wearOf_3 rfl hl (by decide) rfl (fun ls hl => ?_)
  obtain ⟨n, hw⟩ := hw
  exact L4 n 0 0 _ _ _ hd (lv_sub hl [2, 3, 1, 0] rfl) hw
abbrev rm_X1_gradedOf : Room := { frames := 2, cells := 0, slots := 0, locals := 42 }
theorem M_X1_gradedOf : MI yX1_gradedOf wsX1_gradedOf cX1_gradedOf 5 (some .int) 2 := ⟨⟨_, rfl⟩, by decide +kernel, by decide +kernel, by decide +kernel, by decide +kernel⟩
theorem iX1_gradedOf_X1 : ∀ w ∈ wsX10, w ∈ wsX1_gradedOf := fun _ h => List.mem_cons_of_mem _ (List.mem_append_right _ h)
def wpX1_gradedOf_L5 (σ : HS) (p0 : Int32) (p1 : Int32) (post : Int32 → Prop) : Nat → Int32 → Int32 → Prop
  | 0, _, _ => False
  | n5 + 1, v5l3, v5l4 => ((16 ≤ v5l4 → post v5l3) ∧ (¬ 16 ≤ v5l4 → wpX1_gradeOf σ ((p0 * 16) + v5l4) (fun r20 => ((r20 = p1 → wpX1_gradedOf_L5 σ p0 p1 post n5 (v5l3 + 1) (v5l4 + 1)) ∧ (¬ r20 = p1 → wpX1_gradedOf_L5 σ p0 p1 post n5 v5l3 (v5l4 + 1))))))
def wpX1_gradedOf (σ : HS) (p0 : Int32) (p1 : Int32) (post : Int32 → Prop) : Prop := ∃ n5 : Nat, wpX1_gradedOf_L5 σ p0 p1 post n5 0 0
set_option maxHeartbeats 4000000 in
set_option maxRecDepth 100000 in
theorem c_X1_gradedOf (l : Launch) (B : va_G) (k : KT) (a : Nat → Nat) (σ : HS) (p0 : Int32) (p1 : Int32) (post : Int32 → Prop) (hw : wpX1_gradedOf σ p0 p1 post) : Cti l yX1_gradedOf wsX1_gradedOf rm_X1_gradedOf 0 0 B k [.ref (a 0), .int p0, .int p1] (wX1 k a σ) (fun _ : Unit => wX1 k a σ) (fun r _ => post r) := by
  refine Cti.of M_X1_gradedOf (Nat.le_of_ble_eq_true rfl) ?_
  intro p e s m args below meth c A C hd ls hl
  have hx := C.1; have hb := C.2.1; have hml := C.2.2.1; have hts := C.2.2.2.2.1
  have hl : lv_has ls 5 [(0, .ref (a 0)), (1, .int p0), (2, .int p1)] := hl
  have L5 : ∀ (n5 : Nat), ∀ (v5l3 : Int32) (v5l4 : Int32) (H : Heap) (locs : List Loc) (ls : Array Slot), Wd B A s.heap (wX1 k a σ) H locs → lv_has ls 5 [(0, .ref (a 0)), (1, .int p0), (2, .int p1), (3, .int v5l3), (4, .int v5l4)] → wpX1_gradedOf_L5 σ p0 p1 post n5 v5l3 v5l4 → W p l e rm_X1_gradedOf s m args below meth c H locs 0 0 (Qi below args s B A (fun _ : Unit => wX1 k a σ) (fun r _ => post r) 0 0) (F0 m 5 ls []) := by
    intro n5
    induction n5 with
    | zero => intro v5l3 v5l4 H locs ls hd hl hw; exact absurd hw (by simp [wpX1_gradedOf_L5])
    | succ n5 ih5 =>
      intro v5l3 v5l4 H locs ls hd hl hw
      rw [wpX1_gradedOf_L5] at hw
      refine lv_iload hx hb dX1_gradedOf_5 (lv_at hl 4 rfl) ?_
      refine lv_bipush (v := 16) hx hb dX1_gradedOf_7 (by decide) ?_
      refine lv_icmp_ge (tgt := 36) hx hb dX1_gradedOf_9 (by decide) (fun c9 => ?_) (fun c9 => ?_)
      · replace hw := hw.1 c9
        refine lv_iload_n hx hb dX1_gradedOf_36 rfl (lv_at hl 3 rfl) ?_
        exact r_i C hd dX1_gradedOf_37 () rfl hw
      · replace hw := hw.2 c9
        refine lv_aload_n hx hb dX1_gradedOf_12 rfl (lv_at hl 0 rfl) ?_
        refine lv_iload_n hx hb dX1_gradedOf_13 rfl (lv_at hl 1 rfl) ?_
        refine lv_bipush (v := 16) hx hb dX1_gradedOf_14 (by decide) ?_
        refine lv_imul hx hb dX1_gradedOf_16 ?_
        refine lv_iload hx hb dX1_gradedOf_17 (lv_at hl 4 rfl) ?_
        refine lv_iadd hx hb dX1_gradedOf_19 ?_
        refine v_i C hd hl M_X1_gradeOf gX1_gradedOf_X1_gradeOf (c_X1_gradeOf l B k a σ ((p0 * 16) + v5l4) _ hw) ⟨rfl, rfl⟩ ⟨Nat.le_of_ble_eq_true rfl, Nat.le_of_ble_eq_true rfl⟩ (pm_all _) (fun _ => wX1 k a σ) (fun _ => (pm_all _).symm) 0 1 rfl rfl rfl rfl rfl (Nat.le_of_ble_eq_true rfl) dX1_gradedOf_20 ⟨Nat.le_of_ble_eq_true rfl, Nat.le_of_ble_eq_true rfl⟩ (fun r20 _ H locs hw hd => ?_)
        refine lv_iload_n hx hb dX1_gradedOf_23 rfl (lv_at hl 2 rfl) ?_
        refine lv_icmp_ne (tgt := 30) hx hb dX1_gradedOf_24 (by decide) (fun c10 => ?_) (fun c10 => ?_)
        · replace hw := hw.2 c10
          refine lv_iinc (v := v5l4 + 1) (lv' := [(4, .int (v5l4 + 1)), (0, .ref (a 0)), (1, .int p0), (2, .int p1), (3, .int v5l3)]) hx hb dX1_gradedOf_30 hl (k := 4) rfl rfl (by decide) rfl (fun ls hl => ?_)
          refine lv_goto (tgt := 5) hx hb dX1_gradedOf_33 (by decide) ?_
          exact ih5 v5l3 (v5l4 + 1) _ _ _ hd (lv_sub hl [1, 2, 3, 4, 0] rfl) hw
        · replace hw := hw.1 c10
          refine lv_iinc (v := v5l3 + 1) (lv' := [(3, .int (v5l3 + 1)), (0, .ref (a 0)), (1, .int p0), (2, .int p1), (4, .int v5l4)]) hx hb dX1_gradedOf_27 hl (k := 3) rfl rfl (by decide) rfl (fun ls hl => ?_)
          refine lv_iinc (v := v5l4 + 1) (lv' := [(4, .int (v5l4 + 1)), (3, .int (v5l3 + 1)), (0, .ref (a 0)), (1, .int p0), (2, .int p1)]) hx hb dX1_gradedOf_30 hl (k := 4) rfl rfl (by decide) rfl (fun ls hl => ?_)
          refine lv_goto (tgt := 5) hx hb dX1_gradedOf_33 (by decide) ?_
          exact ih5 (v5l3 + 1) (v5l4 + 1) _ _ _ hd (lv_sub hl [2, 3, 4, 1, 0] rfl) hw
  rw [wpX1_gradedOf] at hw
  refine lv_iconst (v := 0) hx hb dX1_gradedOf_0 (by decide) ?_
  refine lv_istore_n (lv' := [(3, .int 0), (0, .ref (a 0)), (1, .int p0), (2, .int p1)]) hx hb dX1_gradedOf_1 rfl hl (by decide) rfl (fun ls hl => ?_)
  refine lv_iconst (v := 0) hx hb dX1_gradedOf_2 (by decide) ?_
  refine lv_istore (lv' := [(4, .int 0), (3, .int 0), (0, .ref (a 0)), (1, .int p0), (2, .int p1)]) hx hb dX1_gradedOf_3 hl (by decide) rfl (fun ls hl => ?_)
  obtain ⟨n, hw⟩ := hw
  exact L5 n 0 0 _ _ _ hd (lv_sub hl [2, 3, 4, 1, 0] rfl) hw
abbrev rm_X1_tellHead : Room := { frames := 3, cells := 0, slots := 0, locals := 67 }
theorem M_X1_tellHead : MI yX1_tellHead wsX1_tellHead cX1_tellHead 3 (some .int) 2 := ⟨⟨_, rfl⟩, by decide +kernel, by decide +kernel, by decide +kernel, by decide +kernel⟩
theorem iX1_tellHead_X1 : ∀ w ∈ wsX10, w ∈ wsX1_tellHead := fun _ h => List.mem_cons_of_mem _ (List.mem_append_right _ h)
def wpX1_tellHead (σ : HS) (p0 : Int32) (p1 : Int32) (post : Int32 → Prop) : Prop := ((p1 = 0 → (vp_in p0 4 ∧ post ((hs_ageing σ) p0.toNatClampNeg))) ∧ (p1 = 1 → (vp_in p0 4 ∧ post ((hs_spares σ) p0.toNatClampNeg))) ∧ (p1 = 2 → wpX1_freeOf σ p0 (fun r72 => post r72)) ∧ (p1 = 3 → (vp_in p0 4 ∧ ((((hs_givenUp σ) p0.toNatClampNeg) = 0 → post 0) ∧ (¬ ((hs_givenUp σ) p0.toNatClampNeg) = 0 → post 1)))) ∧ (p1 = 4 → wpX1_leadingElsewhere (hs_client σ) p0 (fun r97 => post r97)) ∧ (p1 = 5 → wpX1_leadingElsewhere (hs_server σ) p0 (fun r107 => post r107)) ∧ (p1 = 6 → wpX1_lostOf σ p0 (fun r113 => post r113)) ∧ (p1 = 7 → wpX1_wearOf σ p0 (fun r119 => post r119)) ∧ (p1 = 8 → wpX1_gradedOf σ p0 1 (fun r126 => post r126)) ∧ (p1 = 9 → wpX1_gradedOf σ p0 2 (fun r133 => post r133)) ∧ (¬ p1 = 0 → ¬ p1 = 1 → ¬ p1 = 2 → ¬ p1 = 3 → ¬ p1 = 4 → ¬ p1 = 5 → ¬ p1 = 6 → ¬ p1 = 7 → ¬ p1 = 8 → ¬ p1 = 9 → post (-2)))
set_option maxHeartbeats 4000000 in
set_option maxRecDepth 100000 in
theorem c_X1_tellHead (l : Launch) (B : va_G) (k : KT) (a : Nat → Nat) (σ : HS) (p0 : Int32) (p1 : Int32) (post : Int32 → Prop) (hw : wpX1_tellHead σ p0 p1 post) : Cti l yX1_tellHead wsX1_tellHead rm_X1_tellHead 0 0 B k [.ref (a 0), .int p0, .int p1] (wX1 k a σ) (fun _ : Unit => wX1 k a σ) (fun r _ => post r) := by
  refine Cti.of M_X1_tellHead (Nat.le_of_ble_eq_true rfl) ?_
  intro p e s m args below meth c A C hd ls hl
  have hx := C.1; have hb := C.2.1; have hml := C.2.2.1; have hts := C.2.2.2.2.1
  have hl : lv_has ls 3 [(0, .ref (a 0)), (1, .int p0), (2, .int p1)] := hl
  rw [wpX1_tellHead] at hw
  refine lv_iload_n hx hb dX1_tellHead_0 rfl (lv_at hl 2 rfl) ?_
  by_cases c12 : p1 = 0
  · replace hw := hw.1 c12
    refine lv_tableIn (tgt := 56) hx hb dX1_tellHead_1 (by rw [c12]; decide) (by rw [c12]; decide) (by rw [c12]; rfl) (by decide) ?_
    refine lv_aload_n hx hb dX1_tellHead_56 rfl (lv_at hl 0 rfl) ?_
    refine g_get (v := .ref (a 1)) C hd iX1_tellHead_X1 0 1 rfl rfl 1 (by decide) (List.mem_of_getElem? (i := 1) rfl) rfl dX1_tellHead_57 ?_
    refine lv_iload_n hx hb dX1_tellHead_60 rfl (lv_at hl 1 rfl) ?_
    obtain ⟨h4, hw⟩ := hw
    refine g_ild (f := hs_ageing σ) C hd 1 rfl h4 dX1_tellHead_61 ?_
    exact r_i C hd dX1_tellHead_62 () rfl hw
  · by_cases c13 : p1 = 1
    · replace hw := hw.2.1 c13
      refine lv_tableIn (tgt := 63) hx hb dX1_tellHead_1 (by rw [c13]; decide) (by rw [c13]; decide) (by rw [c13]; rfl) (by decide) ?_
      refine lv_aload_n hx hb dX1_tellHead_63 rfl (lv_at hl 0 rfl) ?_
      refine g_get (v := .ref (a 2)) C hd iX1_tellHead_X1 0 1 rfl rfl 2 (by decide) (List.mem_of_getElem? (i := 2) rfl) rfl dX1_tellHead_64 ?_
      refine lv_iload_n hx hb dX1_tellHead_67 rfl (lv_at hl 1 rfl) ?_
      obtain ⟨h5, hw⟩ := hw
      refine g_ild (f := hs_spares σ) C hd 2 rfl h5 dX1_tellHead_68 ?_
      exact r_i C hd dX1_tellHead_69 () rfl hw
    · by_cases c14 : p1 = 2
      · replace hw := hw.2.2.1 c14
        refine lv_tableIn (tgt := 70) hx hb dX1_tellHead_1 (by rw [c14]; decide) (by rw [c14]; decide) (by rw [c14]; rfl) (by decide) ?_
        refine lv_aload_n hx hb dX1_tellHead_70 rfl (lv_at hl 0 rfl) ?_
        refine lv_iload_n hx hb dX1_tellHead_71 rfl (lv_at hl 1 rfl) ?_
        refine v_i C hd hl M_X1_freeOf gX1_tellHead_X1_freeOf (c_X1_freeOf l B k a σ p0 _ hw) ⟨rfl, rfl⟩ ⟨Nat.le_of_ble_eq_true rfl, Nat.le_of_ble_eq_true rfl⟩ (pm_all _) (fun _ => wX1 k a σ) (fun _ => (pm_all _).symm) 0 1 rfl rfl rfl rfl rfl (Nat.le_of_ble_eq_true rfl) dX1_tellHead_72 ⟨Nat.le_of_ble_eq_true rfl, Nat.le_of_ble_eq_true rfl⟩ (fun r72 _ H locs hw hd => ?_)
        exact r_i C hd dX1_tellHead_75 () rfl hw
      · by_cases c16 : p1 = 3
        · replace hw := hw.2.2.2.1 c16
          refine lv_tableIn (tgt := 76) hx hb dX1_tellHead_1 (by rw [c16]; decide) (by rw [c16]; decide) (by rw [c16]; rfl) (by decide) ?_
          refine lv_aload_n hx hb dX1_tellHead_76 rfl (lv_at hl 0 rfl) ?_
          refine g_get (v := .ref (a 3)) C hd iX1_tellHead_X1 0 1 rfl rfl 3 (by decide) (List.mem_of_getElem? (i := 3) rfl) rfl dX1_tellHead_77 ?_
          refine lv_iload_n hx hb dX1_tellHead_80 rfl (lv_at hl 1 rfl) ?_
          obtain ⟨h6, hw⟩ := hw
          refine g_zld (f := hs_givenUp σ) C hd 3 rfl h6 dX1_tellHead_81 ?_
          refine lv_if_eq (tgt := 89) hx hb dX1_tellHead_82 (by decide) (fun c15 => ?_) (fun c15 => ?_)
          · replace hw := hw.1 c15
            refine lv_iconst (v := 0) hx hb dX1_tellHead_89 (by decide) ?_
            exact r_i C hd dX1_tellHead_90 () rfl hw
          · replace hw := hw.2 c15
            refine lv_iconst (v := 1) hx hb dX1_tellHead_85 (by decide) ?_
            refine lv_goto (tgt := 90) hx hb dX1_tellHead_86 (by decide) ?_
            exact r_i C hd dX1_tellHead_90 () rfl hw
        · by_cases c17 : p1 = 4
          · replace hw := hw.2.2.2.2.1 c17
            refine lv_tableIn (tgt := 91) hx hb dX1_tellHead_1 (by rw [c17]; decide) (by rw [c17]; decide) (by rw [c17]; rfl) (by decide) ?_
            refine lv_aload_n hx hb dX1_tellHead_91 rfl (lv_at hl 0 rfl) ?_
            refine lv_aload_n hx hb dX1_tellHead_92 rfl (lv_at hl 0 rfl) ?_
            refine g_get (v := .ref (a 8)) C hd iX1_tellHead_X1 0 1 rfl rfl 8 (by decide) (List.mem_of_getElem? (i := 4) rfl) rfl dX1_tellHead_93 ?_
            refine lv_iload_n hx hb dX1_tellHead_96 rfl (lv_at hl 1 rfl) ?_
            refine v_i C hd hl M_X1_leadingElsewhere gX1_tellHead_X1_leadingElsewhere (c_X1_leadingElsewhere l B k (a 0) (a 8) (hs_client σ) p0 _ hw) ⟨rfl, rfl⟩ ⟨Nat.le_of_ble_eq_true rfl, Nat.le_of_ble_eq_true rfl⟩ (pm_pick 8 rfl) (fun _ => wX1 k a σ) (fun _ => (pm_pick 8 rfl).symm) 0 1 rfl rfl rfl rfl rfl (Nat.le_of_ble_eq_true rfl) dX1_tellHead_97 ⟨Nat.le_of_ble_eq_true rfl, Nat.le_of_ble_eq_true rfl⟩ (fun r97 _ H locs hw hd => ?_)
            exact r_i C hd dX1_tellHead_100 () rfl hw
          · by_cases c18 : p1 = 5
            · replace hw := hw.2.2.2.2.2.1 c18
              refine lv_tableIn (tgt := 101) hx hb dX1_tellHead_1 (by rw [c18]; decide) (by rw [c18]; decide) (by rw [c18]; rfl) (by decide) ?_
              refine lv_aload_n hx hb dX1_tellHead_101 rfl (lv_at hl 0 rfl) ?_
              refine lv_aload_n hx hb dX1_tellHead_102 rfl (lv_at hl 0 rfl) ?_
              refine g_get (v := .ref (a 7)) C hd iX1_tellHead_X1 0 1 rfl rfl 7 (by decide) (List.mem_of_getElem? (i := 5) rfl) rfl dX1_tellHead_103 ?_
              refine lv_iload_n hx hb dX1_tellHead_106 rfl (lv_at hl 1 rfl) ?_
              refine v_i C hd hl M_X1_leadingElsewhere gX1_tellHead_X1_leadingElsewhere (c_X1_leadingElsewhere l B k (a 0) (a 7) (hs_server σ) p0 _ hw) ⟨rfl, rfl⟩ ⟨Nat.le_of_ble_eq_true rfl, Nat.le_of_ble_eq_true rfl⟩ (pm_pick 7 rfl) (fun _ => wX1 k a σ) (fun _ => (pm_pick 7 rfl).symm) 0 1 rfl rfl rfl rfl rfl (Nat.le_of_ble_eq_true rfl) dX1_tellHead_107 ⟨Nat.le_of_ble_eq_true rfl, Nat.le_of_ble_eq_true rfl⟩ (fun r107 _ H locs hw hd => ?_)
              exact r_i C hd dX1_tellHead_110 () rfl hw
            · by_cases c19 : p1 = 6
              · replace hw := hw.2.2.2.2.2.2.1 c19
                refine lv_tableIn (tgt := 111) hx hb dX1_tellHead_1 (by rw [c19]; decide) (by rw [c19]; decide) (by rw [c19]; rfl) (by decide) ?_
                refine lv_aload_n hx hb dX1_tellHead_111 rfl (lv_at hl 0 rfl) ?_
                refine lv_iload_n hx hb dX1_tellHead_112 rfl (lv_at hl 1 rfl) ?_
                refine v_i C hd hl M_X1_lostOf gX1_tellHead_X1_lostOf (c_X1_lostOf l B k a σ p0 _ hw) ⟨rfl, rfl⟩ ⟨Nat.le_of_ble_eq_true rfl, Nat.le_of_ble_eq_true rfl⟩ (pm_all _) (fun _ => wX1 k a σ) (fun _ => (pm_all _).symm) 0 1 rfl rfl rfl rfl rfl (Nat.le_of_ble_eq_true rfl) dX1_tellHead_113 ⟨Nat.le_of_ble_eq_true rfl, Nat.le_of_ble_eq_true rfl⟩ (fun r113 _ H locs hw hd => ?_)
                exact r_i C hd dX1_tellHead_116 () rfl hw
              · by_cases c20 : p1 = 7
                · replace hw := hw.2.2.2.2.2.2.2.1 c20
                  refine lv_tableIn (tgt := 117) hx hb dX1_tellHead_1 (by rw [c20]; decide) (by rw [c20]; decide) (by rw [c20]; rfl) (by decide) ?_
                  refine lv_aload_n hx hb dX1_tellHead_117 rfl (lv_at hl 0 rfl) ?_
                  refine lv_iload_n hx hb dX1_tellHead_118 rfl (lv_at hl 1 rfl) ?_
                  refine v_i C hd hl M_X1_wearOf gX1_tellHead_X1_wearOf (c_X1_wearOf l B k a σ p0 _ hw) ⟨rfl, rfl⟩ ⟨Nat.le_of_ble_eq_true rfl, Nat.le_of_ble_eq_true rfl⟩ (pm_all _) (fun _ => wX1 k a σ) (fun _ => (pm_all _).symm) 0 1 rfl rfl rfl rfl rfl (Nat.le_of_ble_eq_true rfl) dX1_tellHead_119 ⟨Nat.le_of_ble_eq_true rfl, Nat.le_of_ble_eq_true rfl⟩ (fun r119 _ H locs hw hd => ?_)
                  exact r_i C hd dX1_tellHead_122 () rfl hw
                · by_cases c21 : p1 = 8
                  · replace hw := hw.2.2.2.2.2.2.2.2.1 c21
                    refine lv_tableIn (tgt := 123) hx hb dX1_tellHead_1 (by rw [c21]; decide) (by rw [c21]; decide) (by rw [c21]; rfl) (by decide) ?_
                    refine lv_aload_n hx hb dX1_tellHead_123 rfl (lv_at hl 0 rfl) ?_
                    refine lv_iload_n hx hb dX1_tellHead_124 rfl (lv_at hl 1 rfl) ?_
                    refine lv_iconst (v := 1) hx hb dX1_tellHead_125 (by decide) ?_
                    refine v_i C hd hl M_X1_gradedOf gX1_tellHead_X1_gradedOf (c_X1_gradedOf l B k a σ p0 1 _ hw) ⟨rfl, rfl⟩ ⟨Nat.le_of_ble_eq_true rfl, Nat.le_of_ble_eq_true rfl⟩ (pm_all _) (fun _ => wX1 k a σ) (fun _ => (pm_all _).symm) 0 1 rfl rfl rfl rfl rfl (Nat.le_of_ble_eq_true rfl) dX1_tellHead_126 ⟨Nat.le_of_ble_eq_true rfl, Nat.le_of_ble_eq_true rfl⟩ (fun r126 _ H locs hw hd => ?_)
                    exact r_i C hd dX1_tellHead_129 () rfl hw
                  · by_cases c22 : p1 = 9
                    · replace hw := hw.2.2.2.2.2.2.2.2.2.1 c22
                      refine lv_tableIn (tgt := 130) hx hb dX1_tellHead_1 (by rw [c22]; decide) (by rw [c22]; decide) (by rw [c22]; rfl) (by decide) ?_
                      refine lv_aload_n hx hb dX1_tellHead_130 rfl (lv_at hl 0 rfl) ?_
                      refine lv_iload_n hx hb dX1_tellHead_131 rfl (lv_at hl 1 rfl) ?_
                      refine lv_iconst (v := 2) hx hb dX1_tellHead_132 (by decide) ?_
                      refine v_i C hd hl M_X1_gradedOf gX1_tellHead_X1_gradedOf (c_X1_gradedOf l B k a σ p0 2 _ hw) ⟨rfl, rfl⟩ ⟨Nat.le_of_ble_eq_true rfl, Nat.le_of_ble_eq_true rfl⟩ (pm_all _) (fun _ => wX1 k a σ) (fun _ => (pm_all _).symm) 0 1 rfl rfl rfl rfl rfl (Nat.le_of_ble_eq_true rfl) dX1_tellHead_133 ⟨Nat.le_of_ble_eq_true rfl, Nat.le_of_ble_eq_true rfl⟩ (fun r133 _ H locs hw hd => ?_)
                      exact r_i C hd dX1_tellHead_136 () rfl hw
                    · replace hw := hw.2.2.2.2.2.2.2.2.2.2 c12 c13 c14 c16 c17 c18 c19 c20 c21 c22
                      refine lv_tableOut (tgt := 137) hx hb dX1_tellHead_1 (by have q0 := sw_ne (z := 0) c12 (by decide); have q1 := sw_ne (z := 1) c13 (by decide); have q2 := sw_ne (z := 2) c14 (by decide); have q3 := sw_ne (z := 3) c16 (by decide); have q4 := sw_ne (z := 4) c17 (by decide); have q5 := sw_ne (z := 5) c18 (by decide); have q6 := sw_ne (z := 6) c19 (by decide); have q7 := sw_ne (z := 7) c20 (by decide); have q8 := sw_ne (z := 8) c21 (by decide); have q9 := sw_ne (z := 9) c22 (by decide); omega) (by decide) ?_
                      refine lv_bipush (v := (-2)) hx hb dX1_tellHead_137 (by decide) ?_
                      exact r_i C hd dX1_tellHead_139 () rfl hw
abbrev rm_X1_overHeads : Room := { frames := 4, cells := 0, slots := 0, locals := 89 }
theorem M_X1_overHeads : MI yX1_overHeads wsX1_overHeads cX1_overHeads 4 (some .int) 1 := ⟨⟨_, rfl⟩, by decide +kernel, by decide +kernel, by decide +kernel, by decide +kernel⟩
theorem iX1_overHeads_X1 : ∀ w ∈ wsX10, w ∈ wsX1_overHeads := fun _ h => List.mem_cons_of_mem _ (List.mem_append_right _ h)
def wpX1_overHeads_L4 (σ : HS) (p0 : Int32) (post : Int32 → Prop) : Nat → Int32 → Int32 → Prop
  | 0, _, _ => False
  | n4 + 1, v4l2, v4l3 => ((4 ≤ v4l3 → post v4l2) ∧ (¬ 4 ≤ v4l3 → wpX1_tellHead σ v4l3 p0 (fun r13 => wpX1_overHeads_L4 σ p0 post n4 (v4l2 + r13) (v4l3 + 1))))
def wpX1_overHeads (σ : HS) (p0 : Int32) (post : Int32 → Prop) : Prop := ∃ n4 : Nat, wpX1_overHeads_L4 σ p0 post n4 0 0
set_option maxHeartbeats 4000000 in
set_option maxRecDepth 100000 in
theorem c_X1_overHeads (l : Launch) (B : va_G) (k : KT) (a : Nat → Nat) (σ : HS) (p0 : Int32) (post : Int32 → Prop) (hw : wpX1_overHeads σ p0 post) : Cti l yX1_overHeads wsX1_overHeads rm_X1_overHeads 0 0 B k [.ref (a 0), .int p0] (wX1 k a σ) (fun _ : Unit => wX1 k a σ) (fun r _ => post r) := by
  refine Cti.of M_X1_overHeads (Nat.le_of_ble_eq_true rfl) ?_
  intro p e s m args below meth c A C hd ls hl
  have hx := C.1; have hb := C.2.1; have hml := C.2.2.1; have hts := C.2.2.2.2.1
  have hl : lv_has ls 4 [(0, .ref (a 0)), (1, .int p0)] := hl
  have L4 : ∀ (n4 : Nat), ∀ (v4l2 : Int32) (v4l3 : Int32) (H : Heap) (locs : List Loc) (ls : Array Slot), Wd B A s.heap (wX1 k a σ) H locs → lv_has ls 4 [(0, .ref (a 0)), (1, .int p0), (2, .int v4l2), (3, .int v4l3)] → wpX1_overHeads_L4 σ p0 post n4 v4l2 v4l3 → W p l e rm_X1_overHeads s m args below meth c H locs 0 0 (Qi below args s B A (fun _ : Unit => wX1 k a σ) (fun r _ => post r) 0 0) (F0 m 4 ls []) := by
    intro n4
    induction n4 with
    | zero => intro v4l2 v4l3 H locs ls hd hl hw; exact absurd hw (by simp [wpX1_overHeads_L4])
    | succ n4 ih4 =>
      intro v4l2 v4l3 H locs ls hd hl hw
      rw [wpX1_overHeads_L4] at hw
      refine lv_iload_n hx hb dX1_overHeads_4 rfl (lv_at hl 3 rfl) ?_
      refine lv_iconst (v := 4) hx hb dX1_overHeads_5 (by decide) ?_
      refine lv_icmp_ge (tgt := 24) hx hb dX1_overHeads_6 (by decide) (fun c5 => ?_) (fun c5 => ?_)
      · replace hw := hw.1 c5
        refine lv_iload_n hx hb dX1_overHeads_24 rfl (lv_at hl 2 rfl) ?_
        exact r_i C hd dX1_overHeads_25 () rfl hw
      · replace hw := hw.2 c5
        refine lv_iload_n hx hb dX1_overHeads_9 rfl (lv_at hl 2 rfl) ?_
        refine lv_aload_n hx hb dX1_overHeads_10 rfl (lv_at hl 0 rfl) ?_
        refine lv_iload_n hx hb dX1_overHeads_11 rfl (lv_at hl 3 rfl) ?_
        refine lv_iload_n hx hb dX1_overHeads_12 rfl (lv_at hl 1 rfl) ?_
        refine v_i C hd hl M_X1_tellHead gX1_overHeads_X1_tellHead (c_X1_tellHead l B k a σ v4l3 p0 _ hw) ⟨rfl, rfl⟩ ⟨Nat.le_of_ble_eq_true rfl, Nat.le_of_ble_eq_true rfl⟩ (pm_all _) (fun _ => wX1 k a σ) (fun _ => (pm_all _).symm) 0 1 rfl rfl rfl rfl rfl (Nat.le_of_ble_eq_true rfl) dX1_overHeads_13 ⟨Nat.le_of_ble_eq_true rfl, Nat.le_of_ble_eq_true rfl⟩ (fun r13 _ H locs hw hd => ?_)
        refine lv_iadd hx hb dX1_overHeads_16 ?_
        refine lv_istore_n (lv' := [(2, .int (v4l2 + r13)), (0, .ref (a 0)), (1, .int p0), (3, .int v4l3)]) hx hb dX1_overHeads_17 rfl hl (by decide) rfl (fun ls hl => ?_)
        refine lv_iinc (v := v4l3 + 1) (lv' := [(3, .int (v4l3 + 1)), (2, .int (v4l2 + r13)), (0, .ref (a 0)), (1, .int p0)]) hx hb dX1_overHeads_18 hl (k := 3) rfl rfl (by decide) rfl (fun ls hl => ?_)
        refine lv_goto (tgt := 4) hx hb dX1_overHeads_21 (by decide) ?_
        exact ih4 (v4l2 + r13) (v4l3 + 1) _ _ _ hd (lv_sub hl [2, 3, 1, 0] rfl) hw
  rw [wpX1_overHeads] at hw
  refine lv_iconst (v := 0) hx hb dX1_overHeads_0 (by decide) ?_
  refine lv_istore_n (lv' := [(2, .int 0), (0, .ref (a 0)), (1, .int p0)]) hx hb dX1_overHeads_1 rfl hl (by decide) rfl (fun ls hl => ?_)
  refine lv_iconst (v := 0) hx hb dX1_overHeads_2 (by decide) ?_
  refine lv_istore_n (lv' := [(3, .int 0), (2, .int 0), (0, .ref (a 0)), (1, .int p0)]) hx hb dX1_overHeads_3 rfl hl (by decide) rfl (fun ls hl => ?_)
  obtain ⟨n, hw⟩ := hw
  exact L4 n 0 0 _ _ _ hd (lv_sub hl [2, 3, 1, 0] rfl) hw
abbrev rm_X1_longWayCount : Room := { frames := 2, cells := 0, slots := 0, locals := 42 }
theorem M_X1_longWayCount : MI yX1_longWayCount wsX1_longWayCount cX1_longWayCount 3 (some .int) 0 := ⟨⟨_, rfl⟩, by decide +kernel, by decide +kernel, by decide +kernel, by decide +kernel⟩
theorem iX1_longWayCount_X1 : ∀ w ∈ wsX10, w ∈ wsX1_longWayCount := fun _ h => List.mem_cons_of_mem _ (List.mem_append_right _ h)
def wpX1_longWayCount_L4 (σ : HS) (post : Int32 → Prop) : Nat → Int32 → Int32 → Prop
  | 0, _, _ => False
  | n4 + 1, v4l1, v4l2 => ((64 ≤ v4l2 → post v4l1) ∧ (¬ 64 ≤ v4l2 → wpX1_isAddress σ v4l2 (fun b12 => ((b12 = true → wpX1_isLongWay σ v4l2 (fun b20 => ((b20 = true → wpX1_longWayCount_L4 σ post n4 (v4l1 + 1) (v4l2 + 1)) ∧ (b20 = false → wpX1_longWayCount_L4 σ post n4 v4l1 (v4l2 + 1))))) ∧ (b12 = false → wpX1_longWayCount_L4 σ post n4 v4l1 (v4l2 + 1))))))
def wpX1_longWayCount (σ : HS) (post : Int32 → Prop) : Prop := ∃ n4 : Nat, wpX1_longWayCount_L4 σ post n4 0 0
set_option maxHeartbeats 4000000 in
set_option maxRecDepth 100000 in
theorem c_X1_longWayCount (l : Launch) (B : va_G) (k : KT) (a : Nat → Nat) (σ : HS) (post : Int32 → Prop) (hw : wpX1_longWayCount σ post) : Cti l yX1_longWayCount wsX1_longWayCount rm_X1_longWayCount 0 0 B k [.ref (a 0)] (wX1 k a σ) (fun _ : Unit => wX1 k a σ) (fun r _ => post r) := by
  refine Cti.of M_X1_longWayCount (Nat.le_of_ble_eq_true rfl) ?_
  intro p e s m args below meth c A C hd ls hl
  have hx := C.1; have hb := C.2.1; have hml := C.2.2.1; have hts := C.2.2.2.2.1
  have hl : lv_has ls 3 [(0, .ref (a 0))] := hl
  have L4 : ∀ (n4 : Nat), ∀ (v4l1 : Int32) (v4l2 : Int32) (H : Heap) (locs : List Loc) (ls : Array Slot), Wd B A s.heap (wX1 k a σ) H locs → lv_has ls 3 [(0, .ref (a 0)), (1, .int v4l1), (2, .int v4l2)] → wpX1_longWayCount_L4 σ post n4 v4l1 v4l2 → W p l e rm_X1_longWayCount s m args below meth c H locs 0 0 (Qi below args s B A (fun _ : Unit => wX1 k a σ) (fun r _ => post r) 0 0) (F0 m 4 ls []) := by
    intro n4
    induction n4 with
    | zero => intro v4l1 v4l2 H locs ls hd hl hw; exact absurd hw (by simp [wpX1_longWayCount_L4])
    | succ n4 ih4 =>
      intro v4l1 v4l2 H locs ls hd hl hw
      rw [wpX1_longWayCount_L4] at hw
      refine lv_iload_n hx hb dX1_longWayCount_4 rfl (lv_at hl 2 rfl) ?_
      refine lv_bipush (v := 64) hx hb dX1_longWayCount_5 (by decide) ?_
      refine lv_icmp_ge (tgt := 35) hx hb dX1_longWayCount_7 (by decide) (fun c13 => ?_) (fun c13 => ?_)
      · replace hw := hw.1 c13
        refine lv_iload_n hx hb dX1_longWayCount_35 rfl (lv_at hl 1 rfl) ?_
        exact r_i C hd dX1_longWayCount_36 () rfl hw
      · replace hw := hw.2 c13
        refine lv_aload_n hx hb dX1_longWayCount_10 rfl (lv_at hl 0 rfl) ?_
        refine lv_iload_n hx hb dX1_longWayCount_11 rfl (lv_at hl 2 rfl) ?_
        refine v_i C hd hl M_X1_isAddress gX1_longWayCount_X1_isAddress (c_X1_isAddress l B k a σ v4l2 _ hw) ⟨rfl, rfl⟩ ⟨Nat.le_of_ble_eq_true rfl, Nat.le_of_ble_eq_true rfl⟩ (pm_all _) (fun _ => wX1 k a σ) (fun _ => (pm_all _).symm) 0 1 rfl rfl rfl rfl rfl (Nat.le_of_ble_eq_true rfl) dX1_longWayCount_12 ⟨Nat.le_of_ble_eq_true rfl, Nat.le_of_ble_eq_true rfl⟩ (fun r _ H locs hp hd => ?_)
        obtain ⟨b12, rfl, hw⟩ := hp
        refine lv_if_eq (tgt := 29) hx hb dX1_longWayCount_15 (by decide) (fun c15 => ?_) (fun c15 => ?_)
        · replace hw := hw.2 ((bi_eq _).mp c15)
          refine lv_iinc (v := v4l2 + 1) (lv' := [(2, .int (v4l2 + 1)), (0, .ref (a 0)), (1, .int v4l1)]) hx hb dX1_longWayCount_29 hl (k := 2) rfl rfl (by decide) rfl (fun ls hl => ?_)
          refine lv_goto (tgt := 4) hx hb dX1_longWayCount_32 (by decide) ?_
          exact ih4 v4l1 (v4l2 + 1) _ _ _ hd (lv_sub hl [1, 2, 0] rfl) hw
        · replace hw := hw.1 ((bi_ne _).mp c15)
          refine lv_aload_n hx hb dX1_longWayCount_18 rfl (lv_at hl 0 rfl) ?_
          refine lv_iload_n hx hb dX1_longWayCount_19 rfl (lv_at hl 2 rfl) ?_
          refine v_i C hd hl M_X1_isLongWay gX1_longWayCount_X1_isLongWay (c_X1_isLongWay l B k a σ v4l2 _ hw) ⟨rfl, rfl⟩ ⟨Nat.le_of_ble_eq_true rfl, Nat.le_of_ble_eq_true rfl⟩ (pm_all _) (fun _ => wX1 k a σ) (fun _ => (pm_all _).symm) 0 1 rfl rfl rfl rfl rfl (Nat.le_of_ble_eq_true rfl) dX1_longWayCount_20 ⟨Nat.le_of_ble_eq_true rfl, Nat.le_of_ble_eq_true rfl⟩ (fun r _ H locs hp hd => ?_)
          obtain ⟨b20, rfl, hw⟩ := hp
          refine lv_if_eq (tgt := 29) hx hb dX1_longWayCount_23 (by decide) (fun c14 => ?_) (fun c14 => ?_)
          · replace hw := hw.2 ((bi_eq _).mp c14)
            refine lv_iinc (v := v4l2 + 1) (lv' := [(2, .int (v4l2 + 1)), (0, .ref (a 0)), (1, .int v4l1)]) hx hb dX1_longWayCount_29 hl (k := 2) rfl rfl (by decide) rfl (fun ls hl => ?_)
            refine lv_goto (tgt := 4) hx hb dX1_longWayCount_32 (by decide) ?_
            exact ih4 v4l1 (v4l2 + 1) _ _ _ hd (lv_sub hl [1, 2, 0] rfl) hw
          · replace hw := hw.1 ((bi_ne _).mp c14)
            refine lv_iinc (v := v4l1 + 1) (lv' := [(1, .int (v4l1 + 1)), (0, .ref (a 0)), (2, .int v4l2)]) hx hb dX1_longWayCount_26 hl (k := 1) rfl rfl (by decide) rfl (fun ls hl => ?_)
            refine lv_iinc (v := v4l2 + 1) (lv' := [(2, .int (v4l2 + 1)), (1, .int (v4l1 + 1)), (0, .ref (a 0))]) hx hb dX1_longWayCount_29 hl (k := 2) rfl rfl (by decide) rfl (fun ls hl => ?_)
            refine lv_goto (tgt := 4) hx hb dX1_longWayCount_32 (by decide) ?_
            exact ih4 (v4l1 + 1) (v4l2 + 1) _ _ _ hd (lv_sub hl [2, 1, 0] rfl) hw
  rw [wpX1_longWayCount] at hw
  refine lv_iconst (v := 0) hx hb dX1_longWayCount_0 (by decide) ?_
  refine lv_istore_n (lv' := [(1, .int 0), (0, .ref (a 0))]) hx hb dX1_longWayCount_1 rfl hl (by decide) rfl (fun ls hl => ?_)
  refine lv_iconst (v := 0) hx hb dX1_longWayCount_2 (by decide) ?_
  refine lv_istore_n (lv' := [(2, .int 0), (1, .int 0), (0, .ref (a 0))]) hx hb dX1_longWayCount_3 rfl hl (by decide) rfl (fun ls hl => ?_)
  obtain ⟨n, hw⟩ := hw
  exact L4 n 0 0 _ _ _ hd (lv_sub hl [2, 1, 0] rfl) hw
abbrev rm_X1_tellWhole : Room := { frames := 5, cells := 0, slots := 0, locals := 112 }
theorem M_X1_tellWhole : MI yX1_tellWhole wsX1_tellWhole cX1_tellWhole 2 (some .int) 1 := ⟨⟨_, rfl⟩, by decide +kernel, by decide +kernel, by decide +kernel, by decide +kernel⟩
theorem iX1_tellWhole_X1 : ∀ w ∈ wsX10, w ∈ wsX1_tellWhole := fun _ h => List.mem_cons_of_mem _ (List.mem_append_right _ h)
def wpX1_tellWhole (σ : HS) (p0 : Int32) (post : Int32 → Prop) : Prop := ((p0 = 0 → post (hs_limit σ)) ∧ (p0 = 1 → wpX1_overHeads σ 1 (fun r73 => post (64 - r73))) ∧ (p0 = 2 → wpX1_overHeads σ 6 (fun r81 => post r81)) ∧ (p0 = 3 → wpX1_longWayCount σ (fun r86 => post r86)) ∧ (p0 = 4 → wpX1_overHeads σ 2 (fun r92 => post r92)) ∧ (p0 = 5 → wpX3_placeOf (hs_arm σ) (fun r100 => post r100)) ∧ (p0 = 6 → wpX3_headOf (hs_arm σ) (fun r108 => post r108)) ∧ (p0 = 7 → post (hs_steps σ)) ∧ (p0 = 8 → post (hs_rescues σ)) ∧ (p0 = 9 → post (hs_losses σ)) ∧ (p0 = 10 → post (hs_reads σ)) ∧ (p0 = 11 → post (hs_writes σ)) ∧ (¬ p0 = 0 → ¬ p0 = 1 → ¬ p0 = 2 → ¬ p0 = 3 → ¬ p0 = 4 → ¬ p0 = 5 → ¬ p0 = 6 → ¬ p0 = 7 → ¬ p0 = 8 → ¬ p0 = 9 → ¬ p0 = 10 → ¬ p0 = 11 → post (-2)))
set_option maxHeartbeats 4000000 in
set_option maxRecDepth 100000 in
theorem c_X1_tellWhole (l : Launch) (B : va_G) (k : KT) (a : Nat → Nat) (σ : HS) (p0 : Int32) (post : Int32 → Prop) (hw : wpX1_tellWhole σ p0 post) : Cti l yX1_tellWhole wsX1_tellWhole rm_X1_tellWhole 0 0 B k [.ref (a 0), .int p0] (wX1 k a σ) (fun _ : Unit => wX1 k a σ) (fun r _ => post r) := by
  refine Cti.of M_X1_tellWhole (Nat.le_of_ble_eq_true rfl) ?_
  intro p e s m args below meth c A C hd ls hl
  have hx := C.1; have hb := C.2.1; have hml := C.2.2.1; have hts := C.2.2.2.2.1
  have hl : lv_has ls 2 [(0, .ref (a 0)), (1, .int p0)] := hl
  rw [wpX1_tellWhole] at hw
  refine lv_iload_n hx hb dX1_tellWhole_0 rfl (lv_at hl 1 rfl) ?_
  by_cases c13 : p0 = 0
  · replace hw := hw.1 c13
    refine lv_tableIn (tgt := 64) hx hb dX1_tellWhole_1 (by rw [c13]; decide) (by rw [c13]; decide) (by rw [c13]; rfl) (by decide) ?_
    refine lv_aload_n hx hb dX1_tellWhole_64 rfl (lv_at hl 0 rfl) ?_
    refine g_get (v := .int (hs_limit σ)) C hd iX1_tellWhole_X1 0 1 rfl rfl 0 (by decide) (List.mem_of_getElem? (i := 1) rfl) rfl dX1_tellWhole_65 ?_
    exact r_i C hd dX1_tellWhole_68 () rfl hw
  · by_cases c14 : p0 = 1
    · replace hw := hw.2.1 c14
      refine lv_tableIn (tgt := 69) hx hb dX1_tellWhole_1 (by rw [c14]; decide) (by rw [c14]; decide) (by rw [c14]; rfl) (by decide) ?_
      refine lv_bipush (v := 64) hx hb dX1_tellWhole_69 (by decide) ?_
      refine lv_aload_n hx hb dX1_tellWhole_71 rfl (lv_at hl 0 rfl) ?_
      refine lv_iconst (v := 1) hx hb dX1_tellWhole_72 (by decide) ?_
      refine v_i C hd hl M_X1_overHeads gX1_tellWhole_X1_overHeads (c_X1_overHeads l B k a σ 1 _ hw) ⟨rfl, rfl⟩ ⟨Nat.le_of_ble_eq_true rfl, Nat.le_of_ble_eq_true rfl⟩ (pm_all _) (fun _ => wX1 k a σ) (fun _ => (pm_all _).symm) 0 1 rfl rfl rfl rfl rfl (Nat.le_of_ble_eq_true rfl) dX1_tellWhole_73 ⟨Nat.le_of_ble_eq_true rfl, Nat.le_of_ble_eq_true rfl⟩ (fun r73 _ H locs hw hd => ?_)
      refine lv_isub hx hb dX1_tellWhole_76 ?_
      exact r_i C hd dX1_tellWhole_77 () rfl hw
    · by_cases c15 : p0 = 2
      · replace hw := hw.2.2.1 c15
        refine lv_tableIn (tgt := 78) hx hb dX1_tellWhole_1 (by rw [c15]; decide) (by rw [c15]; decide) (by rw [c15]; rfl) (by decide) ?_
        refine lv_aload_n hx hb dX1_tellWhole_78 rfl (lv_at hl 0 rfl) ?_
        refine lv_bipush (v := 6) hx hb dX1_tellWhole_79 (by decide) ?_
        refine v_i C hd hl M_X1_overHeads gX1_tellWhole_X1_overHeads (c_X1_overHeads l B k a σ 6 _ hw) ⟨rfl, rfl⟩ ⟨Nat.le_of_ble_eq_true rfl, Nat.le_of_ble_eq_true rfl⟩ (pm_all _) (fun _ => wX1 k a σ) (fun _ => (pm_all _).symm) 0 1 rfl rfl rfl rfl rfl (Nat.le_of_ble_eq_true rfl) dX1_tellWhole_81 ⟨Nat.le_of_ble_eq_true rfl, Nat.le_of_ble_eq_true rfl⟩ (fun r81 _ H locs hw hd => ?_)
        exact r_i C hd dX1_tellWhole_84 () rfl hw
      · by_cases c16 : p0 = 3
        · replace hw := hw.2.2.2.1 c16
          refine lv_tableIn (tgt := 85) hx hb dX1_tellWhole_1 (by rw [c16]; decide) (by rw [c16]; decide) (by rw [c16]; rfl) (by decide) ?_
          refine lv_aload_n hx hb dX1_tellWhole_85 rfl (lv_at hl 0 rfl) ?_
          refine v_i C hd hl M_X1_longWayCount gX1_tellWhole_X1_longWayCount (c_X1_longWayCount l B k a σ _ hw) ⟨rfl, rfl⟩ ⟨Nat.le_of_ble_eq_true rfl, Nat.le_of_ble_eq_true rfl⟩ (pm_all _) (fun _ => wX1 k a σ) (fun _ => (pm_all _).symm) 0 1 rfl rfl rfl rfl rfl (Nat.le_of_ble_eq_true rfl) dX1_tellWhole_86 ⟨Nat.le_of_ble_eq_true rfl, Nat.le_of_ble_eq_true rfl⟩ (fun r86 _ H locs hw hd => ?_)
          exact r_i C hd dX1_tellWhole_89 () rfl hw
        · by_cases c17 : p0 = 4
          · replace hw := hw.2.2.2.2.1 c17
            refine lv_tableIn (tgt := 90) hx hb dX1_tellWhole_1 (by rw [c17]; decide) (by rw [c17]; decide) (by rw [c17]; rfl) (by decide) ?_
            refine lv_aload_n hx hb dX1_tellWhole_90 rfl (lv_at hl 0 rfl) ?_
            refine lv_iconst (v := 2) hx hb dX1_tellWhole_91 (by decide) ?_
            refine v_i C hd hl M_X1_overHeads gX1_tellWhole_X1_overHeads (c_X1_overHeads l B k a σ 2 _ hw) ⟨rfl, rfl⟩ ⟨Nat.le_of_ble_eq_true rfl, Nat.le_of_ble_eq_true rfl⟩ (pm_all _) (fun _ => wX1 k a σ) (fun _ => (pm_all _).symm) 0 1 rfl rfl rfl rfl rfl (Nat.le_of_ble_eq_true rfl) dX1_tellWhole_92 ⟨Nat.le_of_ble_eq_true rfl, Nat.le_of_ble_eq_true rfl⟩ (fun r92 _ H locs hw hd => ?_)
            exact r_i C hd dX1_tellWhole_95 () rfl hw
          · by_cases c18 : p0 = 5
            · replace hw := hw.2.2.2.2.2.1 c18
              refine lv_tableIn (tgt := 96) hx hb dX1_tellWhole_1 (by rw [c18]; decide) (by rw [c18]; decide) (by rw [c18]; rfl) (by decide) ?_
              refine lv_aload_n hx hb dX1_tellWhole_96 rfl (lv_at hl 0 rfl) ?_
              refine g_get (v := .int (hs_arm σ)) C hd iX1_tellWhole_X1 0 1 rfl rfl 9 (by decide) (List.mem_of_getElem? (i := 2) rfl) rfl dX1_tellWhole_97 ?_
              refine n_i C hd hl M_X3_placeOf gX1_tellWhole_X3_placeOf_n76 (List.mem_of_getElem? (i := 1) rfl) (List.mem_of_getElem? (i := 33) rfl) (List.mem_of_getElem? (i := 31) rfl) (c_X3_placeOf l B k (hs_arm σ) _ hw) ⟨rfl, rfl⟩ ⟨Nat.le_of_ble_eq_true rfl, Nat.le_of_ble_eq_true rfl⟩ (pm_non _) (fun _ => wX1 k a σ) (fun _ => List.Perm.refl _) rfl rfl (Nat.le_of_ble_eq_true rfl) dX1_tellWhole_100 ⟨Nat.le_of_ble_eq_true rfl, Nat.le_of_ble_eq_true rfl⟩ (fun r100 _ H locs hw hd => ?_)
              exact r_i C hd dX1_tellWhole_103 () rfl hw
            · by_cases c19 : p0 = 6
              · replace hw := hw.2.2.2.2.2.2.1 c19
                refine lv_tableIn (tgt := 104) hx hb dX1_tellWhole_1 (by rw [c19]; decide) (by rw [c19]; decide) (by rw [c19]; rfl) (by decide) ?_
                refine lv_aload_n hx hb dX1_tellWhole_104 rfl (lv_at hl 0 rfl) ?_
                refine g_get (v := .int (hs_arm σ)) C hd iX1_tellWhole_X1 0 1 rfl rfl 9 (by decide) (List.mem_of_getElem? (i := 2) rfl) rfl dX1_tellWhole_105 ?_
                refine n_i C hd hl M_X3_headOf gX1_tellWhole_X3_headOf_n80 (List.mem_of_getElem? (i := 2) rfl) (List.mem_of_getElem? (i := 30) rfl) (List.mem_of_getElem? (i := 31) rfl) (c_X3_headOf l B k (hs_arm σ) _ hw) ⟨rfl, rfl⟩ ⟨Nat.le_of_ble_eq_true rfl, Nat.le_of_ble_eq_true rfl⟩ (pm_non _) (fun _ => wX1 k a σ) (fun _ => List.Perm.refl _) rfl rfl (Nat.le_of_ble_eq_true rfl) dX1_tellWhole_108 ⟨Nat.le_of_ble_eq_true rfl, Nat.le_of_ble_eq_true rfl⟩ (fun r108 _ H locs hw hd => ?_)
                exact r_i C hd dX1_tellWhole_111 () rfl hw
              · by_cases c20 : p0 = 7
                · replace hw := hw.2.2.2.2.2.2.2.1 c20
                  refine lv_tableIn (tgt := 112) hx hb dX1_tellWhole_1 (by rw [c20]; decide) (by rw [c20]; decide) (by rw [c20]; rfl) (by decide) ?_
                  refine lv_aload_n hx hb dX1_tellWhole_112 rfl (lv_at hl 0 rfl) ?_
                  refine g_get (v := .int (hs_steps σ)) C hd iX1_tellWhole_X1 0 1 rfl rfl 10 (by decide) (List.mem_of_getElem? (i := 3) rfl) rfl dX1_tellWhole_113 ?_
                  exact r_i C hd dX1_tellWhole_116 () rfl hw
                · by_cases c21 : p0 = 8
                  · replace hw := hw.2.2.2.2.2.2.2.2.1 c21
                    refine lv_tableIn (tgt := 117) hx hb dX1_tellWhole_1 (by rw [c21]; decide) (by rw [c21]; decide) (by rw [c21]; rfl) (by decide) ?_
                    refine lv_aload_n hx hb dX1_tellWhole_117 rfl (lv_at hl 0 rfl) ?_
                    refine g_get (v := .int (hs_rescues σ)) C hd iX1_tellWhole_X1 0 1 rfl rfl 11 (by decide) (List.mem_of_getElem? (i := 4) rfl) rfl dX1_tellWhole_118 ?_
                    exact r_i C hd dX1_tellWhole_121 () rfl hw
                  · by_cases c22 : p0 = 9
                    · replace hw := hw.2.2.2.2.2.2.2.2.2.1 c22
                      refine lv_tableIn (tgt := 122) hx hb dX1_tellWhole_1 (by rw [c22]; decide) (by rw [c22]; decide) (by rw [c22]; rfl) (by decide) ?_
                      refine lv_aload_n hx hb dX1_tellWhole_122 rfl (lv_at hl 0 rfl) ?_
                      refine g_get (v := .int (hs_losses σ)) C hd iX1_tellWhole_X1 0 1 rfl rfl 12 (by decide) (List.mem_of_getElem? (i := 5) rfl) rfl dX1_tellWhole_123 ?_
                      exact r_i C hd dX1_tellWhole_126 () rfl hw
                    · by_cases c23 : p0 = 10
                      · replace hw := hw.2.2.2.2.2.2.2.2.2.2.1 c23
                        refine lv_tableIn (tgt := 127) hx hb dX1_tellWhole_1 (by rw [c23]; decide) (by rw [c23]; decide) (by rw [c23]; rfl) (by decide) ?_
                        refine lv_aload_n hx hb dX1_tellWhole_127 rfl (lv_at hl 0 rfl) ?_
                        refine g_get (v := .int (hs_reads σ)) C hd iX1_tellWhole_X1 0 1 rfl rfl 13 (by decide) (List.mem_of_getElem? (i := 6) rfl) rfl dX1_tellWhole_128 ?_
                        exact r_i C hd dX1_tellWhole_131 () rfl hw
                      · by_cases c24 : p0 = 11
                        · replace hw := hw.2.2.2.2.2.2.2.2.2.2.2.1 c24
                          refine lv_tableIn (tgt := 132) hx hb dX1_tellWhole_1 (by rw [c24]; decide) (by rw [c24]; decide) (by rw [c24]; rfl) (by decide) ?_
                          refine lv_aload_n hx hb dX1_tellWhole_132 rfl (lv_at hl 0 rfl) ?_
                          refine g_get (v := .int (hs_writes σ)) C hd iX1_tellWhole_X1 0 1 rfl rfl 14 (by decide) (List.mem_of_getElem? (i := 7) rfl) rfl dX1_tellWhole_133 ?_
                          exact r_i C hd dX1_tellWhole_136 () rfl hw
                        · replace hw := hw.2.2.2.2.2.2.2.2.2.2.2.2 c13 c14 c15 c16 c17 c18 c19 c20 c21 c22 c23 c24
                          refine lv_tableOut (tgt := 137) hx hb dX1_tellWhole_1 (by have q0 := sw_ne (z := 0) c13 (by decide); have q1 := sw_ne (z := 1) c14 (by decide); have q2 := sw_ne (z := 2) c15 (by decide); have q3 := sw_ne (z := 3) c16 (by decide); have q4 := sw_ne (z := 4) c17 (by decide); have q5 := sw_ne (z := 5) c18 (by decide); have q6 := sw_ne (z := 6) c19 (by decide); have q7 := sw_ne (z := 7) c20 (by decide); have q8 := sw_ne (z := 8) c21 (by decide); have q9 := sw_ne (z := 9) c22 (by decide); have q10 := sw_ne (z := 10) c23 (by decide); have q11 := sw_ne (z := 11) c24 (by decide); omega) (by decide) ?_
                          refine lv_bipush (v := (-2)) hx hb dX1_tellWhole_137 (by decide) ?_
                          exact r_i C hd dX1_tellWhole_139 () rfl hw
abbrev rm_X1_readsUntilChange : Room := { frames := 4, cells := 0, slots := 0, locals := 93 }
theorem M_X1_readsUntilChange : MI yX1_readsUntilChange wsX1_readsUntilChange cX1_readsUntilChange 6 (some .int) 1 := ⟨⟨_, rfl⟩, by decide +kernel, by decide +kernel, by decide +kernel, by decide +kernel⟩
theorem iX1_readsUntilChange_X1 : ∀ w ∈ wsX10, w ∈ wsX1_readsUntilChange := fun _ h => List.mem_cons_of_mem _ (List.mem_append_right _ h)
def wpX1_readsUntilChange_L63 (σ : HS) (p0 : Int32) (v51s0 : Int32) (post : Int32 → Prop) : Nat → Int32 → Int32 → Prop
  | 0, _, _ => False
  | n63 + 1, v63l4, v63l5 => ((2000 < v63l5 → post (-5)) ∧ (¬ 2000 < v63l5 → wpX3_headOf ((hs_server σ) p0.toNatClampNeg) (fun r78 => (vp_in r78 4 ∧ (((v63l4 + ((hs_ageing σ) r78.toNatClampNeg)) < v51s0 → wpX1_readsUntilChange_L63 σ p0 v51s0 post n63 (v63l4 + ((hs_ageing σ) r78.toNatClampNeg)) (v63l5 + 1)) ∧ (¬ (v63l4 + ((hs_ageing σ) r78.toNatClampNeg)) < v51s0 → post v63l5))))))
def wpX1_readsUntilChange_J51 (σ : HS) (p0 : Int32) (post : Int32 → Prop) (v51s0 : Int32) : Prop := (vp_in ((hs_server σ) p0.toNatClampNeg) 64 ∧ ∃ n63 : Nat, wpX1_readsUntilChange_L63 σ p0 v51s0 post n63 ((hs_wear σ) ((hs_server σ) p0.toNatClampNeg).toNatClampNeg) 1)
def wpX1_readsUntilChange (σ : HS) (p0 : Int32) (post : Int32 → Prop) : Prop := wpX1_isAddress σ p0 (fun b2 => ((b2 = true → wpX1_isLost σ p0 (fun b12 => ((b12 = true → post (-4)) ∧ (b12 = false → (vp_in p0 64 ∧ wpX1_lendableTo σ p0 (fun r30 => ((r30 = (-5) → wpX1_readsUntilChange_J51 σ p0 post (2 * (hs_limit σ))) ∧ (¬ r30 = (-5) → wpX1_readsUntilChange_J51 σ p0 post (hs_limit σ))))))))) ∧ (b2 = false → post (-1))))
set_option maxHeartbeats 4000000 in
set_option maxRecDepth 100000 in
theorem c_X1_readsUntilChange (l : Launch) (B : va_G) (k : KT) (a : Nat → Nat) (σ : HS) (p0 : Int32) (post : Int32 → Prop) (hw : wpX1_readsUntilChange σ p0 post) : Cti l yX1_readsUntilChange wsX1_readsUntilChange rm_X1_readsUntilChange 0 0 B k [.ref (a 0), .int p0] (wX1 k a σ) (fun _ : Unit => wX1 k a σ) (fun r _ => post r) := by
  refine Cti.of M_X1_readsUntilChange (Nat.le_of_ble_eq_true rfl) ?_
  intro p e s m args below meth c A C hd ls hl
  have hx := C.1; have hb := C.2.1; have hml := C.2.2.1; have hts := C.2.2.2.2.1
  have hl : lv_has ls 6 [(0, .ref (a 0)), (1, .int p0)] := hl
  have L63 : ∀ (n63 : Nat), ∀ (v51s0 : Int32) (v63l4 : Int32) (v63l5 : Int32) (H : Heap) (locs : List Loc) (ls : Array Slot), Wd B A s.heap (wX1 k a σ) H locs → lv_has ls 6 [(0, .ref (a 0)), (2, .int ((hs_server σ) p0.toNatClampNeg)), (3, .int v51s0), (4, .int v63l4), (5, .int v63l5)] → wpX1_readsUntilChange_L63 σ p0 v51s0 post n63 v63l4 v63l5 → W p l e rm_X1_readsUntilChange s m args below meth c H locs 0 0 (Qi below args s B A (fun _ : Unit => wX1 k a σ) (fun r _ => post r) 0 0) (F0 m 63 ls []) := by
    intro n63
    induction n63 with
    | zero => intro v51s0 v63l4 v63l5 H locs ls hd hl hw; exact absurd hw (by simp [wpX1_readsUntilChange_L63])
    | succ n63 ih63 =>
      intro v51s0 v63l4 v63l5 H locs ls hd hl hw
      rw [wpX1_readsUntilChange_L63] at hw
      refine lv_iload hx hb dX1_readsUntilChange_63 (lv_at hl 4 rfl) ?_
      refine lv_sipush (v := 2000) hx hb dX1_readsUntilChange_65 (by decide) ?_
      refine lv_icmp_gt (tgt := 100) hx hb dX1_readsUntilChange_68 (by decide) (fun c12 => ?_) (fun c12 => ?_)
      · replace hw := hw.1 c12
        refine lv_bipush (v := (-5)) hx hb dX1_readsUntilChange_100 (by decide) ?_
        exact r_i C hd dX1_readsUntilChange_102 () rfl hw
      · replace hw := hw.2 c12
        refine lv_iload hx hb dX1_readsUntilChange_71 (lv_at hl 3 rfl) ?_
        refine lv_aload_n hx hb dX1_readsUntilChange_73 rfl (lv_at hl 0 rfl) ?_
        refine g_get (v := .ref (a 1)) C hd iX1_readsUntilChange_X1 0 1 rfl rfl 1 (by decide) (List.mem_of_getElem? (i := 4) rfl) rfl dX1_readsUntilChange_74 ?_
        refine lv_iload_n hx hb dX1_readsUntilChange_77 rfl (lv_at hl 1 rfl) ?_
        refine n_i C hd hl M_X3_headOf gX1_readsUntilChange_X3_headOf_n80 (List.mem_of_getElem? (i := 2) rfl) (List.mem_of_getElem? (i := 16) rfl) (List.mem_of_getElem? (i := 12) rfl) (c_X3_headOf l B k ((hs_server σ) p0.toNatClampNeg) _ hw) ⟨rfl, rfl⟩ ⟨Nat.le_of_ble_eq_true rfl, Nat.le_of_ble_eq_true rfl⟩ (pm_non _) (fun _ => wX1 k a σ) (fun _ => List.Perm.refl _) rfl rfl (Nat.le_of_ble_eq_true rfl) dX1_readsUntilChange_78 ⟨Nat.le_of_ble_eq_true rfl, Nat.le_of_ble_eq_true rfl⟩ (fun r78 _ H locs hw hd => ?_)
        obtain ⟨h10, hw⟩ := hw
        refine g_ild (f := hs_ageing σ) C hd 1 rfl h10 dX1_readsUntilChange_81 ?_
        refine lv_iadd hx hb dX1_readsUntilChange_82 ?_
        refine lv_istore (lv' := [(4, .int (v63l4 + ((hs_ageing σ) r78.toNatClampNeg))), (0, .ref (a 0)), (2, .int ((hs_server σ) p0.toNatClampNeg)), (3, .int v51s0), (5, .int v63l5)]) hx hb dX1_readsUntilChange_83 hl (by decide) rfl (fun ls hl => ?_)
        refine lv_iload hx hb dX1_readsUntilChange_85 (lv_at hl 0 rfl) ?_
        refine lv_iload_n hx hb dX1_readsUntilChange_87 rfl (lv_at hl 3 rfl) ?_
        refine lv_icmp_lt (tgt := 94) hx hb dX1_readsUntilChange_88 (by decide) (fun c13 => ?_) (fun c13 => ?_)
        · replace hw := hw.1 c13
          refine lv_iinc (v := v63l5 + 1) (lv' := [(5, .int (v63l5 + 1)), (4, .int (v63l4 + ((hs_ageing σ) r78.toNatClampNeg))), (0, .ref (a 0)), (2, .int ((hs_server σ) p0.toNatClampNeg)), (3, .int v51s0)]) hx hb dX1_readsUntilChange_94 hl (k := 4) rfl rfl (by decide) rfl (fun ls hl => ?_)
          refine lv_goto (tgt := 63) hx hb dX1_readsUntilChange_97 (by decide) ?_
          exact ih63 v51s0 (v63l4 + ((hs_ageing σ) r78.toNatClampNeg)) (v63l5 + 1) _ _ _ hd (lv_sub hl [2, 3, 4, 1, 0] rfl) hw
        · replace hw := hw.2 c13
          refine lv_iload hx hb dX1_readsUntilChange_91 (lv_at hl 4 rfl) ?_
          exact r_i C hd dX1_readsUntilChange_93 () rfl hw
  have J51 : ∀ (v51s0 : Int32) (H : Heap) (locs : List Loc) (ls : Array Slot), Wd B A s.heap (wX1 k a σ) H locs → lv_has ls 6 [(0, .ref (a 0)), (2, .int ((hs_server σ) p0.toNatClampNeg))] → wpX1_readsUntilChange_J51 σ p0 post v51s0 → W p l e rm_X1_readsUntilChange s m args below meth c H locs 0 0 (Qi below args s B A (fun _ : Unit => wX1 k a σ) (fun r _ => post r) 0 0) (F0 m 51 ls [.int v51s0]) := by
    intro v51s0 H locs ls hd hl hw
    rw [wpX1_readsUntilChange_J51] at hw
    refine lv_istore_n (lv' := [(3, .int v51s0), (0, .ref (a 0)), (2, .int ((hs_server σ) p0.toNatClampNeg))]) hx hb dX1_readsUntilChange_51 rfl hl (by decide) rfl (fun ls hl => ?_)
    refine lv_aload_n hx hb dX1_readsUntilChange_52 rfl (lv_at hl 1 rfl) ?_
    refine g_get (v := .ref (a 4)) C hd iX1_readsUntilChange_X1 0 1 rfl rfl 4 (by decide) (List.mem_of_getElem? (i := 3) rfl) rfl dX1_readsUntilChange_53 ?_
    refine lv_iload_n hx hb dX1_readsUntilChange_56 rfl (lv_at hl 2 rfl) ?_
    obtain ⟨h11, hw⟩ := hw
    refine g_ild (f := hs_wear σ) C hd 4 rfl h11 dX1_readsUntilChange_57 ?_
    refine lv_istore (lv' := [(4, .int ((hs_wear σ) ((hs_server σ) p0.toNatClampNeg).toNatClampNeg)), (3, .int v51s0), (0, .ref (a 0)), (2, .int ((hs_server σ) p0.toNatClampNeg))]) hx hb dX1_readsUntilChange_58 hl (by decide) rfl (fun ls hl => ?_)
    refine lv_iconst (v := 1) hx hb dX1_readsUntilChange_60 (by decide) ?_
    refine lv_istore (lv' := [(5, .int 1), (4, .int ((hs_wear σ) ((hs_server σ) p0.toNatClampNeg).toNatClampNeg)), (3, .int v51s0), (0, .ref (a 0)), (2, .int ((hs_server σ) p0.toNatClampNeg))]) hx hb dX1_readsUntilChange_61 hl (by decide) rfl (fun ls hl => ?_)
    obtain ⟨n, hw⟩ := hw
    exact L63 n v51s0 ((hs_wear σ) ((hs_server σ) p0.toNatClampNeg).toNatClampNeg) 1 _ _ _ hd (lv_sub hl [3, 4, 2, 1, 0] rfl) hw
  rw [wpX1_readsUntilChange] at hw
  refine lv_aload_n hx hb dX1_readsUntilChange_0 rfl (lv_at hl 0 rfl) ?_
  refine lv_iload_n hx hb dX1_readsUntilChange_1 rfl (lv_at hl 1 rfl) ?_
  refine v_i C hd hl M_X1_isAddress gX1_readsUntilChange_X1_isAddress (c_X1_isAddress l B k a σ p0 _ hw) ⟨rfl, rfl⟩ ⟨Nat.le_of_ble_eq_true rfl, Nat.le_of_ble_eq_true rfl⟩ (pm_all _) (fun _ => wX1 k a σ) (fun _ => (pm_all _).symm) 0 1 rfl rfl rfl rfl rfl (Nat.le_of_ble_eq_true rfl) dX1_readsUntilChange_2 ⟨Nat.le_of_ble_eq_true rfl, Nat.le_of_ble_eq_true rfl⟩ (fun r _ H locs hp hd => ?_)
  obtain ⟨b2, rfl, hw⟩ := hp
  refine lv_if_ne (tgt := 10) hx hb dX1_readsUntilChange_5 (by decide) (fun c16 => ?_) (fun c16 => ?_)
  · replace hw := hw.1 ((bi_ne _).mp c16)
    refine lv_aload_n hx hb dX1_readsUntilChange_10 rfl (lv_at hl 0 rfl) ?_
    refine lv_iload_n hx hb dX1_readsUntilChange_11 rfl (lv_at hl 1 rfl) ?_
    refine v_i C hd hl M_X1_isLost gX1_readsUntilChange_X1_isLost (c_X1_isLost l B k a σ p0 _ hw) ⟨rfl, rfl⟩ ⟨Nat.le_of_ble_eq_true rfl, Nat.le_of_ble_eq_true rfl⟩ (pm_all _) (fun _ => wX1 k a σ) (fun _ => (pm_all _).symm) 0 1 rfl rfl rfl rfl rfl (Nat.le_of_ble_eq_true rfl) dX1_readsUntilChange_12 ⟨Nat.le_of_ble_eq_true rfl, Nat.le_of_ble_eq_true rfl⟩ (fun r _ H locs hp hd => ?_)
    obtain ⟨b12, rfl, hw⟩ := hp
    refine lv_if_eq (tgt := 21) hx hb dX1_readsUntilChange_15 (by decide) (fun c15 => ?_) (fun c15 => ?_)
    · replace hw := hw.2 ((bi_eq _).mp c15)
      refine lv_aload_n hx hb dX1_readsUntilChange_21 rfl (lv_at hl 0 rfl) ?_
      refine g_get (v := .ref (a 7)) C hd iX1_readsUntilChange_X1 0 1 rfl rfl 7 (by decide) (List.mem_of_getElem? (i := 1) rfl) rfl dX1_readsUntilChange_22 ?_
      refine lv_iload_n hx hb dX1_readsUntilChange_25 rfl (lv_at hl 1 rfl) ?_
      obtain ⟨h12, hw⟩ := hw
      refine g_ild (f := hs_server σ) C hd 7 rfl h12 dX1_readsUntilChange_26 ?_
      refine lv_istore_n (lv' := [(2, .int ((hs_server σ) p0.toNatClampNeg)), (0, .ref (a 0)), (1, .int p0)]) hx hb dX1_readsUntilChange_27 rfl hl (by decide) rfl (fun ls hl => ?_)
      refine lv_aload_n hx hb dX1_readsUntilChange_28 rfl (lv_at hl 1 rfl) ?_
      refine lv_iload_n hx hb dX1_readsUntilChange_29 rfl (lv_at hl 2 rfl) ?_
      refine v_i C hd hl M_X1_lendableTo gX1_readsUntilChange_X1_lendableTo (c_X1_lendableTo l B k a σ p0 _ hw) ⟨rfl, rfl⟩ ⟨Nat.le_of_ble_eq_true rfl, Nat.le_of_ble_eq_true rfl⟩ (pm_all _) (fun _ => wX1 k a σ) (fun _ => (pm_all _).symm) 0 1 rfl rfl rfl rfl rfl (Nat.le_of_ble_eq_true rfl) dX1_readsUntilChange_30 ⟨Nat.le_of_ble_eq_true rfl, Nat.le_of_ble_eq_true rfl⟩ (fun r30 _ H locs hw hd => ?_)
      refine lv_bipush (v := (-5)) hx hb dX1_readsUntilChange_33 (by decide) ?_
      refine lv_icmp_eq (tgt := 45) hx hb dX1_readsUntilChange_35 (by decide) (fun c14 => ?_) (fun c14 => ?_)
      · replace hw := hw.1 c14
        refine lv_iconst (v := 2) hx hb dX1_readsUntilChange_45 (by decide) ?_
        refine lv_aload_n hx hb dX1_readsUntilChange_46 rfl (lv_at hl 1 rfl) ?_
        refine g_get (v := .int (hs_limit σ)) C hd iX1_readsUntilChange_X1 0 1 rfl rfl 0 (by decide) (List.mem_of_getElem? (i := 2) rfl) rfl dX1_readsUntilChange_47 ?_
        refine lv_imul hx hb dX1_readsUntilChange_50 ?_
        exact J51 (2 * (hs_limit σ)) _ _ _ hd (lv_sub hl [1, 0] rfl) hw
      · replace hw := hw.2 c14
        refine lv_aload_n hx hb dX1_readsUntilChange_38 rfl (lv_at hl 1 rfl) ?_
        refine g_get (v := .int (hs_limit σ)) C hd iX1_readsUntilChange_X1 0 1 rfl rfl 0 (by decide) (List.mem_of_getElem? (i := 2) rfl) rfl dX1_readsUntilChange_39 ?_
        refine lv_goto (tgt := 51) hx hb dX1_readsUntilChange_42 (by decide) ?_
        exact J51 (hs_limit σ) _ _ _ hd (lv_sub hl [1, 0] rfl) hw
    · replace hw := hw.1 ((bi_ne _).mp c15)
      refine lv_bipush (v := (-4)) hx hb dX1_readsUntilChange_18 (by decide) ?_
      exact r_i C hd dX1_readsUntilChange_20 () rfl hw
  · replace hw := hw.2 ((bi_eq _).mp c16)
    refine lv_iconst (v := (-1)) hx hb dX1_readsUntilChange_8 (by decide) ?_
    exact r_i C hd dX1_readsUntilChange_9 () rfl hw
abbrev rm_X1_hasRank : Room := { frames := 2, cells := 0, slots := 0, locals := 41 }
theorem M_X1_hasRank : MI yX1_hasRank wsX1_hasRank cX1_hasRank 2 (some .boolean) 1 := ⟨⟨_, rfl⟩, by decide +kernel, by decide +kernel, by decide +kernel, by decide +kernel⟩
theorem iX1_hasRank_X1 : ∀ w ∈ wsX10, w ∈ wsX1_hasRank := fun _ h => List.mem_cons_of_mem _ (List.mem_append_right _ h)
def wpX1_hasRank (σ : HS) (p0 : Int32) (post : Bool → Prop) : Prop := wpX1_isAddress σ p0 (fun b2 => ((b2 = true → wpX1_isLost σ p0 (fun b10 => ((b10 = true → post false) ∧ (b10 = false → post true)))) ∧ (b2 = false → post false)))
set_option maxHeartbeats 4000000 in
set_option maxRecDepth 100000 in
theorem c_X1_hasRank (l : Launch) (B : va_G) (k : KT) (a : Nat → Nat) (σ : HS) (p0 : Int32) (post : Bool → Prop) (hw : wpX1_hasRank σ p0 post) : Cti l yX1_hasRank wsX1_hasRank rm_X1_hasRank 0 0 B k [.ref (a 0), .int p0] (wX1 k a σ) (fun _ : Unit => wX1 k a σ) (bpost fun b _ => post b) := by
  refine Cti.of M_X1_hasRank (Nat.le_of_ble_eq_true rfl) ?_
  intro p e s m args below meth c A C hd ls hl
  have hx := C.1; have hb := C.2.1; have hml := C.2.2.1; have hts := C.2.2.2.2.1
  have hl : lv_has ls 2 [(0, .ref (a 0)), (1, .int p0)] := hl
  rw [wpX1_hasRank] at hw
  refine lv_aload_n hx hb dX1_hasRank_0 rfl (lv_at hl 0 rfl) ?_
  refine lv_iload_n hx hb dX1_hasRank_1 rfl (lv_at hl 1 rfl) ?_
  refine v_i C hd hl M_X1_isAddress gX1_hasRank_X1_isAddress (c_X1_isAddress l B k a σ p0 _ hw) ⟨rfl, rfl⟩ ⟨Nat.le_of_ble_eq_true rfl, Nat.le_of_ble_eq_true rfl⟩ (pm_all _) (fun _ => wX1 k a σ) (fun _ => (pm_all _).symm) 0 1 rfl rfl rfl rfl rfl (Nat.le_of_ble_eq_true rfl) dX1_hasRank_2 ⟨Nat.le_of_ble_eq_true rfl, Nat.le_of_ble_eq_true rfl⟩ (fun r _ H locs hp hd => ?_)
  obtain ⟨b2, rfl, hw⟩ := hp
  refine lv_if_eq (tgt := 20) hx hb dX1_hasRank_5 (by decide) (fun c4 => ?_) (fun c4 => ?_)
  · replace hw := hw.2 ((bi_eq _).mp c4)
    refine lv_iconst (v := 0) hx hb dX1_hasRank_20 (by decide) ?_
    exact r_z false C hd dX1_hasRank_21 () rfl hw
  · replace hw := hw.1 ((bi_ne _).mp c4)
    refine lv_aload_n hx hb dX1_hasRank_8 rfl (lv_at hl 0 rfl) ?_
    refine lv_iload_n hx hb dX1_hasRank_9 rfl (lv_at hl 1 rfl) ?_
    refine v_i C hd hl M_X1_isLost gX1_hasRank_X1_isLost (c_X1_isLost l B k a σ p0 _ hw) ⟨rfl, rfl⟩ ⟨Nat.le_of_ble_eq_true rfl, Nat.le_of_ble_eq_true rfl⟩ (pm_all _) (fun _ => wX1 k a σ) (fun _ => (pm_all _).symm) 0 1 rfl rfl rfl rfl rfl (Nat.le_of_ble_eq_true rfl) dX1_hasRank_10 ⟨Nat.le_of_ble_eq_true rfl, Nat.le_of_ble_eq_true rfl⟩ (fun r _ H locs hp hd => ?_)
    obtain ⟨b10, rfl, hw⟩ := hp
    refine lv_if_ne (tgt := 20) hx hb dX1_hasRank_13 (by decide) (fun c3 => ?_) (fun c3 => ?_)
    · replace hw := hw.1 ((bi_ne _).mp c3)
      refine lv_iconst (v := 0) hx hb dX1_hasRank_20 (by decide) ?_
      exact r_z false C hd dX1_hasRank_21 () rfl hw
    · replace hw := hw.2 ((bi_eq _).mp c3)
      refine lv_iconst (v := 1) hx hb dX1_hasRank_16 (by decide) ?_
      refine lv_goto (tgt := 21) hx hb dX1_hasRank_17 (by decide) ?_
      exact r_z true C hd dX1_hasRank_21 () rfl hw
abbrev rm_X1_rankOf : Room := { frames := 3, cells := 0, slots := 0, locals := 62 }
theorem M_X1_rankOf : MI yX1_rankOf wsX1_rankOf cX1_rankOf 6 (some .int) 1 := ⟨⟨_, rfl⟩, by decide +kernel, by decide +kernel, by decide +kernel, by decide +kernel⟩
theorem iX1_rankOf_X1 : ∀ w ∈ wsX10, w ∈ wsX1_rankOf := fun _ h => List.mem_cons_of_mem _ (List.mem_append_right _ h)
def wpX1_rankOf_L17 (σ : HS) (p0 : Int32) (post : Int32 → Prop) : Nat → Int32 → Int32 → Prop
  | 0, _, _ => False
  | n17 + 1, v17l3, v17l4 => ((64 ≤ v17l4 → post v17l3) ∧ (¬ 64 ≤ v17l4 → wpX1_hasRank σ v17l4 (fun b27 => ((b27 = true → (vp_in v17l4 64 ∧ (vp_in ((hs_server σ) v17l4.toNatClampNeg) 64 ∧ ((((hs_wear σ) ((hs_server σ) p0.toNatClampNeg).toNatClampNeg) < ((hs_wear σ) ((hs_server σ) v17l4.toNatClampNeg).toNatClampNeg) → wpX1_rankOf_L17 σ p0 post n17 (v17l3 + 1) (v17l4 + 1)) ∧ (¬ ((hs_wear σ) ((hs_server σ) p0.toNatClampNeg).toNatClampNeg) < ((hs_wear σ) ((hs_server σ) v17l4.toNatClampNeg).toNatClampNeg) → ((((hs_wear σ) ((hs_server σ) v17l4.toNatClampNeg).toNatClampNeg) = ((hs_wear σ) ((hs_server σ) p0.toNatClampNeg).toNatClampNeg) → ((p0 ≤ v17l4 → wpX1_rankOf_L17 σ p0 post n17 v17l3 (v17l4 + 1)) ∧ (¬ p0 ≤ v17l4 → wpX1_rankOf_L17 σ p0 post n17 (v17l3 + 1) (v17l4 + 1)))) ∧ (¬ ((hs_wear σ) ((hs_server σ) v17l4.toNatClampNeg).toNatClampNeg) = ((hs_wear σ) ((hs_server σ) p0.toNatClampNeg).toNatClampNeg) → wpX1_rankOf_L17 σ p0 post n17 v17l3 (v17l4 + 1)))))))) ∧ (b27 = false → wpX1_rankOf_L17 σ p0 post n17 v17l3 (v17l4 + 1))))))
def wpX1_rankOf (σ : HS) (p0 : Int32) (post : Int32 → Prop) : Prop := (vp_in p0 64 ∧ (vp_in ((hs_server σ) p0.toNatClampNeg) 64 ∧ ∃ n17 : Nat, wpX1_rankOf_L17 σ p0 post n17 0 0))
set_option maxHeartbeats 4000000 in
set_option maxRecDepth 100000 in
theorem c_X1_rankOf (l : Launch) (B : va_G) (k : KT) (a : Nat → Nat) (σ : HS) (p0 : Int32) (post : Int32 → Prop) (hw : wpX1_rankOf σ p0 post) : Cti l yX1_rankOf wsX1_rankOf rm_X1_rankOf 0 0 B k [.ref (a 0), .int p0] (wX1 k a σ) (fun _ : Unit => wX1 k a σ) (fun r _ => post r) := by
  refine Cti.of M_X1_rankOf (Nat.le_of_ble_eq_true rfl) ?_
  intro p e s m args below meth c A C hd ls hl
  have hx := C.1; have hb := C.2.1; have hml := C.2.2.1; have hts := C.2.2.2.2.1
  have hl : lv_has ls 6 [(0, .ref (a 0)), (1, .int p0)] := hl
  have L17 : ∀ (n17 : Nat), ∀ (v17l3 : Int32) (v17l4 : Int32) (H : Heap) (locs : List Loc) (ls : Array Slot), Wd B A s.heap (wX1 k a σ) H locs → lv_has ls 6 [(0, .ref (a 0)), (1, .int p0), (2, .int ((hs_wear σ) ((hs_server σ) p0.toNatClampNeg).toNatClampNeg)), (3, .int v17l3), (4, .int v17l4)] → wpX1_rankOf_L17 σ p0 post n17 v17l3 v17l4 → W p l e rm_X1_rankOf s m args below meth c H locs 0 0 (Qi below args s B A (fun _ : Unit => wX1 k a σ) (fun r _ => post r) 0 0) (F0 m 17 ls []) := by
    intro n17
    induction n17 with
    | zero => intro v17l3 v17l4 H locs ls hd hl hw; exact absurd hw (by simp [wpX1_rankOf_L17])
    | succ n17 ih17 =>
      intro v17l3 v17l4 H locs ls hd hl hw
      rw [wpX1_rankOf_L17] at hw
      refine lv_iload hx hb dX1_rankOf_17 (lv_at hl 4 rfl) ?_
      refine lv_bipush (v := 64) hx hb dX1_rankOf_19 (by decide) ?_
      refine lv_icmp_ge (tgt := 74) hx hb dX1_rankOf_21 (by decide) (fun c21 => ?_) (fun c21 => ?_)
      · replace hw := hw.1 c21
        refine lv_iload_n hx hb dX1_rankOf_74 rfl (lv_at hl 3 rfl) ?_
        exact r_i C hd dX1_rankOf_75 () rfl hw
      · replace hw := hw.2 c21
        refine lv_aload_n hx hb dX1_rankOf_24 rfl (lv_at hl 0 rfl) ?_
        refine lv_iload hx hb dX1_rankOf_25 (lv_at hl 4 rfl) ?_
        refine v_i C hd hl M_X1_hasRank gX1_rankOf_X1_hasRank (c_X1_hasRank l B k a σ v17l4 _ hw) ⟨rfl, rfl⟩ ⟨Nat.le_of_ble_eq_true rfl, Nat.le_of_ble_eq_true rfl⟩ (pm_all _) (fun _ => wX1 k a σ) (fun _ => (pm_all _).symm) 0 1 rfl rfl rfl rfl rfl (Nat.le_of_ble_eq_true rfl) dX1_rankOf_27 ⟨Nat.le_of_ble_eq_true rfl, Nat.le_of_ble_eq_true rfl⟩ (fun r _ H locs hp hd => ?_)
        obtain ⟨b27, rfl, hw⟩ := hp
        refine lv_if_eq (tgt := 68) hx hb dX1_rankOf_30 (by decide) (fun c25 => ?_) (fun c25 => ?_)
        · replace hw := hw.2 ((bi_eq _).mp c25)
          refine lv_iinc (v := v17l4 + 1) (lv' := [(4, .int (v17l4 + 1)), (0, .ref (a 0)), (1, .int p0), (2, .int ((hs_wear σ) ((hs_server σ) p0.toNatClampNeg).toNatClampNeg)), (3, .int v17l3)]) hx hb dX1_rankOf_68 hl (k := 4) rfl rfl (by decide) rfl (fun ls hl => ?_)
          refine lv_goto (tgt := 17) hx hb dX1_rankOf_71 (by decide) ?_
          exact ih17 v17l3 (v17l4 + 1) _ _ _ hd (lv_sub hl [1, 2, 3, 4, 0] rfl) hw
        · replace hw := hw.1 ((bi_ne _).mp c25)
          refine lv_aload_n hx hb dX1_rankOf_33 rfl (lv_at hl 0 rfl) ?_
          refine g_get (v := .ref (a 4)) C hd iX1_rankOf_X1 0 1 rfl rfl 4 (by decide) (List.mem_of_getElem? (i := 1) rfl) rfl dX1_rankOf_34 ?_
          refine lv_aload_n hx hb dX1_rankOf_37 rfl (lv_at hl 0 rfl) ?_
          refine g_get (v := .ref (a 7)) C hd iX1_rankOf_X1 0 1 rfl rfl 7 (by decide) (List.mem_of_getElem? (i := 2) rfl) rfl dX1_rankOf_38 ?_
          refine lv_iload hx hb dX1_rankOf_41 (lv_at hl 4 rfl) ?_
          obtain ⟨h11, hw⟩ := hw
          refine g_ild (f := hs_server σ) C hd 7 rfl h11 dX1_rankOf_43 ?_
          obtain ⟨h12, hw⟩ := hw
          refine g_ild (f := hs_wear σ) C hd 4 rfl h12 dX1_rankOf_44 ?_
          refine lv_istore (lv' := [(5, .int ((hs_wear σ) ((hs_server σ) v17l4.toNatClampNeg).toNatClampNeg)), (0, .ref (a 0)), (1, .int p0), (2, .int ((hs_wear σ) ((hs_server σ) p0.toNatClampNeg).toNatClampNeg)), (3, .int v17l3), (4, .int v17l4)]) hx hb dX1_rankOf_45 hl (by decide) rfl (fun ls hl => ?_)
          refine lv_iload hx hb dX1_rankOf_47 (lv_at hl 0 rfl) ?_
          refine lv_iload_n hx hb dX1_rankOf_49 rfl (lv_at hl 3 rfl) ?_
          refine lv_icmp_gt (tgt := 65) hx hb dX1_rankOf_50 (by decide) (fun c22 => ?_) (fun c22 => ?_)
          · replace hw := hw.1 c22
            refine lv_iinc (v := v17l3 + 1) (lv' := [(3, .int (v17l3 + 1)), (5, .int ((hs_wear σ) ((hs_server σ) v17l4.toNatClampNeg).toNatClampNeg)), (0, .ref (a 0)), (1, .int p0), (2, .int ((hs_wear σ) ((hs_server σ) p0.toNatClampNeg).toNatClampNeg)), (4, .int v17l4)]) hx hb dX1_rankOf_65 hl (k := 4) rfl rfl (by decide) rfl (fun ls hl => ?_)
            refine lv_iinc (v := v17l4 + 1) (lv' := [(4, .int (v17l4 + 1)), (3, .int (v17l3 + 1)), (5, .int ((hs_wear σ) ((hs_server σ) v17l4.toNatClampNeg).toNatClampNeg)), (0, .ref (a 0)), (1, .int p0), (2, .int ((hs_wear σ) ((hs_server σ) p0.toNatClampNeg).toNatClampNeg))]) hx hb dX1_rankOf_68 hl (k := 5) rfl rfl (by decide) rfl (fun ls hl => ?_)
            refine lv_goto (tgt := 17) hx hb dX1_rankOf_71 (by decide) ?_
            exact ih17 (v17l3 + 1) (v17l4 + 1) _ _ _ hd (lv_sub hl [3, 4, 5, 1, 0] rfl) hw
          · replace hw := hw.2 c22
            refine lv_iload hx hb dX1_rankOf_53 (lv_at hl 0 rfl) ?_
            refine lv_iload_n hx hb dX1_rankOf_55 rfl (lv_at hl 3 rfl) ?_
            refine lv_icmp_ne (tgt := 68) hx hb dX1_rankOf_56 (by decide) (fun c23 => ?_) (fun c23 => ?_)
            · replace hw := hw.2 c23
              refine lv_iinc (v := v17l4 + 1) (lv' := [(4, .int (v17l4 + 1)), (5, .int ((hs_wear σ) ((hs_server σ) v17l4.toNatClampNeg).toNatClampNeg)), (0, .ref (a 0)), (1, .int p0), (2, .int ((hs_wear σ) ((hs_server σ) p0.toNatClampNeg).toNatClampNeg)), (3, .int v17l3)]) hx hb dX1_rankOf_68 hl (k := 5) rfl rfl (by decide) rfl (fun ls hl => ?_)
              refine lv_goto (tgt := 17) hx hb dX1_rankOf_71 (by decide) ?_
              exact ih17 v17l3 (v17l4 + 1) _ _ _ hd (lv_sub hl [2, 3, 4, 5, 0] rfl) hw
            · replace hw := hw.1 c23
              refine lv_iload hx hb dX1_rankOf_59 (lv_at hl 5 rfl) ?_
              refine lv_iload_n hx hb dX1_rankOf_61 rfl (lv_at hl 2 rfl) ?_
              refine lv_icmp_ge (tgt := 68) hx hb dX1_rankOf_62 (by decide) (fun c24 => ?_) (fun c24 => ?_)
              · replace hw := hw.1 c24
                refine lv_iinc (v := v17l4 + 1) (lv' := [(4, .int (v17l4 + 1)), (5, .int ((hs_wear σ) ((hs_server σ) v17l4.toNatClampNeg).toNatClampNeg)), (0, .ref (a 0)), (1, .int p0), (2, .int ((hs_wear σ) ((hs_server σ) p0.toNatClampNeg).toNatClampNeg)), (3, .int v17l3)]) hx hb dX1_rankOf_68 hl (k := 5) rfl rfl (by decide) rfl (fun ls hl => ?_)
                refine lv_goto (tgt := 17) hx hb dX1_rankOf_71 (by decide) ?_
                exact ih17 v17l3 (v17l4 + 1) _ _ _ hd (lv_sub hl [2, 3, 4, 5, 0] rfl) hw
              · replace hw := hw.2 c24
                refine lv_iinc (v := v17l3 + 1) (lv' := [(3, .int (v17l3 + 1)), (5, .int ((hs_wear σ) ((hs_server σ) v17l4.toNatClampNeg).toNatClampNeg)), (0, .ref (a 0)), (1, .int p0), (2, .int ((hs_wear σ) ((hs_server σ) p0.toNatClampNeg).toNatClampNeg)), (4, .int v17l4)]) hx hb dX1_rankOf_65 hl (k := 4) rfl rfl (by decide) rfl (fun ls hl => ?_)
                refine lv_iinc (v := v17l4 + 1) (lv' := [(4, .int (v17l4 + 1)), (3, .int (v17l3 + 1)), (5, .int ((hs_wear σ) ((hs_server σ) v17l4.toNatClampNeg).toNatClampNeg)), (0, .ref (a 0)), (1, .int p0), (2, .int ((hs_wear σ) ((hs_server σ) p0.toNatClampNeg).toNatClampNeg))]) hx hb dX1_rankOf_68 hl (k := 5) rfl rfl (by decide) rfl (fun ls hl => ?_)
                refine lv_goto (tgt := 17) hx hb dX1_rankOf_71 (by decide) ?_
                exact ih17 (v17l3 + 1) (v17l4 + 1) _ _ _ hd (lv_sub hl [3, 4, 5, 1, 0] rfl) hw
  rw [wpX1_rankOf] at hw
  refine lv_aload_n hx hb dX1_rankOf_0 rfl (lv_at hl 0 rfl) ?_
  refine g_get (v := .ref (a 4)) C hd iX1_rankOf_X1 0 1 rfl rfl 4 (by decide) (List.mem_of_getElem? (i := 1) rfl) rfl dX1_rankOf_1 ?_
  refine lv_aload_n hx hb dX1_rankOf_4 rfl (lv_at hl 0 rfl) ?_
  refine g_get (v := .ref (a 7)) C hd iX1_rankOf_X1 0 1 rfl rfl 7 (by decide) (List.mem_of_getElem? (i := 2) rfl) rfl dX1_rankOf_5 ?_
  refine lv_iload_n hx hb dX1_rankOf_8 rfl (lv_at hl 1 rfl) ?_
  obtain ⟨h13, hw⟩ := hw
  refine g_ild (f := hs_server σ) C hd 7 rfl h13 dX1_rankOf_9 ?_
  obtain ⟨h14, hw⟩ := hw
  refine g_ild (f := hs_wear σ) C hd 4 rfl h14 dX1_rankOf_10 ?_
  refine lv_istore_n (lv' := [(2, .int ((hs_wear σ) ((hs_server σ) p0.toNatClampNeg).toNatClampNeg)), (0, .ref (a 0)), (1, .int p0)]) hx hb dX1_rankOf_11 rfl hl (by decide) rfl (fun ls hl => ?_)
  refine lv_iconst (v := 0) hx hb dX1_rankOf_12 (by decide) ?_
  refine lv_istore_n (lv' := [(3, .int 0), (2, .int ((hs_wear σ) ((hs_server σ) p0.toNatClampNeg).toNatClampNeg)), (0, .ref (a 0)), (1, .int p0)]) hx hb dX1_rankOf_13 rfl hl (by decide) rfl (fun ls hl => ?_)
  refine lv_iconst (v := 0) hx hb dX1_rankOf_14 (by decide) ?_
  refine lv_istore (lv' := [(4, .int 0), (3, .int 0), (2, .int ((hs_wear σ) ((hs_server σ) p0.toNatClampNeg).toNatClampNeg)), (0, .ref (a 0)), (1, .int p0)]) hx hb dX1_rankOf_15 hl (by decide) rfl (fun ls hl => ?_)
  obtain ⟨n, hw⟩ := hw
  exact L17 n 0 0 _ _ _ hd (lv_sub hl [3, 4, 2, 1, 0] rfl) hw
abbrev rm_X1_addressOfRank : Room := { frames := 4, cells := 0, slots := 0, locals := 87 }
theorem M_X1_addressOfRank : MI yX1_addressOfRank wsX1_addressOfRank cX1_addressOfRank 3 (some .int) 1 := ⟨⟨_, rfl⟩, by decide +kernel, by decide +kernel, by decide +kernel, by decide +kernel⟩
theorem iX1_addressOfRank_X1 : ∀ w ∈ wsX10, w ∈ wsX1_addressOfRank := fun _ h => List.mem_cons_of_mem _ (List.mem_append_right _ h)
def wpX1_addressOfRank_L2 (σ : HS) (p0 : Int32) (post : Int32 → Prop) : Nat → Int32 → Prop
  | 0, _ => False
  | n2 + 1, v2l2 => ((64 ≤ v2l2 → post (-5)) ∧ (¬ 64 ≤ v2l2 → wpX1_hasRank σ v2l2 (fun b10 => ((b10 = true → wpX1_rankOf σ v2l2 (fun r18 => ((r18 = p0 → post v2l2) ∧ (¬ r18 = p0 → wpX1_addressOfRank_L2 σ p0 post n2 (v2l2 + 1))))) ∧ (b10 = false → wpX1_addressOfRank_L2 σ p0 post n2 (v2l2 + 1))))))
def wpX1_addressOfRank (σ : HS) (p0 : Int32) (post : Int32 → Prop) : Prop := ∃ n2 : Nat, wpX1_addressOfRank_L2 σ p0 post n2 0
set_option maxHeartbeats 4000000 in
set_option maxRecDepth 100000 in
theorem c_X1_addressOfRank (l : Launch) (B : va_G) (k : KT) (a : Nat → Nat) (σ : HS) (p0 : Int32) (post : Int32 → Prop) (hw : wpX1_addressOfRank σ p0 post) : Cti l yX1_addressOfRank wsX1_addressOfRank rm_X1_addressOfRank 0 0 B k [.ref (a 0), .int p0] (wX1 k a σ) (fun _ : Unit => wX1 k a σ) (fun r _ => post r) := by
  refine Cti.of M_X1_addressOfRank (Nat.le_of_ble_eq_true rfl) ?_
  intro p e s m args below meth c A C hd ls hl
  have hx := C.1; have hb := C.2.1; have hml := C.2.2.1; have hts := C.2.2.2.2.1
  have hl : lv_has ls 3 [(0, .ref (a 0)), (1, .int p0)] := hl
  have L2 : ∀ (n2 : Nat), ∀ (v2l2 : Int32) (H : Heap) (locs : List Loc) (ls : Array Slot), Wd B A s.heap (wX1 k a σ) H locs → lv_has ls 3 [(0, .ref (a 0)), (1, .int p0), (2, .int v2l2)] → wpX1_addressOfRank_L2 σ p0 post n2 v2l2 → W p l e rm_X1_addressOfRank s m args below meth c H locs 0 0 (Qi below args s B A (fun _ : Unit => wX1 k a σ) (fun r _ => post r) 0 0) (F0 m 2 ls []) := by
    intro n2
    induction n2 with
    | zero => intro v2l2 H locs ls hd hl hw; exact absurd hw (by simp [wpX1_addressOfRank_L2])
    | succ n2 ih2 =>
      intro v2l2 H locs ls hd hl hw
      rw [wpX1_addressOfRank_L2] at hw
      refine lv_iload_n hx hb dX1_addressOfRank_2 rfl (lv_at hl 2 rfl) ?_
      refine lv_bipush (v := 64) hx hb dX1_addressOfRank_3 (by decide) ?_
      refine lv_icmp_ge (tgt := 33) hx hb dX1_addressOfRank_5 (by decide) (fun c13 => ?_) (fun c13 => ?_)
      · replace hw := hw.1 c13
        refine lv_bipush (v := (-5)) hx hb dX1_addressOfRank_33 (by decide) ?_
        exact r_i C hd dX1_addressOfRank_35 () rfl hw
      · replace hw := hw.2 c13
        refine lv_aload_n hx hb dX1_addressOfRank_8 rfl (lv_at hl 0 rfl) ?_
        refine lv_iload_n hx hb dX1_addressOfRank_9 rfl (lv_at hl 2 rfl) ?_
        refine v_i C hd hl M_X1_hasRank gX1_addressOfRank_X1_hasRank (c_X1_hasRank l B k a σ v2l2 _ hw) ⟨rfl, rfl⟩ ⟨Nat.le_of_ble_eq_true rfl, Nat.le_of_ble_eq_true rfl⟩ (pm_all _) (fun _ => wX1 k a σ) (fun _ => (pm_all _).symm) 0 1 rfl rfl rfl rfl rfl (Nat.le_of_ble_eq_true rfl) dX1_addressOfRank_10 ⟨Nat.le_of_ble_eq_true rfl, Nat.le_of_ble_eq_true rfl⟩ (fun r _ H locs hp hd => ?_)
        obtain ⟨b10, rfl, hw⟩ := hp
        refine lv_if_eq (tgt := 27) hx hb dX1_addressOfRank_13 (by decide) (fun c15 => ?_) (fun c15 => ?_)
        · replace hw := hw.2 ((bi_eq _).mp c15)
          refine lv_iinc (v := v2l2 + 1) (lv' := [(2, .int (v2l2 + 1)), (0, .ref (a 0)), (1, .int p0)]) hx hb dX1_addressOfRank_27 hl (k := 2) rfl rfl (by decide) rfl (fun ls hl => ?_)
          refine lv_goto (tgt := 2) hx hb dX1_addressOfRank_30 (by decide) ?_
          exact ih2 (v2l2 + 1) _ _ _ hd (lv_sub hl [1, 2, 0] rfl) hw
        · replace hw := hw.1 ((bi_ne _).mp c15)
          refine lv_aload_n hx hb dX1_addressOfRank_16 rfl (lv_at hl 0 rfl) ?_
          refine lv_iload_n hx hb dX1_addressOfRank_17 rfl (lv_at hl 2 rfl) ?_
          refine v_i C hd hl M_X1_rankOf gX1_addressOfRank_X1_rankOf (c_X1_rankOf l B k a σ v2l2 _ hw) ⟨rfl, rfl⟩ ⟨Nat.le_of_ble_eq_true rfl, Nat.le_of_ble_eq_true rfl⟩ (pm_all _) (fun _ => wX1 k a σ) (fun _ => (pm_all _).symm) 0 1 rfl rfl rfl rfl rfl (Nat.le_of_ble_eq_true rfl) dX1_addressOfRank_18 ⟨Nat.le_of_ble_eq_true rfl, Nat.le_of_ble_eq_true rfl⟩ (fun r18 _ H locs hw hd => ?_)
          refine lv_iload_n hx hb dX1_addressOfRank_21 rfl (lv_at hl 1 rfl) ?_
          refine lv_icmp_ne (tgt := 27) hx hb dX1_addressOfRank_22 (by decide) (fun c14 => ?_) (fun c14 => ?_)
          · replace hw := hw.2 c14
            refine lv_iinc (v := v2l2 + 1) (lv' := [(2, .int (v2l2 + 1)), (0, .ref (a 0)), (1, .int p0)]) hx hb dX1_addressOfRank_27 hl (k := 2) rfl rfl (by decide) rfl (fun ls hl => ?_)
            refine lv_goto (tgt := 2) hx hb dX1_addressOfRank_30 (by decide) ?_
            exact ih2 (v2l2 + 1) _ _ _ hd (lv_sub hl [1, 2, 0] rfl) hw
          · replace hw := hw.1 c14
            refine lv_iload_n hx hb dX1_addressOfRank_25 rfl (lv_at hl 2 rfl) ?_
            exact r_i C hd dX1_addressOfRank_26 () rfl hw
  rw [wpX1_addressOfRank] at hw
  refine lv_iconst (v := 0) hx hb dX1_addressOfRank_0 (by decide) ?_
  refine lv_istore_n (lv' := [(2, .int 0), (0, .ref (a 0)), (1, .int p0)]) hx hb dX1_addressOfRank_1 rfl hl (by decide) rfl (fun ls hl => ?_)
  obtain ⟨n, hw⟩ := hw
  exact L2 n 0 _ _ _ hd (lv_sub hl [1, 2, 0] rfl) hw
