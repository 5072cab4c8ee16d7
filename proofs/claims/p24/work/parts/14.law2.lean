abbrev rm_L_reads : Room := { frames := 7, cells := 0, slots := 0, locals := 158 }
theorem M_L_reads : MI yL_reads wsL_reads cL_reads 14 (some .boolean) 3 := ⟨⟨_, rfl⟩, by decide +kernel, by decide +kernel, by decide +kernel, by decide +kernel⟩
theorem iL_reads_X3 : ∀ w ∈ wsX30, w ∈ wsL_reads := fun _ h => List.mem_cons_of_mem _ (List.mem_append_left _ (List.mem_append_left _ (List.mem_append_left _ (List.mem_append_right _ h))))
theorem iL_reads_X1 : ∀ w ∈ wsX10, w ∈ wsL_reads := fun _ h => List.mem_cons_of_mem _ (List.mem_append_left _ (List.mem_append_left _ (List.mem_append_right _ h)))
theorem iL_reads_X2 : ∀ w ∈ wsX20, w ∈ wsL_reads := fun _ h => List.mem_cons_of_mem _ (List.mem_append_left _ (List.mem_append_right _ h))
theorem iL_reads_X0 : ∀ w ∈ wsX00, w ∈ wsL_reads := fun _ h => List.mem_cons_of_mem _ (List.mem_append_right _ h)
def wpL_reads_J265 (r3 : Int32) (r10 : Int32) (r34 : Int32) (χ81 : XS) (r81 : Int32) (r137 : Int32) (post : Bool → XS → Prop)  : Prop := ((r81 = r10 → ((r137 = r3 → wpX3_sector χ81 r3 1 (fun r281 => ((r281 = 0 → post true χ81) ∧ (¬ r281 = 0 → ((r34 = (-5) → wpX3_sector χ81 r3 1 (fun r297 => ((r297 = 1 → post true χ81) ∧ (¬ r297 = 1 → post false χ81)))) ∧ (¬ r34 = (-5) → post false χ81)))))) ∧ (¬ r137 = r3 → wpX3_sector χ81 r3 3 (fun r310 => ((r310 = (-5) → post true χ81) ∧ (¬ r310 = (-5) → post false χ81)))))) ∧ (¬ r81 = r10 → post false χ81))
def wpL_reads_J249 (r3 : Int32) (r10 : Int32) (r18 : Int32) (r26 : Int32) (r34 : Int32) (χ81 : XS) (r81 : Int32) (r137 : Int32) (post : Bool → XS → Prop)  : Prop := wpX3_count χ81 7 (fun r252 => ((r252 = (r26 + r18) → wpL_reads_J265 r3 r10 r34 χ81 r81 r137 post ) ∧ (¬ r252 = (r26 + r18) → post false χ81)))
def wpL_reads_J194 (r3 : Int32) (r10 : Int32) (r18 : Int32) (r26 : Int32) (r34 : Int32) (χ81 : XS) (r81 : Int32) (r137 : Int32) (v160s0 : Bool) (post : Bool → XS → Prop)  : Prop := ((v160s0 = true → ((r137 = r34 → wpX3_count χ81 5 (fun r208 => ((r208 = (r137 - r137 / 16 * 16) → wpX3_count χ81 6 (fun r222 => ((r222 = (r137 / 16) → wpL_reads_J265 r3 r10 r34 χ81 r81 r137 post ) ∧ (¬ r222 = (r137 / 16) → post false χ81)))) ∧ (¬ r208 = (r137 - r137 / 16 * 16) → post false χ81)))) ∧ (¬ r137 = r34 → post false χ81))) ∧ (v160s0 = false → ((r137 = r3 → wpL_reads_J249 r3 r10 r18 r26 r34 χ81 r81 r137 post ) ∧ (¬ r137 = r3 → ((r137 = (-5) → wpL_reads_J249 r3 r10 r18 r26 r34 χ81 r81 r137 post ) ∧ (¬ r137 = (-5) → post false χ81))))))
def wpL_reads_J189 (r3 : Int32) (r10 : Int32) (r18 : Int32) (r26 : Int32) (r34 : Int32) (χ81 : XS) (r81 : Int32) (r137 : Int32) (v160s0 : Bool) (v178s0 : Bool) (post : Bool → XS → Prop) (v189s1 : Bool) : Prop := (((bi v178s0) = (bi v189s1) → wpL_reads_J194 r3 r10 r18 r26 r34 χ81 r81 r137 v160s0 post ) ∧ (¬ (bi v178s0) = (bi v189s1) → post false χ81))
def wpL_reads_J178 (r3 : Int32) (r10 : Int32) (r18 : Int32) (r26 : Int32) (r34 : Int32) (χ81 : XS) (r81 : Int32) (r137 : Int32) (v160s0 : Bool) (post : Bool → XS → Prop) (v178s0 : Bool) : Prop := ((r137 = r3 → wpL_reads_J189 r3 r10 r18 r26 r34 χ81 r81 r137 v160s0 v178s0 post false) ∧ (¬ r137 = r3 → wpL_reads_J189 r3 r10 r18 r26 r34 χ81 r81 r137 v160s0 v178s0 post true))
def wpL_reads_J160 (r3 : Int32) (r10 : Int32) (r18 : Int32) (r26 : Int32) (r34 : Int32) (v61s0 : Bool) (v77s0 : Int32) (χ81 : XS) (r81 : Int32) (r137 : Int32) (post : Bool → XS → Prop) (v160s0 : Bool) : Prop := ((v61s0 = true → ((v77s0 = 1 → wpL_reads_J178 r3 r10 r18 r26 r34 χ81 r81 r137 v160s0 post true) ∧ (¬ v77s0 = 1 → wpL_reads_J178 r3 r10 r18 r26 r34 χ81 r81 r137 v160s0 post false))) ∧ (v61s0 = false → wpL_reads_J194 r3 r10 r18 r26 r34 χ81 r81 r137 v160s0 post ))
def wpL_reads_J77 (χ : XS) (p1 : Int32) (r3 : Int32) (r10 : Int32) (r18 : Int32) (r26 : Int32) (r34 : Int32) (r42 : Int32) (v61s0 : Bool) (post : Bool → XS → Prop) (v77s0 : Int32) : Prop := wpX3_read χ p1 (fun r81 χ81 => ((r3 = (-1) → ((r81 = (-1) → post true χ81) ∧ (¬ r81 = (-1) → post false χ81))) ∧ (¬ r3 = (-1) → ((r3 = (-5) → ((r81 = (-4) → ((v61s0 = true → ((v77s0 = (-4) → post true χ81) ∧ (¬ v77s0 = (-4) → post false χ81))) ∧ (v61s0 = false → post true χ81))) ∧ (¬ r81 = (-4) → post false χ81))) ∧ (¬ r3 = (-5) → wpX3_address χ81 p1 1 (fun r137 => wpX3_count χ81 8 (fun r145 => ((r145 = (r42 + 1) → wpL_reads_J160 r3 r10 r18 r26 r34 v61s0 v77s0 χ81 r81 r137 post true) ∧ (¬ r145 = (r42 + 1) → wpL_reads_J160 r3 r10 r18 r26 r34 v61s0 v77s0 χ81 r81 r137 post false)))))))))
def wpL_reads_J61 (χ : XS) (p1 : Int32) (r3 : Int32) (r10 : Int32) (r18 : Int32) (r26 : Int32) (r34 : Int32) (r42 : Int32) (post : Bool → XS → Prop) (v61s0 : Bool) : Prop := ((v61s0 = true → wpX3_readsLeft χ p1 (fun r70 => wpL_reads_J77 χ p1 r3 r10 r18 r26 r34 r42 v61s0 post r70)) ∧ (v61s0 = false → wpL_reads_J77 χ p1 r3 r10 r18 r26 r34 r42 v61s0 post 0))
def wpL_reads (χ : XS) (p1 : Int32) (p2 : Int32) (post : Bool → XS → Prop) : Prop := wpX3_address χ p1 1 (fun r3 => wpX3_address χ p1 0 (fun r10 => wpX3_address χ p1 4 (fun r18 => wpX3_count χ 7 (fun r26 => wpX3_address χ p1 3 (fun r34 => wpX3_count χ 8 (fun r42 => wpL_low p2 7 (fun r50 => ((r50 = 0 → wpL_reads_J61 χ p1 r3 r10 r18 r26 r34 r42 post true) ∧ (¬ r50 = 0 → wpL_reads_J61 χ p1 r3 r10 r18 r26 r34 r42 post false)))))))))
set_option maxHeartbeats 4000000 in
set_option maxRecDepth 100000 in
theorem c_L_reads (l : Launch) (B : va_G) (k : KT) (ad : Nat → Nat → Nat) (χ : XS) (p1 : Int32) (p2 : Int32) (post : Bool → XS → Prop) (hw : wpL_reads χ p1 p2 post) : Cti l yL_reads wsL_reads rm_L_reads 0 0 B k [.ref (ad 9 0), .int p1, .int p2] (wX3 k ad χ) (fun u => wX3 k ad u) (bpost post) := by
  refine Cti.of M_L_reads (Nat.le_of_ble_eq_true rfl) ?_
  intro p e s m args below meth c A C hd ls hl
  have hx := C.1; have hb := C.2.1; have hml := C.2.2.1; have hts := C.2.2.2.2.1
  have hl : lv_has ls 14 [(0, .ref (ad 9 0)), (1, .int p1), (2, .int p2)] := hl
  have J265 : ∀ (r3 : Int32) (r10 : Int32) (r34 : Int32) (χ81 : XS) (r81 : Int32) (r137 : Int32) (H : Heap) (locs : List Loc) (ls : Array Slot), Wd B A s.heap (wX3 k ad χ81) H locs → lv_has ls 14 [(0, .ref (ad 9 0)), (3, .int r3), (4, .int r10), (7, .int r34), (11, .int r81), (12, .int r137)] → wpL_reads_J265 r3 r10 r34 χ81 r81 r137 post  → W p l e rm_L_reads s m args below meth c H locs 0 0 (Qi below args s B A (fun u => wX3 k ad u) (bpost post) 0 0) (F0 m 265 ls []) := by
    intro r3 r10 r34 χ81 r81 r137 H locs ls hd hl hw
    rw [wpL_reads_J265] at hw
    refine lv_iload hx hb dL_reads_265 (lv_at hl 4 rfl) ?_
    refine lv_iload hx hb dL_reads_267 (lv_at hl 2 rfl) ?_
    refine lv_icmp_ne (tgt := 322) hx hb dL_reads_269 (by decide) (fun c102 => ?_) (fun c102 => ?_)
    · replace hw := hw.2 c102
      refine lv_iconst (v := 0) hx hb dL_reads_322 (by decide) ?_
      exact r_z false C hd dL_reads_323 χ81 rfl hw
    · replace hw := hw.1 c102
      refine lv_iload hx hb dL_reads_272 (lv_at hl 5 rfl) ?_
      refine lv_iload_n hx hb dL_reads_274 rfl (lv_at hl 1 rfl) ?_
      refine lv_icmp_ne (tgt := 307) hx hb dL_reads_275 (by decide) (fun c103 => ?_) (fun c103 => ?_)
      · replace hw := hw.2 c103
        refine lv_aload_n hx hb dL_reads_307 rfl (lv_at hl 0 rfl) ?_
        refine lv_iload_n hx hb dL_reads_308 rfl (lv_at hl 1 rfl) ?_
        refine lv_iconst (v := 3) hx hb dL_reads_309 (by decide) ?_
        refine v_i C hd hl M_X3_sector gL_reads_X3_sector (c_X3_sector l B k ad χ81 r3 3 _ hw) ⟨rfl, rfl⟩ ⟨Nat.le_of_ble_eq_true rfl, Nat.le_of_ble_eq_true rfl⟩ (pm_all _) (fun _ => wX3 k ad χ81) (fun _ => (pm_all _).symm) 0 3 rfl rfl rfl rfl rfl (Nat.le_of_ble_eq_true rfl) dL_reads_310 ⟨Nat.le_of_ble_eq_true rfl, Nat.le_of_ble_eq_true rfl⟩ (fun r310 _ H locs hw hd => ?_)
        refine lv_bipush (v := (-5)) hx hb dL_reads_313 (by decide) ?_
        refine lv_icmp_ne (tgt := 322) hx hb dL_reads_315 (by decide) (fun c104 => ?_) (fun c104 => ?_)
        · replace hw := hw.2 c104
          refine lv_iconst (v := 0) hx hb dL_reads_322 (by decide) ?_
          exact r_z false C hd dL_reads_323 χ81 rfl hw
        · replace hw := hw.1 c104
          refine lv_iconst (v := 1) hx hb dL_reads_318 (by decide) ?_
          refine lv_goto (tgt := 323) hx hb dL_reads_319 (by decide) ?_
          exact r_z true C hd dL_reads_323 χ81 rfl hw
      · replace hw := hw.1 c103
        refine lv_aload_n hx hb dL_reads_278 rfl (lv_at hl 0 rfl) ?_
        refine lv_iload_n hx hb dL_reads_279 rfl (lv_at hl 1 rfl) ?_
        refine lv_iconst (v := 1) hx hb dL_reads_280 (by decide) ?_
        refine v_i C hd hl M_X3_sector gL_reads_X3_sector (c_X3_sector l B k ad χ81 r3 1 _ hw) ⟨rfl, rfl⟩ ⟨Nat.le_of_ble_eq_true rfl, Nat.le_of_ble_eq_true rfl⟩ (pm_all _) (fun _ => wX3 k ad χ81) (fun _ => (pm_all _).symm) 0 3 rfl rfl rfl rfl rfl (Nat.le_of_ble_eq_true rfl) dL_reads_281 ⟨Nat.le_of_ble_eq_true rfl, Nat.le_of_ble_eq_true rfl⟩ (fun r281 _ H locs hw hd => ?_)
        refine lv_if_eq (tgt := 318) hx hb dL_reads_284 (by decide) (fun c105 => ?_) (fun c105 => ?_)
        · replace hw := hw.1 c105
          refine lv_iconst (v := 1) hx hb dL_reads_318 (by decide) ?_
          refine lv_goto (tgt := 323) hx hb dL_reads_319 (by decide) ?_
          exact r_z true C hd dL_reads_323 χ81 rfl hw
        · replace hw := hw.2 c105
          refine lv_iload hx hb dL_reads_287 (lv_at hl 3 rfl) ?_
          refine lv_bipush (v := (-5)) hx hb dL_reads_289 (by decide) ?_
          refine lv_icmp_ne (tgt := 322) hx hb dL_reads_291 (by decide) (fun c106 => ?_) (fun c106 => ?_)
          · replace hw := hw.2 c106
            refine lv_iconst (v := 0) hx hb dL_reads_322 (by decide) ?_
            exact r_z false C hd dL_reads_323 χ81 rfl hw
          · replace hw := hw.1 c106
            refine lv_aload_n hx hb dL_reads_294 rfl (lv_at hl 0 rfl) ?_
            refine lv_iload_n hx hb dL_reads_295 rfl (lv_at hl 1 rfl) ?_
            refine lv_iconst (v := 1) hx hb dL_reads_296 (by decide) ?_
            refine v_i C hd hl M_X3_sector gL_reads_X3_sector (c_X3_sector l B k ad χ81 r3 1 _ hw) ⟨rfl, rfl⟩ ⟨Nat.le_of_ble_eq_true rfl, Nat.le_of_ble_eq_true rfl⟩ (pm_all _) (fun _ => wX3 k ad χ81) (fun _ => (pm_all _).symm) 0 3 rfl rfl rfl rfl rfl (Nat.le_of_ble_eq_true rfl) dL_reads_297 ⟨Nat.le_of_ble_eq_true rfl, Nat.le_of_ble_eq_true rfl⟩ (fun r297 _ H locs hw hd => ?_)
            refine lv_iconst (v := 1) hx hb dL_reads_300 (by decide) ?_
            refine lv_icmp_ne (tgt := 322) hx hb dL_reads_301 (by decide) (fun c107 => ?_) (fun c107 => ?_)
            · replace hw := hw.2 c107
              refine lv_iconst (v := 0) hx hb dL_reads_322 (by decide) ?_
              exact r_z false C hd dL_reads_323 χ81 rfl hw
            · replace hw := hw.1 c107
              refine lv_goto (tgt := 318) hx hb dL_reads_304 (by decide) ?_
              refine lv_iconst (v := 1) hx hb dL_reads_318 (by decide) ?_
              refine lv_goto (tgt := 323) hx hb dL_reads_319 (by decide) ?_
              exact r_z true C hd dL_reads_323 χ81 rfl hw
  have J249 : ∀ (r3 : Int32) (r10 : Int32) (r18 : Int32) (r26 : Int32) (r34 : Int32) (χ81 : XS) (r81 : Int32) (r137 : Int32) (H : Heap) (locs : List Loc) (ls : Array Slot), Wd B A s.heap (wX3 k ad χ81) H locs → lv_has ls 14 [(0, .ref (ad 9 0)), (3, .int r3), (4, .int r10), (5, .int r18), (6, .int r26), (7, .int r34), (11, .int r81), (12, .int r137)] → wpL_reads_J249 r3 r10 r18 r26 r34 χ81 r81 r137 post  → W p l e rm_L_reads s m args below meth c H locs 0 0 (Qi below args s B A (fun u => wX3 k ad u) (bpost post) 0 0) (F0 m 249 ls []) := by
    intro r3 r10 r18 r26 r34 χ81 r81 r137 H locs ls hd hl hw
    rw [wpL_reads_J249] at hw
    refine lv_aload_n hx hb dL_reads_249 rfl (lv_at hl 0 rfl) ?_
    refine lv_bipush (v := 7) hx hb dL_reads_250 (by decide) ?_
    refine v_i C hd hl M_X3_count gL_reads_X3_count (c_X3_count l B k ad χ81 7 _ hw) ⟨rfl, rfl⟩ ⟨Nat.le_of_ble_eq_true rfl, Nat.le_of_ble_eq_true rfl⟩ (pm_all _) (fun _ => wX3 k ad χ81) (fun _ => (pm_all _).symm) 0 3 rfl rfl rfl rfl rfl (Nat.le_of_ble_eq_true rfl) dL_reads_252 ⟨Nat.le_of_ble_eq_true rfl, Nat.le_of_ble_eq_true rfl⟩ (fun r252 _ H locs hw hd => ?_)
    refine lv_iload hx hb dL_reads_255 (lv_at hl 4 rfl) ?_
    refine lv_iload hx hb dL_reads_257 (lv_at hl 3 rfl) ?_
    refine lv_iadd hx hb dL_reads_259 ?_
    refine lv_icmp_eq (tgt := 265) hx hb dL_reads_260 (by decide) (fun c108 => ?_) (fun c108 => ?_)
    · replace hw := hw.1 c108
      exact J265 r3 r10 r34 χ81 r81 r137 _ _ _ hd (lv_sub hl [0, 1, 2, 5, 6, 7] rfl) hw
    · replace hw := hw.2 c108
      refine lv_iconst (v := 0) hx hb dL_reads_263 (by decide) ?_
      exact r_z false C hd dL_reads_264 χ81 rfl hw
  have J194 : ∀ (r3 : Int32) (r10 : Int32) (r18 : Int32) (r26 : Int32) (r34 : Int32) (χ81 : XS) (r81 : Int32) (r137 : Int32) (v160s0 : Bool) (H : Heap) (locs : List Loc) (ls : Array Slot), Wd B A s.heap (wX3 k ad χ81) H locs → lv_has ls 14 [(0, .ref (ad 9 0)), (3, .int r3), (4, .int r10), (5, .int r18), (6, .int r26), (7, .int r34), (11, .int r81), (12, .int r137), (13, .int (bi v160s0))] → wpL_reads_J194 r3 r10 r18 r26 r34 χ81 r81 r137 v160s0 post  → W p l e rm_L_reads s m args below meth c H locs 0 0 (Qi below args s B A (fun u => wX3 k ad u) (bpost post) 0 0) (F0 m 194 ls []) := by
    intro r3 r10 r18 r26 r34 χ81 r81 r137 v160s0 H locs ls hd hl hw
    rw [wpL_reads_J194] at hw
    refine lv_iload hx hb dL_reads_194 (lv_at hl 8 rfl) ?_
    refine lv_if_eq (tgt := 236) hx hb dL_reads_196 (by decide) (fun c114 => ?_) (fun c114 => ?_)
    · replace hw := hw.2 ((bi_eq _).mp c114)
      refine lv_iload hx hb dL_reads_236 (lv_at hl 7 rfl) ?_
      refine lv_iload_n hx hb dL_reads_238 rfl (lv_at hl 1 rfl) ?_
      refine lv_icmp_eq (tgt := 249) hx hb dL_reads_239 (by decide) (fun c109 => ?_) (fun c109 => ?_)
      · replace hw := hw.1 c109
        exact J249 r3 r10 r18 r26 r34 χ81 r81 r137 _ _ _ hd (lv_sub hl [0, 1, 2, 3, 4, 5, 6, 7] rfl) hw
      · replace hw := hw.2 c109
        refine lv_iload hx hb dL_reads_242 (lv_at hl 7 rfl) ?_
        refine lv_bipush (v := (-5)) hx hb dL_reads_244 (by decide) ?_
        refine lv_icmp_ne (tgt := 263) hx hb dL_reads_246 (by decide) (fun c110 => ?_) (fun c110 => ?_)
        · replace hw := hw.2 c110
          refine lv_iconst (v := 0) hx hb dL_reads_263 (by decide) ?_
          exact r_z false C hd dL_reads_264 χ81 rfl hw
        · replace hw := hw.1 c110
          exact J249 r3 r10 r18 r26 r34 χ81 r81 r137 _ _ _ hd (lv_sub hl [0, 1, 2, 3, 4, 5, 6, 7] rfl) hw
    · replace hw := hw.1 ((bi_ne _).mp c114)
      refine lv_iload hx hb dL_reads_199 (lv_at hl 7 rfl) ?_
      refine lv_iload hx hb dL_reads_201 (lv_at hl 5 rfl) ?_
      refine lv_icmp_ne (tgt := 263) hx hb dL_reads_203 (by decide) (fun c111 => ?_) (fun c111 => ?_)
      · replace hw := hw.2 c111
        refine lv_iconst (v := 0) hx hb dL_reads_263 (by decide) ?_
        exact r_z false C hd dL_reads_264 χ81 rfl hw
      · replace hw := hw.1 c111
        refine lv_aload_n hx hb dL_reads_206 rfl (lv_at hl 0 rfl) ?_
        refine lv_iconst (v := 5) hx hb dL_reads_207 (by decide) ?_
        refine v_i C hd hl M_X3_count gL_reads_X3_count (c_X3_count l B k ad χ81 5 _ hw) ⟨rfl, rfl⟩ ⟨Nat.le_of_ble_eq_true rfl, Nat.le_of_ble_eq_true rfl⟩ (pm_all _) (fun _ => wX3 k ad χ81) (fun _ => (pm_all _).symm) 0 3 rfl rfl rfl rfl rfl (Nat.le_of_ble_eq_true rfl) dL_reads_208 ⟨Nat.le_of_ble_eq_true rfl, Nat.le_of_ble_eq_true rfl⟩ (fun r208 _ H locs hw hd => ?_)
        refine lv_iload hx hb dL_reads_211 (lv_at hl 7 rfl) ?_
        refine lv_bipush (v := 16) hx hb dL_reads_213 (by decide) ?_
        refine lv_irem hx hb dL_reads_215 (by decide) ?_
        refine lv_icmp_ne (tgt := 263) hx hb dL_reads_216 (by decide) (fun c112 => ?_) (fun c112 => ?_)
        · replace hw := hw.2 c112
          refine lv_iconst (v := 0) hx hb dL_reads_263 (by decide) ?_
          exact r_z false C hd dL_reads_264 χ81 rfl hw
        · replace hw := hw.1 c112
          refine lv_aload_n hx hb dL_reads_219 rfl (lv_at hl 0 rfl) ?_
          refine lv_bipush (v := 6) hx hb dL_reads_220 (by decide) ?_
          refine v_i C hd hl M_X3_count gL_reads_X3_count (c_X3_count l B k ad χ81 6 _ hw) ⟨rfl, rfl⟩ ⟨Nat.le_of_ble_eq_true rfl, Nat.le_of_ble_eq_true rfl⟩ (pm_all _) (fun _ => wX3 k ad χ81) (fun _ => (pm_all _).symm) 0 3 rfl rfl rfl rfl rfl (Nat.le_of_ble_eq_true rfl) dL_reads_222 ⟨Nat.le_of_ble_eq_true rfl, Nat.le_of_ble_eq_true rfl⟩ (fun r222 _ H locs hw hd => ?_)
          refine lv_iload hx hb dL_reads_225 (lv_at hl 7 rfl) ?_
          refine lv_bipush (v := 16) hx hb dL_reads_227 (by decide) ?_
          refine lv_idiv hx hb dL_reads_229 (by decide) ?_
          refine lv_icmp_eq (tgt := 265) hx hb dL_reads_230 (by decide) (fun c113 => ?_) (fun c113 => ?_)
          · replace hw := hw.1 c113
            exact J265 r3 r10 r34 χ81 r81 r137 _ _ _ hd (lv_sub hl [0, 1, 2, 5, 6, 7] rfl) hw
          · replace hw := hw.2 c113
            refine lv_goto (tgt := 263) hx hb dL_reads_233 (by decide) ?_
            refine lv_iconst (v := 0) hx hb dL_reads_263 (by decide) ?_
            exact r_z false C hd dL_reads_264 χ81 rfl hw
  have J189 : ∀ (r3 : Int32) (r10 : Int32) (r18 : Int32) (r26 : Int32) (r34 : Int32) (χ81 : XS) (r81 : Int32) (r137 : Int32) (v160s0 : Bool) (v178s0 : Bool) (v189s1 : Bool) (H : Heap) (locs : List Loc) (ls : Array Slot), Wd B A s.heap (wX3 k ad χ81) H locs → lv_has ls 14 [(0, .ref (ad 9 0)), (3, .int r3), (4, .int r10), (5, .int r18), (6, .int r26), (7, .int r34), (11, .int r81), (12, .int r137), (13, .int (bi v160s0))] → wpL_reads_J189 r3 r10 r18 r26 r34 χ81 r81 r137 v160s0 v178s0 post v189s1 → W p l e rm_L_reads s m args below meth c H locs 0 0 (Qi below args s B A (fun u => wX3 k ad u) (bpost post) 0 0) (F0 m 189 ls [.int (bi v189s1), .int (bi v178s0)]) := by
    intro r3 r10 r18 r26 r34 χ81 r81 r137 v160s0 v178s0 v189s1 H locs ls hd hl hw
    rw [wpL_reads_J189] at hw
    refine lv_icmp_eq (tgt := 194) hx hb dL_reads_189 (by decide) (fun c115 => ?_) (fun c115 => ?_)
    · replace hw := hw.1 c115
      exact J194 r3 r10 r18 r26 r34 χ81 r81 r137 v160s0 _ _ _ hd (lv_sub hl [0, 1, 2, 3, 4, 5, 6, 7, 8] rfl) hw
    · replace hw := hw.2 c115
      refine lv_iconst (v := 0) hx hb dL_reads_192 (by decide) ?_
      exact r_z false C hd dL_reads_193 χ81 rfl hw
  have J178 : ∀ (r3 : Int32) (r10 : Int32) (r18 : Int32) (r26 : Int32) (r34 : Int32) (χ81 : XS) (r81 : Int32) (r137 : Int32) (v160s0 : Bool) (v178s0 : Bool) (H : Heap) (locs : List Loc) (ls : Array Slot), Wd B A s.heap (wX3 k ad χ81) H locs → lv_has ls 14 [(0, .ref (ad 9 0)), (3, .int r3), (4, .int r10), (5, .int r18), (6, .int r26), (7, .int r34), (11, .int r81), (12, .int r137), (13, .int (bi v160s0))] → wpL_reads_J178 r3 r10 r18 r26 r34 χ81 r81 r137 v160s0 post v178s0 → W p l e rm_L_reads s m args below meth c H locs 0 0 (Qi below args s B A (fun u => wX3 k ad u) (bpost post) 0 0) (F0 m 178 ls [.int (bi v178s0)]) := by
    intro r3 r10 r18 r26 r34 χ81 r81 r137 v160s0 v178s0 H locs ls hd hl hw
    rw [wpL_reads_J178] at hw
    refine lv_iload hx hb dL_reads_178 (lv_at hl 7 rfl) ?_
    refine lv_iload_n hx hb dL_reads_180 rfl (lv_at hl 1 rfl) ?_
    refine lv_icmp_eq (tgt := 188) hx hb dL_reads_181 (by decide) (fun c116 => ?_) (fun c116 => ?_)
    · replace hw := hw.1 c116
      refine lv_iconst (v := 0) hx hb dL_reads_188 (by decide) ?_
      exact J189 r3 r10 r18 r26 r34 χ81 r81 r137 v160s0 v178s0 false _ _ _ hd (lv_sub hl [0, 1, 2, 3, 4, 5, 6, 7, 8] rfl) hw
    · replace hw := hw.2 c116
      refine lv_iconst (v := 1) hx hb dL_reads_184 (by decide) ?_
      refine lv_goto (tgt := 189) hx hb dL_reads_185 (by decide) ?_
      exact J189 r3 r10 r18 r26 r34 χ81 r81 r137 v160s0 v178s0 true _ _ _ hd (lv_sub hl [0, 1, 2, 3, 4, 5, 6, 7, 8] rfl) hw
  have J160 : ∀ (r3 : Int32) (r10 : Int32) (r18 : Int32) (r26 : Int32) (r34 : Int32) (v61s0 : Bool) (v77s0 : Int32) (χ81 : XS) (r81 : Int32) (r137 : Int32) (v160s0 : Bool) (H : Heap) (locs : List Loc) (ls : Array Slot), Wd B A s.heap (wX3 k ad χ81) H locs → lv_has ls 14 [(0, .ref (ad 9 0)), (3, .int r3), (4, .int r10), (5, .int r18), (6, .int r26), (7, .int r34), (9, .int (bi v61s0)), (10, .int v77s0), (11, .int r81), (12, .int r137)] → wpL_reads_J160 r3 r10 r18 r26 r34 v61s0 v77s0 χ81 r81 r137 post v160s0 → W p l e rm_L_reads s m args below meth c H locs 0 0 (Qi below args s B A (fun u => wX3 k ad u) (bpost post) 0 0) (F0 m 160 ls [.int (bi v160s0)]) := by
    intro r3 r10 r18 r26 r34 v61s0 v77s0 χ81 r81 r137 v160s0 H locs ls hd hl hw
    rw [wpL_reads_J160] at hw
    refine lv_istore (lv' := [(13, .int (bi v160s0)), (0, .ref (ad 9 0)), (3, .int r3), (4, .int r10), (5, .int r18), (6, .int r26), (7, .int r34), (9, .int (bi v61s0)), (10, .int v77s0), (11, .int r81), (12, .int r137)]) hx hb dL_reads_160 hl (by decide) rfl (fun ls hl => ?_)
    refine lv_iload hx hb dL_reads_162 (lv_at hl 7 rfl) ?_
    refine lv_if_eq (tgt := 194) hx hb dL_reads_164 (by decide) (fun c118 => ?_) (fun c118 => ?_)
    · replace hw := hw.2 ((bi_eq _).mp c118)
      exact J194 r3 r10 r18 r26 r34 χ81 r81 r137 v160s0 _ _ _ hd (lv_sub hl [1, 2, 3, 4, 5, 6, 9, 10, 0] rfl) hw
    · replace hw := hw.1 ((bi_ne _).mp c118)
      refine lv_iload hx hb dL_reads_167 (lv_at hl 8 rfl) ?_
      refine lv_iconst (v := 1) hx hb dL_reads_169 (by decide) ?_
      refine lv_icmp_ne (tgt := 177) hx hb dL_reads_170 (by decide) (fun c117 => ?_) (fun c117 => ?_)
      · replace hw := hw.2 c117
        refine lv_iconst (v := 0) hx hb dL_reads_177 (by decide) ?_
        exact J178 r3 r10 r18 r26 r34 χ81 r81 r137 v160s0 false _ _ _ hd (lv_sub hl [1, 2, 3, 4, 5, 6, 9, 10, 0] rfl) hw
      · replace hw := hw.1 c117
        refine lv_iconst (v := 1) hx hb dL_reads_173 (by decide) ?_
        refine lv_goto (tgt := 178) hx hb dL_reads_174 (by decide) ?_
        exact J178 r3 r10 r18 r26 r34 χ81 r81 r137 v160s0 true _ _ _ hd (lv_sub hl [1, 2, 3, 4, 5, 6, 9, 10, 0] rfl) hw
  have J77 : ∀ (r3 : Int32) (r10 : Int32) (r18 : Int32) (r26 : Int32) (r34 : Int32) (r42 : Int32) (v61s0 : Bool) (v77s0 : Int32) (H : Heap) (locs : List Loc) (ls : Array Slot), Wd B A s.heap (wX3 k ad χ) H locs → lv_has ls 14 [(0, .ref (ad 9 0)), (1, .int p1), (3, .int r3), (4, .int r10), (5, .int r18), (6, .int r26), (7, .int r34), (8, .int r42), (9, .int (bi v61s0))] → wpL_reads_J77 χ p1 r3 r10 r18 r26 r34 r42 v61s0 post v77s0 → W p l e rm_L_reads s m args below meth c H locs 0 0 (Qi below args s B A (fun u => wX3 k ad u) (bpost post) 0 0) (F0 m 77 ls [.int v77s0]) := by
    intro r3 r10 r18 r26 r34 r42 v61s0 v77s0 H locs ls hd hl hw
    rw [wpL_reads_J77] at hw
    refine lv_istore (lv' := [(10, .int v77s0), (0, .ref (ad 9 0)), (1, .int p1), (3, .int r3), (4, .int r10), (5, .int r18), (6, .int r26), (7, .int r34), (8, .int r42), (9, .int (bi v61s0))]) hx hb dL_reads_77 hl (by decide) rfl (fun ls hl => ?_)
    refine lv_aload_n hx hb dL_reads_79 rfl (lv_at hl 1 rfl) ?_
    refine lv_iload_n hx hb dL_reads_80 rfl (lv_at hl 2 rfl) ?_
    refine v_i C hd hl M_X3_read gL_reads_X3_read (c_X3_read l B k ad χ p1 _ hw) ⟨rfl, rfl⟩ ⟨Nat.le_of_ble_eq_true rfl, Nat.le_of_ble_eq_true rfl⟩ (pm_all _) (fun u => wX3 k ad u) (fun _ => (pm_all _).symm) 0 3 rfl rfl rfl rfl rfl (Nat.le_of_ble_eq_true rfl) dL_reads_81 ⟨Nat.le_of_ble_eq_true rfl, Nat.le_of_ble_eq_true rfl⟩ (fun r81 χ81 H locs hw hd => ?_)
    refine lv_istore (lv' := [(11, .int r81), (10, .int v77s0), (0, .ref (ad 9 0)), (1, .int p1), (3, .int r3), (4, .int r10), (5, .int r18), (6, .int r26), (7, .int r34), (8, .int r42), (9, .int (bi v61s0))]) hx hb dL_reads_84 hl (by decide) rfl (fun ls hl => ?_)
    refine lv_iload_n hx hb dL_reads_86 rfl (lv_at hl 4 rfl) ?_
    refine lv_iconst (v := (-1)) hx hb dL_reads_87 (by decide) ?_
    refine lv_icmp_ne (tgt := 103) hx hb dL_reads_88 (by decide) (fun c119 => ?_) (fun c119 => ?_)
    · replace hw := hw.2 c119
      refine lv_iload_n hx hb dL_reads_103 rfl (lv_at hl 4 rfl) ?_
      refine lv_bipush (v := (-5)) hx hb dL_reads_104 (by decide) ?_
      refine lv_icmp_ne (tgt := 134) hx hb dL_reads_106 (by decide) (fun c120 => ?_) (fun c120 => ?_)
      · replace hw := hw.2 c120
        refine lv_aload_n hx hb dL_reads_134 rfl (lv_at hl 2 rfl) ?_
        refine lv_iload_n hx hb dL_reads_135 rfl (lv_at hl 3 rfl) ?_
        refine lv_iconst (v := 1) hx hb dL_reads_136 (by decide) ?_
        refine v_i C hd hl M_X3_address gL_reads_X3_address (c_X3_address l B k ad χ81 p1 1 _ hw) ⟨rfl, rfl⟩ ⟨Nat.le_of_ble_eq_true rfl, Nat.le_of_ble_eq_true rfl⟩ (pm_all _) (fun _ => wX3 k ad χ81) (fun _ => (pm_all _).symm) 0 3 rfl rfl rfl rfl rfl (Nat.le_of_ble_eq_true rfl) dL_reads_137 ⟨Nat.le_of_ble_eq_true rfl, Nat.le_of_ble_eq_true rfl⟩ (fun r137 _ H locs hw hd => ?_)
        refine lv_istore (lv' := [(12, .int r137), (11, .int r81), (10, .int v77s0), (0, .ref (ad 9 0)), (1, .int p1), (3, .int r3), (4, .int r10), (5, .int r18), (6, .int r26), (7, .int r34), (8, .int r42), (9, .int (bi v61s0))]) hx hb dL_reads_140 hl (by decide) rfl (fun ls hl => ?_)
        refine lv_aload_n hx hb dL_reads_142 rfl (lv_at hl 3 rfl) ?_
        refine lv_bipush (v := 8) hx hb dL_reads_143 (by decide) ?_
        refine v_i C hd hl M_X3_count gL_reads_X3_count (c_X3_count l B k ad χ81 8 _ hw) ⟨rfl, rfl⟩ ⟨Nat.le_of_ble_eq_true rfl, Nat.le_of_ble_eq_true rfl⟩ (pm_all _) (fun _ => wX3 k ad χ81) (fun _ => (pm_all _).symm) 0 3 rfl rfl rfl rfl rfl (Nat.le_of_ble_eq_true rfl) dL_reads_145 ⟨Nat.le_of_ble_eq_true rfl, Nat.le_of_ble_eq_true rfl⟩ (fun r145 _ H locs hw hd => ?_)
        refine lv_iload hx hb dL_reads_148 (lv_at hl 10 rfl) ?_
        refine lv_iconst (v := 1) hx hb dL_reads_150 (by decide) ?_
        refine lv_iadd hx hb dL_reads_151 ?_
        refine lv_icmp_ne (tgt := 159) hx hb dL_reads_152 (by decide) (fun c121 => ?_) (fun c121 => ?_)
        · replace hw := hw.2 c121
          refine lv_iconst (v := 0) hx hb dL_reads_159 (by decide) ?_
          exact J160 r3 r10 r18 r26 r34 v61s0 v77s0 χ81 r81 r137 false _ _ _ hd (lv_sub hl [3, 5, 6, 7, 8, 9, 11, 2, 1, 0] rfl) hw
        · replace hw := hw.1 c121
          refine lv_iconst (v := 1) hx hb dL_reads_155 (by decide) ?_
          refine lv_goto (tgt := 160) hx hb dL_reads_156 (by decide) ?_
          exact J160 r3 r10 r18 r26 r34 v61s0 v77s0 χ81 r81 r137 true _ _ _ hd (lv_sub hl [3, 5, 6, 7, 8, 9, 11, 2, 1, 0] rfl) hw
      · replace hw := hw.1 c120
        refine lv_iload hx hb dL_reads_109 (lv_at hl 0 rfl) ?_
        refine lv_bipush (v := (-4)) hx hb dL_reads_111 (by decide) ?_
        refine lv_icmp_ne (tgt := 132) hx hb dL_reads_113 (by decide) (fun c122 => ?_) (fun c122 => ?_)
        · replace hw := hw.2 c122
          refine lv_iconst (v := 0) hx hb dL_reads_132 (by decide) ?_
          exact r_z false C hd dL_reads_133 χ81 rfl hw
        · replace hw := hw.1 c122
          refine lv_iload hx hb dL_reads_116 (lv_at hl 10 rfl) ?_
          refine lv_if_eq (tgt := 128) hx hb dL_reads_118 (by decide) (fun c124 => ?_) (fun c124 => ?_)
          · replace hw := hw.2 ((bi_eq _).mp c124)
            refine lv_iconst (v := 1) hx hb dL_reads_128 (by decide) ?_
            refine lv_goto (tgt := 133) hx hb dL_reads_129 (by decide) ?_
            exact r_z true C hd dL_reads_133 χ81 rfl hw
          · replace hw := hw.1 ((bi_ne _).mp c124)
            refine lv_iload hx hb dL_reads_121 (lv_at hl 1 rfl) ?_
            refine lv_bipush (v := (-4)) hx hb dL_reads_123 (by decide) ?_
            refine lv_icmp_ne (tgt := 132) hx hb dL_reads_125 (by decide) (fun c123 => ?_) (fun c123 => ?_)
            · replace hw := hw.2 c123
              refine lv_iconst (v := 0) hx hb dL_reads_132 (by decide) ?_
              exact r_z false C hd dL_reads_133 χ81 rfl hw
            · replace hw := hw.1 c123
              refine lv_iconst (v := 1) hx hb dL_reads_128 (by decide) ?_
              refine lv_goto (tgt := 133) hx hb dL_reads_129 (by decide) ?_
              exact r_z true C hd dL_reads_133 χ81 rfl hw
    · replace hw := hw.1 c119
      refine lv_iload hx hb dL_reads_91 (lv_at hl 0 rfl) ?_
      refine lv_iconst (v := (-1)) hx hb dL_reads_93 (by decide) ?_
      refine lv_icmp_ne (tgt := 101) hx hb dL_reads_94 (by decide) (fun c125 => ?_) (fun c125 => ?_)
      · replace hw := hw.2 c125
        refine lv_iconst (v := 0) hx hb dL_reads_101 (by decide) ?_
        exact r_z false C hd dL_reads_102 χ81 rfl hw
      · replace hw := hw.1 c125
        refine lv_iconst (v := 1) hx hb dL_reads_97 (by decide) ?_
        refine lv_goto (tgt := 102) hx hb dL_reads_98 (by decide) ?_
        exact r_z true C hd dL_reads_102 χ81 rfl hw
  have J61 : ∀ (r3 : Int32) (r10 : Int32) (r18 : Int32) (r26 : Int32) (r34 : Int32) (r42 : Int32) (v61s0 : Bool) (H : Heap) (locs : List Loc) (ls : Array Slot), Wd B A s.heap (wX3 k ad χ) H locs → lv_has ls 14 [(0, .ref (ad 9 0)), (1, .int p1), (3, .int r3), (4, .int r10), (5, .int r18), (6, .int r26), (7, .int r34), (8, .int r42)] → wpL_reads_J61 χ p1 r3 r10 r18 r26 r34 r42 post v61s0 → W p l e rm_L_reads s m args below meth c H locs 0 0 (Qi below args s B A (fun u => wX3 k ad u) (bpost post) 0 0) (F0 m 61 ls [.int (bi v61s0)]) := by
    intro r3 r10 r18 r26 r34 r42 v61s0 H locs ls hd hl hw
    rw [wpL_reads_J61] at hw
    refine lv_istore (lv' := [(9, .int (bi v61s0)), (0, .ref (ad 9 0)), (1, .int p1), (3, .int r3), (4, .int r10), (5, .int r18), (6, .int r26), (7, .int r34), (8, .int r42)]) hx hb dL_reads_61 hl (by decide) rfl (fun ls hl => ?_)
    refine lv_iload hx hb dL_reads_63 (lv_at hl 0 rfl) ?_
    refine lv_if_eq (tgt := 76) hx hb dL_reads_65 (by decide) (fun c126 => ?_) (fun c126 => ?_)
    · replace hw := hw.2 ((bi_eq _).mp c126)
      refine lv_iconst (v := 0) hx hb dL_reads_76 (by decide) ?_
      exact J77 r3 r10 r18 r26 r34 r42 v61s0 0 _ _ _ hd (lv_sub hl [1, 2, 3, 4, 5, 6, 7, 8, 0] rfl) hw
    · replace hw := hw.1 ((bi_ne _).mp c126)
      refine lv_aload_n hx hb dL_reads_68 rfl (lv_at hl 1 rfl) ?_
      refine lv_iload_n hx hb dL_reads_69 rfl (lv_at hl 2 rfl) ?_
      refine v_i C hd hl M_X3_readsLeft gL_reads_X3_readsLeft (c_X3_readsLeft l B k ad χ p1 _ hw) ⟨rfl, rfl⟩ ⟨Nat.le_of_ble_eq_true rfl, Nat.le_of_ble_eq_true rfl⟩ (pm_all _) (fun _ => wX3 k ad χ) (fun _ => (pm_all _).symm) 0 3 rfl rfl rfl rfl rfl (Nat.le_of_ble_eq_true rfl) dL_reads_70 ⟨Nat.le_of_ble_eq_true rfl, Nat.le_of_ble_eq_true rfl⟩ (fun r70 _ H locs hw hd => ?_)
      refine lv_goto (tgt := 77) hx hb dL_reads_73 (by decide) ?_
      exact J77 r3 r10 r18 r26 r34 r42 v61s0 r70 _ _ _ hd (lv_sub hl [1, 2, 3, 4, 5, 6, 7, 8, 0] rfl) hw
  rw [wpL_reads] at hw
  refine lv_aload_n hx hb dL_reads_0 rfl (lv_at hl 0 rfl) ?_
  refine lv_iload_n hx hb dL_reads_1 rfl (lv_at hl 1 rfl) ?_
  refine lv_iconst (v := 1) hx hb dL_reads_2 (by decide) ?_
  refine v_i C hd hl M_X3_address gL_reads_X3_address (c_X3_address l B k ad χ p1 1 _ hw) ⟨rfl, rfl⟩ ⟨Nat.le_of_ble_eq_true rfl, Nat.le_of_ble_eq_true rfl⟩ (pm_all _) (fun _ => wX3 k ad χ) (fun _ => (pm_all _).symm) 0 3 rfl rfl rfl rfl rfl (Nat.le_of_ble_eq_true rfl) dL_reads_3 ⟨Nat.le_of_ble_eq_true rfl, Nat.le_of_ble_eq_true rfl⟩ (fun r3 _ H locs hw hd => ?_)
  refine lv_istore_n (lv' := [(3, .int r3), (0, .ref (ad 9 0)), (1, .int p1), (2, .int p2)]) hx hb dL_reads_6 rfl hl (by decide) rfl (fun ls hl => ?_)
  refine lv_aload_n hx hb dL_reads_7 rfl (lv_at hl 1 rfl) ?_
  refine lv_iload_n hx hb dL_reads_8 rfl (lv_at hl 2 rfl) ?_
  refine lv_iconst (v := 0) hx hb dL_reads_9 (by decide) ?_
  refine v_i C hd hl M_X3_address gL_reads_X3_address (c_X3_address l B k ad χ p1 0 _ hw) ⟨rfl, rfl⟩ ⟨Nat.le_of_ble_eq_true rfl, Nat.le_of_ble_eq_true rfl⟩ (pm_all _) (fun _ => wX3 k ad χ) (fun _ => (pm_all _).symm) 0 3 rfl rfl rfl rfl rfl (Nat.le_of_ble_eq_true rfl) dL_reads_10 ⟨Nat.le_of_ble_eq_true rfl, Nat.le_of_ble_eq_true rfl⟩ (fun r10 _ H locs hw hd => ?_)
  refine lv_istore (lv' := [(4, .int r10), (3, .int r3), (0, .ref (ad 9 0)), (1, .int p1), (2, .int p2)]) hx hb dL_reads_13 hl (by decide) rfl (fun ls hl => ?_)
  refine lv_aload_n hx hb dL_reads_15 rfl (lv_at hl 2 rfl) ?_
  refine lv_iload_n hx hb dL_reads_16 rfl (lv_at hl 3 rfl) ?_
  refine lv_iconst (v := 4) hx hb dL_reads_17 (by decide) ?_
  refine v_i C hd hl M_X3_address gL_reads_X3_address (c_X3_address l B k ad χ p1 4 _ hw) ⟨rfl, rfl⟩ ⟨Nat.le_of_ble_eq_true rfl, Nat.le_of_ble_eq_true rfl⟩ (pm_all _) (fun _ => wX3 k ad χ) (fun _ => (pm_all _).symm) 0 3 rfl rfl rfl rfl rfl (Nat.le_of_ble_eq_true rfl) dL_reads_18 ⟨Nat.le_of_ble_eq_true rfl, Nat.le_of_ble_eq_true rfl⟩ (fun r18 _ H locs hw hd => ?_)
  refine lv_istore (lv' := [(5, .int r18), (4, .int r10), (3, .int r3), (0, .ref (ad 9 0)), (1, .int p1), (2, .int p2)]) hx hb dL_reads_21 hl (by decide) rfl (fun ls hl => ?_)
  refine lv_aload_n hx hb dL_reads_23 rfl (lv_at hl 3 rfl) ?_
  refine lv_bipush (v := 7) hx hb dL_reads_24 (by decide) ?_
  refine v_i C hd hl M_X3_count gL_reads_X3_count (c_X3_count l B k ad χ 7 _ hw) ⟨rfl, rfl⟩ ⟨Nat.le_of_ble_eq_true rfl, Nat.le_of_ble_eq_true rfl⟩ (pm_all _) (fun _ => wX3 k ad χ) (fun _ => (pm_all _).symm) 0 3 rfl rfl rfl rfl rfl (Nat.le_of_ble_eq_true rfl) dL_reads_26 ⟨Nat.le_of_ble_eq_true rfl, Nat.le_of_ble_eq_true rfl⟩ (fun r26 _ H locs hw hd => ?_)
  refine lv_istore (lv' := [(6, .int r26), (5, .int r18), (4, .int r10), (3, .int r3), (0, .ref (ad 9 0)), (1, .int p1), (2, .int p2)]) hx hb dL_reads_29 hl (by decide) rfl (fun ls hl => ?_)
  refine lv_aload_n hx hb dL_reads_31 rfl (lv_at hl 4 rfl) ?_
  refine lv_iload_n hx hb dL_reads_32 rfl (lv_at hl 5 rfl) ?_
  refine lv_iconst (v := 3) hx hb dL_reads_33 (by decide) ?_
  refine v_i C hd hl M_X3_address gL_reads_X3_address (c_X3_address l B k ad χ p1 3 _ hw) ⟨rfl, rfl⟩ ⟨Nat.le_of_ble_eq_true rfl, Nat.le_of_ble_eq_true rfl⟩ (pm_all _) (fun _ => wX3 k ad χ) (fun _ => (pm_all _).symm) 0 3 rfl rfl rfl rfl rfl (Nat.le_of_ble_eq_true rfl) dL_reads_34 ⟨Nat.le_of_ble_eq_true rfl, Nat.le_of_ble_eq_true rfl⟩ (fun r34 _ H locs hw hd => ?_)
  refine lv_istore (lv' := [(7, .int r34), (6, .int r26), (5, .int r18), (4, .int r10), (3, .int r3), (0, .ref (ad 9 0)), (1, .int p1), (2, .int p2)]) hx hb dL_reads_37 hl (by decide) rfl (fun ls hl => ?_)
  refine lv_aload_n hx hb dL_reads_39 rfl (lv_at hl 5 rfl) ?_
  refine lv_bipush (v := 8) hx hb dL_reads_40 (by decide) ?_
  refine v_i C hd hl M_X3_count gL_reads_X3_count (c_X3_count l B k ad χ 8 _ hw) ⟨rfl, rfl⟩ ⟨Nat.le_of_ble_eq_true rfl, Nat.le_of_ble_eq_true rfl⟩ (pm_all _) (fun _ => wX3 k ad χ) (fun _ => (pm_all _).symm) 0 3 rfl rfl rfl rfl rfl (Nat.le_of_ble_eq_true rfl) dL_reads_42 ⟨Nat.le_of_ble_eq_true rfl, Nat.le_of_ble_eq_true rfl⟩ (fun r42 _ H locs hw hd => ?_)
  refine lv_istore (lv' := [(8, .int r42), (7, .int r34), (6, .int r26), (5, .int r18), (4, .int r10), (3, .int r3), (0, .ref (ad 9 0)), (1, .int p1), (2, .int p2)]) hx hb dL_reads_45 hl (by decide) rfl (fun ls hl => ?_)
  refine lv_iload_n hx hb dL_reads_47 rfl (lv_at hl 8 rfl) ?_
  refine lv_bipush (v := 7) hx hb dL_reads_48 (by decide) ?_
  refine s_i C hd hl M_L_low gL_reads_L_low rfl (c_L_low l B k p2 7 _ hw) ⟨rfl, rfl⟩ ⟨Nat.le_of_ble_eq_true rfl, Nat.le_of_ble_eq_true rfl⟩ (pm_non _) (fun _ => wX3 k ad χ) (fun _ => List.Perm.refl _) rfl rfl (Nat.le_of_ble_eq_true rfl) dL_reads_50 ⟨Nat.le_of_ble_eq_true rfl, Nat.le_of_ble_eq_true rfl⟩ (fun r50 _ H locs hw hd => ?_)
  refine lv_if_ne (tgt := 60) hx hb dL_reads_53 (by decide) (fun c127 => ?_) (fun c127 => ?_)
  · replace hw := hw.2 c127
    refine lv_iconst (v := 0) hx hb dL_reads_60 (by decide) ?_
    exact J61 r3 r10 r18 r26 r34 r42 false _ _ _ hd (lv_sub hl [6, 7, 5, 4, 3, 2, 1, 0] rfl) hw
  · replace hw := hw.1 c127
    refine lv_iconst (v := 1) hx hb dL_reads_56 (by decide) ?_
    refine lv_goto (tgt := 61) hx hb dL_reads_57 (by decide) ?_
    exact J61 r3 r10 r18 r26 r34 r42 true _ _ _ hd (lv_sub hl [6, 7, 5, 4, 3, 2, 1, 0] rfl) hw
abbrev rm_L_writes : Room := { frames := 7, cells := 0, slots := 0, locals := 161 }
theorem M_L_writes : MI yL_writes wsL_writes cL_writes 8 (some .boolean) 3 := ⟨⟨_, rfl⟩, by decide +kernel, by decide +kernel, by decide +kernel, by decide +kernel⟩
theorem iL_writes_X3 : ∀ w ∈ wsX30, w ∈ wsL_writes := fun _ h => List.mem_cons_of_mem _ (List.mem_append_left _ (List.mem_append_left _ (List.mem_append_left _ (List.mem_append_right _ h))))
theorem iL_writes_X1 : ∀ w ∈ wsX10, w ∈ wsL_writes := fun _ h => List.mem_cons_of_mem _ (List.mem_append_left _ (List.mem_append_left _ (List.mem_append_right _ h)))
theorem iL_writes_X2 : ∀ w ∈ wsX20, w ∈ wsL_writes := fun _ h => List.mem_cons_of_mem _ (List.mem_append_left _ (List.mem_append_right _ h))
theorem iL_writes_X0 : ∀ w ∈ wsX00, w ∈ wsL_writes := fun _ h => List.mem_cons_of_mem _ (List.mem_append_right _ h)
def wpL_writes_J85 (p1 : Int32) (p2 : Int32) (r18 : Int32) (χ26 : XS) (r26 : Int32) (post : Bool → XS → Prop)  : Prop := wpX3_address χ26 p1 1 (fun r88 => wpX3_count χ26 11 (fun r96 => ((r96 = (r18 + 1) → ((0 ≤ r88 → ((r26 = r88 → wpX3_address χ26 p1 0 (fun r131 => ((r131 = p2 → post true χ26) ∧ (¬ r131 = p2 → post false χ26)))) ∧ (¬ r26 = r88 → post false χ26))) ∧ (¬ 0 ≤ r88 → ((r26 = 100 → post true χ26) ∧ (¬ r26 = 100 → post false χ26))))) ∧ (¬ r96 = (r18 + 1) → post false χ26))))
def wpL_writes (χ : XS) (p1 : Int32) (p2 : Int32) (post : Bool → XS → Prop) : Prop := wpX3_address χ p1 1 (fun r3 => wpX3_address χ p1 3 (fun r10 => wpX3_count χ 11 (fun r18 => wpX3_write χ p1 p2 (fun r26 χ26 => ((r3 = (-1) → ((r26 = (-1) → post true χ26) ∧ (¬ r26 = (-1) → post false χ26))) ∧ (¬ r3 = (-1) → ((r3 = (-5) → ((r10 = (-5) → ((r26 = (-4) → wpX3_count χ26 11 (fun r71 => ((r71 = r18 → post true χ26) ∧ (¬ r71 = r18 → post false χ26)))) ∧ (¬ r26 = (-4) → post false χ26))) ∧ (¬ r10 = (-5) → wpL_writes_J85 p1 p2 r18 χ26 r26 post ))) ∧ (¬ r3 = (-5) → wpL_writes_J85 p1 p2 r18 χ26 r26 post ))))))))
set_option maxHeartbeats 4000000 in
set_option maxRecDepth 100000 in
theorem c_L_writes (l : Launch) (B : va_G) (k : KT) (ad : Nat → Nat → Nat) (χ : XS) (p1 : Int32) (p2 : Int32) (post : Bool → XS → Prop) (hw : wpL_writes χ p1 p2 post) : Cti l yL_writes wsL_writes rm_L_writes 0 0 B k [.ref (ad 9 0), .int p1, .int p2] (wX3 k ad χ) (fun u => wX3 k ad u) (bpost post) := by
  refine Cti.of M_L_writes (Nat.le_of_ble_eq_true rfl) ?_
  intro p e s m args below meth c A C hd ls hl
  have hx := C.1; have hb := C.2.1; have hml := C.2.2.1; have hts := C.2.2.2.2.1
  have hl : lv_has ls 8 [(0, .ref (ad 9 0)), (1, .int p1), (2, .int p2)] := hl
  have J85 : ∀ (r18 : Int32) (χ26 : XS) (r26 : Int32) (H : Heap) (locs : List Loc) (ls : Array Slot), Wd B A s.heap (wX3 k ad χ26) H locs → lv_has ls 8 [(0, .ref (ad 9 0)), (1, .int p1), (2, .int p2), (5, .int r18), (6, .int r26)] → wpL_writes_J85 p1 p2 r18 χ26 r26 post  → W p l e rm_L_writes s m args below meth c H locs 0 0 (Qi below args s B A (fun u => wX3 k ad u) (bpost post) 0 0) (F0 m 85 ls []) := by
    intro r18 χ26 r26 H locs ls hd hl hw
    rw [wpL_writes_J85] at hw
    refine lv_aload_n hx hb dL_writes_85 rfl (lv_at hl 0 rfl) ?_
    refine lv_iload_n hx hb dL_writes_86 rfl (lv_at hl 1 rfl) ?_
    refine lv_iconst (v := 1) hx hb dL_writes_87 (by decide) ?_
    refine v_i C hd hl M_X3_address gL_writes_X3_address (c_X3_address l B k ad χ26 p1 1 _ hw) ⟨rfl, rfl⟩ ⟨Nat.le_of_ble_eq_true rfl, Nat.le_of_ble_eq_true rfl⟩ (pm_all _) (fun _ => wX3 k ad χ26) (fun _ => (pm_all _).symm) 0 3 rfl rfl rfl rfl rfl (Nat.le_of_ble_eq_true rfl) dL_writes_88 ⟨Nat.le_of_ble_eq_true rfl, Nat.le_of_ble_eq_true rfl⟩ (fun r88 _ H locs hw hd => ?_)
    refine lv_istore (lv' := [(7, .int r88), (0, .ref (ad 9 0)), (1, .int p1), (2, .int p2), (5, .int r18), (6, .int r26)]) hx hb dL_writes_91 hl (by decide) rfl (fun ls hl => ?_)
    refine lv_aload_n hx hb dL_writes_93 rfl (lv_at hl 1 rfl) ?_
    refine lv_bipush (v := 11) hx hb dL_writes_94 (by decide) ?_
    refine v_i C hd hl M_X3_count gL_writes_X3_count (c_X3_count l B k ad χ26 11 _ hw) ⟨rfl, rfl⟩ ⟨Nat.le_of_ble_eq_true rfl, Nat.le_of_ble_eq_true rfl⟩ (pm_all _) (fun _ => wX3 k ad χ26) (fun _ => (pm_all _).symm) 0 3 rfl rfl rfl rfl rfl (Nat.le_of_ble_eq_true rfl) dL_writes_96 ⟨Nat.le_of_ble_eq_true rfl, Nat.le_of_ble_eq_true rfl⟩ (fun r96 _ H locs hw hd => ?_)
    refine lv_iload hx hb dL_writes_99 (lv_at hl 4 rfl) ?_
    refine lv_iconst (v := 1) hx hb dL_writes_101 (by decide) ?_
    refine lv_iadd hx hb dL_writes_102 ?_
    refine lv_icmp_ne (tgt := 142) hx hb dL_writes_103 (by decide) (fun c27 => ?_) (fun c27 => ?_)
    · replace hw := hw.2 c27
      refine lv_iconst (v := 0) hx hb dL_writes_142 (by decide) ?_
      exact r_z false C hd dL_writes_143 χ26 rfl hw
    · replace hw := hw.1 c27
      refine lv_iload hx hb dL_writes_106 (lv_at hl 0 rfl) ?_
      refine lv_if_ge (tgt := 121) hx hb dL_writes_108 (by decide) (fun c28 => ?_) (fun c28 => ?_)
      · replace hw := hw.1 c28
        refine lv_iload hx hb dL_writes_121 (lv_at hl 5 rfl) ?_
        refine lv_iload hx hb dL_writes_123 (lv_at hl 0 rfl) ?_
        refine lv_icmp_ne (tgt := 142) hx hb dL_writes_125 (by decide) (fun c29 => ?_) (fun c29 => ?_)
        · replace hw := hw.2 c29
          refine lv_iconst (v := 0) hx hb dL_writes_142 (by decide) ?_
          exact r_z false C hd dL_writes_143 χ26 rfl hw
        · replace hw := hw.1 c29
          refine lv_aload_n hx hb dL_writes_128 rfl (lv_at hl 1 rfl) ?_
          refine lv_iload_n hx hb dL_writes_129 rfl (lv_at hl 2 rfl) ?_
          refine lv_iconst (v := 0) hx hb dL_writes_130 (by decide) ?_
          refine v_i C hd hl M_X3_address gL_writes_X3_address (c_X3_address l B k ad χ26 p1 0 _ hw) ⟨rfl, rfl⟩ ⟨Nat.le_of_ble_eq_true rfl, Nat.le_of_ble_eq_true rfl⟩ (pm_all _) (fun _ => wX3 k ad χ26) (fun _ => (pm_all _).symm) 0 3 rfl rfl rfl rfl rfl (Nat.le_of_ble_eq_true rfl) dL_writes_131 ⟨Nat.le_of_ble_eq_true rfl, Nat.le_of_ble_eq_true rfl⟩ (fun r131 _ H locs hw hd => ?_)
          refine lv_iload_n hx hb dL_writes_134 rfl (lv_at hl 3 rfl) ?_
          refine lv_icmp_ne (tgt := 142) hx hb dL_writes_135 (by decide) (fun c30 => ?_) (fun c30 => ?_)
          · replace hw := hw.2 c30
            refine lv_iconst (v := 0) hx hb dL_writes_142 (by decide) ?_
            exact r_z false C hd dL_writes_143 χ26 rfl hw
          · replace hw := hw.1 c30
            refine lv_iconst (v := 1) hx hb dL_writes_138 (by decide) ?_
            refine lv_goto (tgt := 143) hx hb dL_writes_139 (by decide) ?_
            exact r_z true C hd dL_writes_143 χ26 rfl hw
      · replace hw := hw.2 c28
        refine lv_iload hx hb dL_writes_111 (lv_at hl 5 rfl) ?_
        refine lv_bipush (v := 100) hx hb dL_writes_113 (by decide) ?_
        refine lv_icmp_ne (tgt := 142) hx hb dL_writes_115 (by decide) (fun c31 => ?_) (fun c31 => ?_)
        · replace hw := hw.2 c31
          refine lv_iconst (v := 0) hx hb dL_writes_142 (by decide) ?_
          exact r_z false C hd dL_writes_143 χ26 rfl hw
        · replace hw := hw.1 c31
          refine lv_goto (tgt := 138) hx hb dL_writes_118 (by decide) ?_
          refine lv_iconst (v := 1) hx hb dL_writes_138 (by decide) ?_
          refine lv_goto (tgt := 143) hx hb dL_writes_139 (by decide) ?_
          exact r_z true C hd dL_writes_143 χ26 rfl hw
  rw [wpL_writes] at hw
  refine lv_aload_n hx hb dL_writes_0 rfl (lv_at hl 0 rfl) ?_
  refine lv_iload_n hx hb dL_writes_1 rfl (lv_at hl 1 rfl) ?_
  refine lv_iconst (v := 1) hx hb dL_writes_2 (by decide) ?_
  refine v_i C hd hl M_X3_address gL_writes_X3_address (c_X3_address l B k ad χ p1 1 _ hw) ⟨rfl, rfl⟩ ⟨Nat.le_of_ble_eq_true rfl, Nat.le_of_ble_eq_true rfl⟩ (pm_all _) (fun _ => wX3 k ad χ) (fun _ => (pm_all _).symm) 0 3 rfl rfl rfl rfl rfl (Nat.le_of_ble_eq_true rfl) dL_writes_3 ⟨Nat.le_of_ble_eq_true rfl, Nat.le_of_ble_eq_true rfl⟩ (fun r3 _ H locs hw hd => ?_)
  refine lv_istore_n (lv' := [(3, .int r3), (0, .ref (ad 9 0)), (1, .int p1), (2, .int p2)]) hx hb dL_writes_6 rfl hl (by decide) rfl (fun ls hl => ?_)
  refine lv_aload_n hx hb dL_writes_7 rfl (lv_at hl 1 rfl) ?_
  refine lv_iload_n hx hb dL_writes_8 rfl (lv_at hl 2 rfl) ?_
  refine lv_iconst (v := 3) hx hb dL_writes_9 (by decide) ?_
  refine v_i C hd hl M_X3_address gL_writes_X3_address (c_X3_address l B k ad χ p1 3 _ hw) ⟨rfl, rfl⟩ ⟨Nat.le_of_ble_eq_true rfl, Nat.le_of_ble_eq_true rfl⟩ (pm_all _) (fun _ => wX3 k ad χ) (fun _ => (pm_all _).symm) 0 3 rfl rfl rfl rfl rfl (Nat.le_of_ble_eq_true rfl) dL_writes_10 ⟨Nat.le_of_ble_eq_true rfl, Nat.le_of_ble_eq_true rfl⟩ (fun r10 _ H locs hw hd => ?_)
  refine lv_istore (lv' := [(4, .int r10), (3, .int r3), (0, .ref (ad 9 0)), (1, .int p1), (2, .int p2)]) hx hb dL_writes_13 hl (by decide) rfl (fun ls hl => ?_)
  refine lv_aload_n hx hb dL_writes_15 rfl (lv_at hl 2 rfl) ?_
  refine lv_bipush (v := 11) hx hb dL_writes_16 (by decide) ?_
  refine v_i C hd hl M_X3_count gL_writes_X3_count (c_X3_count l B k ad χ 11 _ hw) ⟨rfl, rfl⟩ ⟨Nat.le_of_ble_eq_true rfl, Nat.le_of_ble_eq_true rfl⟩ (pm_all _) (fun _ => wX3 k ad χ) (fun _ => (pm_all _).symm) 0 3 rfl rfl rfl rfl rfl (Nat.le_of_ble_eq_true rfl) dL_writes_18 ⟨Nat.le_of_ble_eq_true rfl, Nat.le_of_ble_eq_true rfl⟩ (fun r18 _ H locs hw hd => ?_)
  refine lv_istore (lv' := [(5, .int r18), (4, .int r10), (3, .int r3), (0, .ref (ad 9 0)), (1, .int p1), (2, .int p2)]) hx hb dL_writes_21 hl (by decide) rfl (fun ls hl => ?_)
  refine lv_aload_n hx hb dL_writes_23 rfl (lv_at hl 3 rfl) ?_
  refine lv_iload_n hx hb dL_writes_24 rfl (lv_at hl 4 rfl) ?_
  refine lv_iload_n hx hb dL_writes_25 rfl (lv_at hl 5 rfl) ?_
  refine v_i C hd hl M_X3_write gL_writes_X3_write (c_X3_write l B k ad χ p1 p2 _ hw) ⟨rfl, rfl⟩ ⟨Nat.le_of_ble_eq_true rfl, Nat.le_of_ble_eq_true rfl⟩ (pm_all _) (fun u => wX3 k ad u) (fun _ => (pm_all _).symm) 0 3 rfl rfl rfl rfl rfl (Nat.le_of_ble_eq_true rfl) dL_writes_26 ⟨Nat.le_of_ble_eq_true rfl, Nat.le_of_ble_eq_true rfl⟩ (fun r26 χ26 H locs hw hd => ?_)
  refine lv_istore (lv' := [(6, .int r26), (5, .int r18), (4, .int r10), (3, .int r3), (0, .ref (ad 9 0)), (1, .int p1), (2, .int p2)]) hx hb dL_writes_29 hl (by decide) rfl (fun ls hl => ?_)
  refine lv_iload_n hx hb dL_writes_31 rfl (lv_at hl 3 rfl) ?_
  refine lv_iconst (v := (-1)) hx hb dL_writes_32 (by decide) ?_
  refine lv_icmp_ne (tgt := 48) hx hb dL_writes_33 (by decide) (fun c32 => ?_) (fun c32 => ?_)
  · replace hw := hw.2 c32
    refine lv_iload_n hx hb dL_writes_48 rfl (lv_at hl 3 rfl) ?_
    refine lv_bipush (v := (-5)) hx hb dL_writes_49 (by decide) ?_
    refine lv_icmp_ne (tgt := 85) hx hb dL_writes_51 (by decide) (fun c33 => ?_) (fun c33 => ?_)
    · replace hw := hw.2 c33
      exact J85 r18 χ26 r26 _ _ _ hd (lv_sub hl [4, 5, 6, 1, 0] rfl) hw
    · replace hw := hw.1 c33
      refine lv_iload hx hb dL_writes_54 (lv_at hl 2 rfl) ?_
      refine lv_bipush (v := (-5)) hx hb dL_writes_56 (by decide) ?_
      refine lv_icmp_ne (tgt := 85) hx hb dL_writes_58 (by decide) (fun c34 => ?_) (fun c34 => ?_)
      · replace hw := hw.2 c34
        exact J85 r18 χ26 r26 _ _ _ hd (lv_sub hl [4, 5, 6, 1, 0] rfl) hw
      · replace hw := hw.1 c34
        refine lv_iload hx hb dL_writes_61 (lv_at hl 0 rfl) ?_
        refine lv_bipush (v := (-4)) hx hb dL_writes_63 (by decide) ?_
        refine lv_icmp_ne (tgt := 83) hx hb dL_writes_65 (by decide) (fun c35 => ?_) (fun c35 => ?_)
        · replace hw := hw.2 c35
          refine lv_iconst (v := 0) hx hb dL_writes_83 (by decide) ?_
          exact r_z false C hd dL_writes_84 χ26 rfl hw
        · replace hw := hw.1 c35
          refine lv_aload_n hx hb dL_writes_68 rfl (lv_at hl 4 rfl) ?_
          refine lv_bipush (v := 11) hx hb dL_writes_69 (by decide) ?_
          refine v_i C hd hl M_X3_count gL_writes_X3_count (c_X3_count l B k ad χ26 11 _ hw) ⟨rfl, rfl⟩ ⟨Nat.le_of_ble_eq_true rfl, Nat.le_of_ble_eq_true rfl⟩ (pm_all _) (fun _ => wX3 k ad χ26) (fun _ => (pm_all _).symm) 0 3 rfl rfl rfl rfl rfl (Nat.le_of_ble_eq_true rfl) dL_writes_71 ⟨Nat.le_of_ble_eq_true rfl, Nat.le_of_ble_eq_true rfl⟩ (fun r71 _ H locs hw hd => ?_)
          refine lv_iload hx hb dL_writes_74 (lv_at hl 1 rfl) ?_
          refine lv_icmp_ne (tgt := 83) hx hb dL_writes_76 (by decide) (fun c36 => ?_) (fun c36 => ?_)
          · replace hw := hw.2 c36
            refine lv_iconst (v := 0) hx hb dL_writes_83 (by decide) ?_
            exact r_z false C hd dL_writes_84 χ26 rfl hw
          · replace hw := hw.1 c36
            refine lv_iconst (v := 1) hx hb dL_writes_79 (by decide) ?_
            refine lv_goto (tgt := 84) hx hb dL_writes_80 (by decide) ?_
            exact r_z true C hd dL_writes_84 χ26 rfl hw
  · replace hw := hw.1 c32
    refine lv_iload hx hb dL_writes_36 (lv_at hl 0 rfl) ?_
    refine lv_iconst (v := (-1)) hx hb dL_writes_38 (by decide) ?_
    refine lv_icmp_ne (tgt := 46) hx hb dL_writes_39 (by decide) (fun c37 => ?_) (fun c37 => ?_)
    · replace hw := hw.2 c37
      refine lv_iconst (v := 0) hx hb dL_writes_46 (by decide) ?_
      exact r_z false C hd dL_writes_47 χ26 rfl hw
    · replace hw := hw.1 c37
      refine lv_iconst (v := 1) hx hb dL_writes_42 (by decide) ?_
      refine lv_goto (tgt := 47) hx hb dL_writes_43 (by decide) ?_
      exact r_z true C hd dL_writes_47 χ26 rfl hw
abbrev rm_L_gives : Room := { frames := 7, cells := 0, slots := 0, locals := 154 }
theorem M_L_gives : MI yL_gives wsL_gives cL_gives 4 (some .boolean) 2 := ⟨⟨_, rfl⟩, by decide +kernel, by decide +kernel, by decide +kernel, by decide +kernel⟩
theorem iL_gives_X3 : ∀ w ∈ wsX30, w ∈ wsL_gives := fun _ h => List.mem_cons_of_mem _ (List.mem_append_left _ (List.mem_append_left _ (List.mem_append_left _ (List.mem_append_right _ h))))
theorem iL_gives_X1 : ∀ w ∈ wsX10, w ∈ wsL_gives := fun _ h => List.mem_cons_of_mem _ (List.mem_append_left _ (List.mem_append_left _ (List.mem_append_right _ h)))
theorem iL_gives_X2 : ∀ w ∈ wsX20, w ∈ wsL_gives := fun _ h => List.mem_cons_of_mem _ (List.mem_append_left _ (List.mem_append_right _ h))
theorem iL_gives_X0 : ∀ w ∈ wsX00, w ∈ wsL_gives := fun _ h => List.mem_cons_of_mem _ (List.mem_append_right _ h)
def wpL_gives_J29 (χ9 : XS) (r9 : Int32) (post : Bool → XS → Prop) (v29s1 : Int32) : Prop := ((r9 = v29s1 → post true χ9) ∧ (¬ r9 = v29s1 → post false χ9))
def wpL_gives (χ : XS) (p1 : Int32) (post : Bool → XS → Prop) : Prop := wpX3_address χ p1 1 (fun r3 => wpX3_giveBack χ p1 (fun r9 χ9 => ((0 ≤ r3 → ((r3 = p1 → ((r9 = (-5) → post true χ9) ∧ (¬ r9 = (-5) → post false χ9))) ∧ (¬ r3 = p1 → ((r9 = r3 → wpX3_address χ9 p1 1 (fun r63 => ((r63 = p1 → wpX3_sector χ9 r3 3 (fun r73 => ((r73 = (-5) → wpX3_count χ9 5 (fun r83 => ((r83 = (p1 - p1 / 16 * 16) → wpX3_count χ9 6 (fun r96 => ((r96 = (p1 / 16) → post true χ9) ∧ (¬ r96 = (p1 / 16) → post false χ9)))) ∧ (¬ r83 = (p1 - p1 / 16 * 16) → post false χ9)))) ∧ (¬ r73 = (-5) → post false χ9)))) ∧ (¬ r63 = p1 → post false χ9)))) ∧ (¬ r9 = r3 → ((r9 = (-4) → wpX3_sector χ9 p1 1 (fun r123 => ((0 < r123 → post true χ9) ∧ (¬ 0 < r123 → wpX3_head χ9 (p1 / 16) 3 (fun r135 => ((r135 = 1 → post true χ9) ∧ (¬ r135 = 1 → post false χ9))))))) ∧ (¬ r9 = (-4) → post false χ9))))))) ∧ (¬ 0 ≤ r3 → ((r3 = (-1) → wpL_gives_J29 χ9 r9 post (-1)) ∧ (¬ r3 = (-1) → wpL_gives_J29 χ9 r9 post (-5)))))))
set_option maxHeartbeats 4000000 in
set_option maxRecDepth 100000 in
theorem c_L_gives (l : Launch) (B : va_G) (k : KT) (ad : Nat → Nat → Nat) (χ : XS) (p1 : Int32) (post : Bool → XS → Prop) (hw : wpL_gives χ p1 post) : Cti l yL_gives wsL_gives rm_L_gives 0 0 B k [.ref (ad 9 0), .int p1] (wX3 k ad χ) (fun u => wX3 k ad u) (bpost post) := by
  refine Cti.of M_L_gives (Nat.le_of_ble_eq_true rfl) ?_
  intro p e s m args below meth c A C hd ls hl
  have hx := C.1; have hb := C.2.1; have hml := C.2.2.1; have hts := C.2.2.2.2.1
  have hl : lv_has ls 4 [(0, .ref (ad 9 0)), (1, .int p1)] := hl
  have J29 : ∀ (χ9 : XS) (r9 : Int32) (v29s1 : Int32) (H : Heap) (locs : List Loc) (ls : Array Slot), Wd B A s.heap (wX3 k ad χ9) H locs → lv_has ls 4 [] → wpL_gives_J29 χ9 r9 post v29s1 → W p l e rm_L_gives s m args below meth c H locs 0 0 (Qi below args s B A (fun u => wX3 k ad u) (bpost post) 0 0) (F0 m 29 ls [.int v29s1, .int r9]) := by
    intro χ9 r9 v29s1 H locs ls hd hl hw
    rw [wpL_gives_J29] at hw
    refine lv_icmp_ne (tgt := 36) hx hb dL_gives_29 (by decide) (fun c17 => ?_) (fun c17 => ?_)
    · replace hw := hw.2 c17
      refine lv_iconst (v := 0) hx hb dL_gives_36 (by decide) ?_
      exact r_z false C hd dL_gives_37 χ9 rfl hw
    · replace hw := hw.1 c17
      refine lv_iconst (v := 1) hx hb dL_gives_32 (by decide) ?_
      refine lv_goto (tgt := 37) hx hb dL_gives_33 (by decide) ?_
      exact r_z true C hd dL_gives_37 χ9 rfl hw
  rw [wpL_gives] at hw
  refine lv_aload_n hx hb dL_gives_0 rfl (lv_at hl 0 rfl) ?_
  refine lv_iload_n hx hb dL_gives_1 rfl (lv_at hl 1 rfl) ?_
  refine lv_iconst (v := 1) hx hb dL_gives_2 (by decide) ?_
  refine v_i C hd hl M_X3_address gL_gives_X3_address (c_X3_address l B k ad χ p1 1 _ hw) ⟨rfl, rfl⟩ ⟨Nat.le_of_ble_eq_true rfl, Nat.le_of_ble_eq_true rfl⟩ (pm_all _) (fun _ => wX3 k ad χ) (fun _ => (pm_all _).symm) 0 3 rfl rfl rfl rfl rfl (Nat.le_of_ble_eq_true rfl) dL_gives_3 ⟨Nat.le_of_ble_eq_true rfl, Nat.le_of_ble_eq_true rfl⟩ (fun r3 _ H locs hw hd => ?_)
  refine lv_istore_n (lv' := [(2, .int r3), (0, .ref (ad 9 0)), (1, .int p1)]) hx hb dL_gives_6 rfl hl (by decide) rfl (fun ls hl => ?_)
  refine lv_aload_n hx hb dL_gives_7 rfl (lv_at hl 1 rfl) ?_
  refine lv_iload_n hx hb dL_gives_8 rfl (lv_at hl 2 rfl) ?_
  refine v_i C hd hl M_X3_giveBack gL_gives_X3_giveBack (c_X3_giveBack l B k ad χ p1 _ hw) ⟨rfl, rfl⟩ ⟨Nat.le_of_ble_eq_true rfl, Nat.le_of_ble_eq_true rfl⟩ (pm_all _) (fun u => wX3 k ad u) (fun _ => (pm_all _).symm) 0 3 rfl rfl rfl rfl rfl (Nat.le_of_ble_eq_true rfl) dL_gives_9 ⟨Nat.le_of_ble_eq_true rfl, Nat.le_of_ble_eq_true rfl⟩ (fun r9 χ9 H locs hw hd => ?_)
  refine lv_istore_n (lv' := [(3, .int r9), (2, .int r3), (0, .ref (ad 9 0)), (1, .int p1)]) hx hb dL_gives_12 rfl hl (by decide) rfl (fun ls hl => ?_)
  refine lv_iload_n hx hb dL_gives_13 rfl (lv_at hl 1 rfl) ?_
  refine lv_if_ge (tgt := 38) hx hb dL_gives_14 (by decide) (fun c18 => ?_) (fun c18 => ?_)
  · replace hw := hw.1 c18
    refine lv_iload_n hx hb dL_gives_38 rfl (lv_at hl 1 rfl) ?_
    refine lv_iload_n hx hb dL_gives_39 rfl (lv_at hl 3 rfl) ?_
    refine lv_icmp_ne (tgt := 55) hx hb dL_gives_40 (by decide) (fun c19 => ?_) (fun c19 => ?_)
    · replace hw := hw.2 c19
      refine lv_iload_n hx hb dL_gives_55 rfl (lv_at hl 0 rfl) ?_
      refine lv_iload_n hx hb dL_gives_56 rfl (lv_at hl 1 rfl) ?_
      refine lv_icmp_ne (tgt := 114) hx hb dL_gives_57 (by decide) (fun c20 => ?_) (fun c20 => ?_)
      · replace hw := hw.2 c20
        refine lv_iload_n hx hb dL_gives_114 rfl (lv_at hl 0 rfl) ?_
        refine lv_bipush (v := (-4)) hx hb dL_gives_115 (by decide) ?_
        refine lv_icmp_ne (tgt := 146) hx hb dL_gives_117 (by decide) (fun c21 => ?_) (fun c21 => ?_)
        · replace hw := hw.2 c21
          refine lv_iconst (v := 0) hx hb dL_gives_146 (by decide) ?_
          exact r_z false C hd dL_gives_147 χ9 rfl hw
        · replace hw := hw.1 c21
          refine lv_aload_n hx hb dL_gives_120 rfl (lv_at hl 2 rfl) ?_
          refine lv_iload_n hx hb dL_gives_121 rfl (lv_at hl 3 rfl) ?_
          refine lv_iconst (v := 1) hx hb dL_gives_122 (by decide) ?_
          refine v_i C hd hl M_X3_sector gL_gives_X3_sector (c_X3_sector l B k ad χ9 p1 1 _ hw) ⟨rfl, rfl⟩ ⟨Nat.le_of_ble_eq_true rfl, Nat.le_of_ble_eq_true rfl⟩ (pm_all _) (fun _ => wX3 k ad χ9) (fun _ => (pm_all _).symm) 0 3 rfl rfl rfl rfl rfl (Nat.le_of_ble_eq_true rfl) dL_gives_123 ⟨Nat.le_of_ble_eq_true rfl, Nat.le_of_ble_eq_true rfl⟩ (fun r123 _ H locs hw hd => ?_)
          refine lv_if_gt (tgt := 142) hx hb dL_gives_126 (by decide) (fun c22 => ?_) (fun c22 => ?_)
          · replace hw := hw.1 c22
            refine lv_iconst (v := 1) hx hb dL_gives_142 (by decide) ?_
            refine lv_goto (tgt := 147) hx hb dL_gives_143 (by decide) ?_
            exact r_z true C hd dL_gives_147 χ9 rfl hw
          · replace hw := hw.2 c22
            refine lv_aload_n hx hb dL_gives_129 rfl (lv_at hl 2 rfl) ?_
            refine lv_iload_n hx hb dL_gives_130 rfl (lv_at hl 3 rfl) ?_
            refine lv_bipush (v := 16) hx hb dL_gives_131 (by decide) ?_
            refine lv_idiv hx hb dL_gives_133 (by decide) ?_
            refine lv_iconst (v := 3) hx hb dL_gives_134 (by decide) ?_
            refine v_i C hd hl M_X3_head gL_gives_X3_head (c_X3_head l B k ad χ9 (p1 / 16) 3 _ hw) ⟨rfl, rfl⟩ ⟨Nat.le_of_ble_eq_true rfl, Nat.le_of_ble_eq_true rfl⟩ (pm_all _) (fun _ => wX3 k ad χ9) (fun _ => (pm_all _).symm) 0 3 rfl rfl rfl rfl rfl (Nat.le_of_ble_eq_true rfl) dL_gives_135 ⟨Nat.le_of_ble_eq_true rfl, Nat.le_of_ble_eq_true rfl⟩ (fun r135 _ H locs hw hd => ?_)
            refine lv_iconst (v := 1) hx hb dL_gives_138 (by decide) ?_
            refine lv_icmp_ne (tgt := 146) hx hb dL_gives_139 (by decide) (fun c23 => ?_) (fun c23 => ?_)
            · replace hw := hw.2 c23
              refine lv_iconst (v := 0) hx hb dL_gives_146 (by decide) ?_
              exact r_z false C hd dL_gives_147 χ9 rfl hw
            · replace hw := hw.1 c23
              refine lv_iconst (v := 1) hx hb dL_gives_142 (by decide) ?_
              refine lv_goto (tgt := 147) hx hb dL_gives_143 (by decide) ?_
              exact r_z true C hd dL_gives_147 χ9 rfl hw
      · replace hw := hw.1 c20
        refine lv_aload_n hx hb dL_gives_60 rfl (lv_at hl 2 rfl) ?_
        refine lv_iload_n hx hb dL_gives_61 rfl (lv_at hl 3 rfl) ?_
        refine lv_iconst (v := 1) hx hb dL_gives_62 (by decide) ?_
        refine v_i C hd hl M_X3_address gL_gives_X3_address (c_X3_address l B k ad χ9 p1 1 _ hw) ⟨rfl, rfl⟩ ⟨Nat.le_of_ble_eq_true rfl, Nat.le_of_ble_eq_true rfl⟩ (pm_all _) (fun _ => wX3 k ad χ9) (fun _ => (pm_all _).symm) 0 3 rfl rfl rfl rfl rfl (Nat.le_of_ble_eq_true rfl) dL_gives_63 ⟨Nat.le_of_ble_eq_true rfl, Nat.le_of_ble_eq_true rfl⟩ (fun r63 _ H locs hw hd => ?_)
        refine lv_iload_n hx hb dL_gives_66 rfl (lv_at hl 3 rfl) ?_
        refine lv_icmp_ne (tgt := 110) hx hb dL_gives_67 (by decide) (fun c24 => ?_) (fun c24 => ?_)
        · replace hw := hw.2 c24
          refine lv_iconst (v := 0) hx hb dL_gives_110 (by decide) ?_
          refine lv_goto (tgt := 147) hx hb dL_gives_111 (by decide) ?_
          exact r_z false C hd dL_gives_147 χ9 rfl hw
        · replace hw := hw.1 c24
          refine lv_aload_n hx hb dL_gives_70 rfl (lv_at hl 2 rfl) ?_
          refine lv_iload_n hx hb dL_gives_71 rfl (lv_at hl 1 rfl) ?_
          refine lv_iconst (v := 3) hx hb dL_gives_72 (by decide) ?_
          refine v_i C hd hl M_X3_sector gL_gives_X3_sector (c_X3_sector l B k ad χ9 r3 3 _ hw) ⟨rfl, rfl⟩ ⟨Nat.le_of_ble_eq_true rfl, Nat.le_of_ble_eq_true rfl⟩ (pm_all _) (fun _ => wX3 k ad χ9) (fun _ => (pm_all _).symm) 0 3 rfl rfl rfl rfl rfl (Nat.le_of_ble_eq_true rfl) dL_gives_73 ⟨Nat.le_of_ble_eq_true rfl, Nat.le_of_ble_eq_true rfl⟩ (fun r73 _ H locs hw hd => ?_)
          refine lv_bipush (v := (-5)) hx hb dL_gives_76 (by decide) ?_
          refine lv_icmp_ne (tgt := 110) hx hb dL_gives_78 (by decide) (fun c25 => ?_) (fun c25 => ?_)
          · replace hw := hw.2 c25
            refine lv_iconst (v := 0) hx hb dL_gives_110 (by decide) ?_
            refine lv_goto (tgt := 147) hx hb dL_gives_111 (by decide) ?_
            exact r_z false C hd dL_gives_147 χ9 rfl hw
          · replace hw := hw.1 c25
            refine lv_aload_n hx hb dL_gives_81 rfl (lv_at hl 2 rfl) ?_
            refine lv_iconst (v := 5) hx hb dL_gives_82 (by decide) ?_
            refine v_i C hd hl M_X3_count gL_gives_X3_count (c_X3_count l B k ad χ9 5 _ hw) ⟨rfl, rfl⟩ ⟨Nat.le_of_ble_eq_true rfl, Nat.le_of_ble_eq_true rfl⟩ (pm_all _) (fun _ => wX3 k ad χ9) (fun _ => (pm_all _).symm) 0 3 rfl rfl rfl rfl rfl (Nat.le_of_ble_eq_true rfl) dL_gives_83 ⟨Nat.le_of_ble_eq_true rfl, Nat.le_of_ble_eq_true rfl⟩ (fun r83 _ H locs hw hd => ?_)
            refine lv_iload_n hx hb dL_gives_86 rfl (lv_at hl 3 rfl) ?_
            refine lv_bipush (v := 16) hx hb dL_gives_87 (by decide) ?_
            refine lv_irem hx hb dL_gives_89 (by decide) ?_
            refine lv_icmp_ne (tgt := 110) hx hb dL_gives_90 (by decide) (fun c26 => ?_) (fun c26 => ?_)
            · replace hw := hw.2 c26
              refine lv_iconst (v := 0) hx hb dL_gives_110 (by decide) ?_
              refine lv_goto (tgt := 147) hx hb dL_gives_111 (by decide) ?_
              exact r_z false C hd dL_gives_147 χ9 rfl hw
            · replace hw := hw.1 c26
              refine lv_aload_n hx hb dL_gives_93 rfl (lv_at hl 2 rfl) ?_
              refine lv_bipush (v := 6) hx hb dL_gives_94 (by decide) ?_
              refine v_i C hd hl M_X3_count gL_gives_X3_count (c_X3_count l B k ad χ9 6 _ hw) ⟨rfl, rfl⟩ ⟨Nat.le_of_ble_eq_true rfl, Nat.le_of_ble_eq_true rfl⟩ (pm_all _) (fun _ => wX3 k ad χ9) (fun _ => (pm_all _).symm) 0 3 rfl rfl rfl rfl rfl (Nat.le_of_ble_eq_true rfl) dL_gives_96 ⟨Nat.le_of_ble_eq_true rfl, Nat.le_of_ble_eq_true rfl⟩ (fun r96 _ H locs hw hd => ?_)
              refine lv_iload_n hx hb dL_gives_99 rfl (lv_at hl 3 rfl) ?_
              refine lv_bipush (v := 16) hx hb dL_gives_100 (by decide) ?_
              refine lv_idiv hx hb dL_gives_102 (by decide) ?_
              refine lv_icmp_ne (tgt := 110) hx hb dL_gives_103 (by decide) (fun c27 => ?_) (fun c27 => ?_)
              · replace hw := hw.2 c27
                refine lv_iconst (v := 0) hx hb dL_gives_110 (by decide) ?_
                refine lv_goto (tgt := 147) hx hb dL_gives_111 (by decide) ?_
                exact r_z false C hd dL_gives_147 χ9 rfl hw
              · replace hw := hw.1 c27
                refine lv_iconst (v := 1) hx hb dL_gives_106 (by decide) ?_
                refine lv_goto (tgt := 147) hx hb dL_gives_107 (by decide) ?_
                exact r_z true C hd dL_gives_147 χ9 rfl hw
    · replace hw := hw.1 c19
      refine lv_iload_n hx hb dL_gives_43 rfl (lv_at hl 0 rfl) ?_
      refine lv_bipush (v := (-5)) hx hb dL_gives_44 (by decide) ?_
      refine lv_icmp_ne (tgt := 53) hx hb dL_gives_46 (by decide) (fun c28 => ?_) (fun c28 => ?_)
      · replace hw := hw.2 c28
        refine lv_iconst (v := 0) hx hb dL_gives_53 (by decide) ?_
        exact r_z false C hd dL_gives_54 χ9 rfl hw
      · replace hw := hw.1 c28
        refine lv_iconst (v := 1) hx hb dL_gives_49 (by decide) ?_
        refine lv_goto (tgt := 54) hx hb dL_gives_50 (by decide) ?_
        exact r_z true C hd dL_gives_54 χ9 rfl hw
  · replace hw := hw.2 c18
    refine lv_iload_n hx hb dL_gives_17 rfl (lv_at hl 0 rfl) ?_
    refine lv_iload_n hx hb dL_gives_18 rfl (lv_at hl 1 rfl) ?_
    refine lv_iconst (v := (-1)) hx hb dL_gives_19 (by decide) ?_
    refine lv_icmp_ne (tgt := 27) hx hb dL_gives_20 (by decide) (fun c29 => ?_) (fun c29 => ?_)
    · replace hw := hw.2 c29
      refine lv_bipush (v := (-5)) hx hb dL_gives_27 (by decide) ?_
      exact J29 χ9 r9 (-5) _ _ _ hd (lv_sub hl [] rfl) hw
    · replace hw := hw.1 c29
      refine lv_iconst (v := (-1)) hx hb dL_gives_23 (by decide) ?_
      refine lv_goto (tgt := 29) hx hb dL_gives_24 (by decide) ?_
      exact J29 χ9 r9 (-1) _ _ _ hd (lv_sub hl [] rfl) hw
abbrev rm_L_drops : Room := { frames := 7, cells := 0, slots := 0, locals := 159 }
theorem M_L_drops : MI yL_drops wsL_drops cL_drops 8 (some .boolean) 2 := ⟨⟨_, rfl⟩, by decide +kernel, by decide +kernel, by decide +kernel, by decide +kernel⟩
theorem iL_drops_X3 : ∀ w ∈ wsX30, w ∈ wsL_drops := fun _ h => List.mem_cons_of_mem _ (List.mem_append_left _ (List.mem_append_left _ (List.mem_append_left _ (List.mem_append_right _ h))))
theorem iL_drops_X1 : ∀ w ∈ wsX10, w ∈ wsL_drops := fun _ h => List.mem_cons_of_mem _ (List.mem_append_left _ (List.mem_append_left _ (List.mem_append_right _ h)))
theorem iL_drops_X2 : ∀ w ∈ wsX20, w ∈ wsL_drops := fun _ h => List.mem_cons_of_mem _ (List.mem_append_left _ (List.mem_append_right _ h))
theorem iL_drops_X0 : ∀ w ∈ wsX00, w ∈ wsL_drops := fun _ h => List.mem_cons_of_mem _ (List.mem_append_right _ h)
def wpL_drops_J64 (p1 : Int32) (χ2 : XS) (r2 : Int32) (r8 : Int32) (r15 : Int32) (r23 : Int32) (r29 : Int32) (r36 : Int32) (r43 : Int32) (post : Bool → XS → Prop) (v64s0 : Bool) : Prop := wpX3_giveUp χ2 p1 (fun r68 χ68 => ((v64s0 = true → ((r68 = (-5) → ((r2 = (-5) → post true χ68) ∧ (¬ r2 = (-5) → post false χ68))) ∧ (¬ r68 = (-5) → post false χ68))) ∧ (v64s0 = false → (((((r23 + r29) + r36) + r43) = 3 → ((r68 = (-4) → wpX3_head χ68 p1 3 (fun r113 => ((r113 = 0 → post true χ68) ∧ (¬ r113 = 0 → post false χ68)))) ∧ (¬ r68 = (-4) → post false χ68))) ∧ (¬ (((r23 + r29) + r36) + r43) = 3 → ((r68 = r2 → wpX3_head χ68 p1 3 (fun r136 => ((r136 = 1 → wpX3_head χ68 p1 2 (fun r146 => ((r146 = 0 → wpX3_count χ68 2 (fun r154 => ((r154 = (r8 + r68) → wpX3_count χ68 7 (fun r167 => ((r167 = r15 → post true χ68) ∧ (¬ r167 = r15 → post false χ68)))) ∧ (¬ r154 = (r8 + r68) → post false χ68)))) ∧ (¬ r146 = 0 → post false χ68)))) ∧ (¬ r136 = 1 → post false χ68)))) ∧ (¬ r68 = r2 → post false χ68)))))))
def wpL_drops (χ : XS) (p1 : Int32) (post : Bool → XS → Prop) : Prop := wpX3_wouldLose χ p1 (fun r2 χ2 => wpX3_count χ2 2 (fun r8 => wpX3_count χ2 7 (fun r15 => wpX3_head χ2 0 3 (fun r23 => wpX3_head χ2 1 3 (fun r29 => wpX3_head χ2 2 3 (fun r36 => wpX3_head χ2 3 3 (fun r43 => wpX3_head χ2 p1 3 (fun r52 => ((r52 = 1 → wpL_drops_J64 p1 χ2 r2 r8 r15 r23 r29 r36 r43 post true) ∧ (¬ r52 = 1 → wpL_drops_J64 p1 χ2 r2 r8 r15 r23 r29 r36 r43 post false))))))))))
set_option maxHeartbeats 4000000 in
set_option maxRecDepth 100000 in
theorem c_L_drops (l : Launch) (B : va_G) (k : KT) (ad : Nat → Nat → Nat) (χ : XS) (p1 : Int32) (post : Bool → XS → Prop) (hw : wpL_drops χ p1 post) : Cti l yL_drops wsL_drops rm_L_drops 0 0 B k [.ref (ad 9 0), .int p1] (wX3 k ad χ) (fun u => wX3 k ad u) (bpost post) := by
  refine Cti.of M_L_drops (Nat.le_of_ble_eq_true rfl) ?_
  intro p e s m args below meth c A C hd ls hl
  have hx := C.1; have hb := C.2.1; have hml := C.2.2.1; have hts := C.2.2.2.2.1
  have hl : lv_has ls 8 [(0, .ref (ad 9 0)), (1, .int p1)] := hl
  have J64 : ∀ (χ2 : XS) (r2 : Int32) (r8 : Int32) (r15 : Int32) (r23 : Int32) (r29 : Int32) (r36 : Int32) (r43 : Int32) (v64s0 : Bool) (H : Heap) (locs : List Loc) (ls : Array Slot), Wd B A s.heap (wX3 k ad χ2) H locs → lv_has ls 8 [(0, .ref (ad 9 0)), (1, .int p1), (2, .int r2), (3, .int r8), (4, .int r15), (5, .int (((r23 + r29) + r36) + r43))] → wpL_drops_J64 p1 χ2 r2 r8 r15 r23 r29 r36 r43 post v64s0 → W p l e rm_L_drops s m args below meth c H locs 0 0 (Qi below args s B A (fun u => wX3 k ad u) (bpost post) 0 0) (F0 m 64 ls [.int (bi v64s0)]) := by
    intro χ2 r2 r8 r15 r23 r29 r36 r43 v64s0 H locs ls hd hl hw
    rw [wpL_drops_J64] at hw
    refine lv_istore (lv' := [(6, .int (bi v64s0)), (0, .ref (ad 9 0)), (1, .int p1), (2, .int r2), (3, .int r8), (4, .int r15), (5, .int (((r23 + r29) + r36) + r43))]) hx hb dL_drops_64 hl (by decide) rfl (fun ls hl => ?_)
    refine lv_aload_n hx hb dL_drops_66 rfl (lv_at hl 1 rfl) ?_
    refine lv_iload_n hx hb dL_drops_67 rfl (lv_at hl 2 rfl) ?_
    refine v_i C hd hl M_X3_giveUp gL_drops_X3_giveUp (c_X3_giveUp l B k ad χ2 p1 _ hw) ⟨rfl, rfl⟩ ⟨Nat.le_of_ble_eq_true rfl, Nat.le_of_ble_eq_true rfl⟩ (pm_all _) (fun u => wX3 k ad u) (fun _ => (pm_all _).symm) 0 3 rfl rfl rfl rfl rfl (Nat.le_of_ble_eq_true rfl) dL_drops_68 ⟨Nat.le_of_ble_eq_true rfl, Nat.le_of_ble_eq_true rfl⟩ (fun r68 χ68 H locs hw hd => ?_)
    refine lv_istore (lv' := [(7, .int r68), (6, .int (bi v64s0)), (0, .ref (ad 9 0)), (1, .int p1), (2, .int r2), (3, .int r8), (4, .int r15), (5, .int (((r23 + r29) + r36) + r43))]) hx hb dL_drops_71 hl (by decide) rfl (fun ls hl => ?_)
    refine lv_iload hx hb dL_drops_73 (lv_at hl 1 rfl) ?_
    refine lv_if_eq (tgt := 97) hx hb dL_drops_75 (by decide) (fun c56 => ?_) (fun c56 => ?_)
    · replace hw := hw.2 ((bi_eq _).mp c56)
      refine lv_iload hx hb dL_drops_97 (lv_at hl 7 rfl) ?_
      refine lv_iconst (v := 3) hx hb dL_drops_99 (by decide) ?_
      refine lv_icmp_ne (tgt := 127) hx hb dL_drops_100 (by decide) (fun c46 => ?_) (fun c46 => ?_)
      · replace hw := hw.2 c46
        refine lv_iload hx hb dL_drops_127 (lv_at hl 0 rfl) ?_
        refine lv_iload_n hx hb dL_drops_129 rfl (lv_at hl 4 rfl) ?_
        refine lv_icmp_ne (tgt := 179) hx hb dL_drops_130 (by decide) (fun c47 => ?_) (fun c47 => ?_)
        · replace hw := hw.2 c47
          refine lv_iconst (v := 0) hx hb dL_drops_179 (by decide) ?_
          exact r_z false C hd dL_drops_180 χ68 rfl hw
        · replace hw := hw.1 c47
          refine lv_aload_n hx hb dL_drops_133 rfl (lv_at hl 2 rfl) ?_
          refine lv_iload_n hx hb dL_drops_134 rfl (lv_at hl 3 rfl) ?_
          refine lv_iconst (v := 3) hx hb dL_drops_135 (by decide) ?_
          refine v_i C hd hl M_X3_head gL_drops_X3_head (c_X3_head l B k ad χ68 p1 3 _ hw) ⟨rfl, rfl⟩ ⟨Nat.le_of_ble_eq_true rfl, Nat.le_of_ble_eq_true rfl⟩ (pm_all _) (fun _ => wX3 k ad χ68) (fun _ => (pm_all _).symm) 0 3 rfl rfl rfl rfl rfl (Nat.le_of_ble_eq_true rfl) dL_drops_136 ⟨Nat.le_of_ble_eq_true rfl, Nat.le_of_ble_eq_true rfl⟩ (fun r136 _ H locs hw hd => ?_)
          refine lv_iconst (v := 1) hx hb dL_drops_139 (by decide) ?_
          refine lv_icmp_ne (tgt := 179) hx hb dL_drops_140 (by decide) (fun c48 => ?_) (fun c48 => ?_)
          · replace hw := hw.2 c48
            refine lv_iconst (v := 0) hx hb dL_drops_179 (by decide) ?_
            exact r_z false C hd dL_drops_180 χ68 rfl hw
          · replace hw := hw.1 c48
            refine lv_aload_n hx hb dL_drops_143 rfl (lv_at hl 2 rfl) ?_
            refine lv_iload_n hx hb dL_drops_144 rfl (lv_at hl 3 rfl) ?_
            refine lv_iconst (v := 2) hx hb dL_drops_145 (by decide) ?_
            refine v_i C hd hl M_X3_head gL_drops_X3_head (c_X3_head l B k ad χ68 p1 2 _ hw) ⟨rfl, rfl⟩ ⟨Nat.le_of_ble_eq_true rfl, Nat.le_of_ble_eq_true rfl⟩ (pm_all _) (fun _ => wX3 k ad χ68) (fun _ => (pm_all _).symm) 0 3 rfl rfl rfl rfl rfl (Nat.le_of_ble_eq_true rfl) dL_drops_146 ⟨Nat.le_of_ble_eq_true rfl, Nat.le_of_ble_eq_true rfl⟩ (fun r146 _ H locs hw hd => ?_)
            refine lv_if_ne (tgt := 179) hx hb dL_drops_149 (by decide) (fun c49 => ?_) (fun c49 => ?_)
            · replace hw := hw.2 c49
              refine lv_iconst (v := 0) hx hb dL_drops_179 (by decide) ?_
              exact r_z false C hd dL_drops_180 χ68 rfl hw
            · replace hw := hw.1 c49
              refine lv_aload_n hx hb dL_drops_152 rfl (lv_at hl 2 rfl) ?_
              refine lv_iconst (v := 2) hx hb dL_drops_153 (by decide) ?_
              refine v_i C hd hl M_X3_count gL_drops_X3_count (c_X3_count l B k ad χ68 2 _ hw) ⟨rfl, rfl⟩ ⟨Nat.le_of_ble_eq_true rfl, Nat.le_of_ble_eq_true rfl⟩ (pm_all _) (fun _ => wX3 k ad χ68) (fun _ => (pm_all _).symm) 0 3 rfl rfl rfl rfl rfl (Nat.le_of_ble_eq_true rfl) dL_drops_154 ⟨Nat.le_of_ble_eq_true rfl, Nat.le_of_ble_eq_true rfl⟩ (fun r154 _ H locs hw hd => ?_)
              refine lv_iload_n hx hb dL_drops_157 rfl (lv_at hl 5 rfl) ?_
              refine lv_iload hx hb dL_drops_158 (lv_at hl 0 rfl) ?_
              refine lv_iadd hx hb dL_drops_160 ?_
              refine lv_icmp_ne (tgt := 179) hx hb dL_drops_161 (by decide) (fun c50 => ?_) (fun c50 => ?_)
              · replace hw := hw.2 c50
                refine lv_iconst (v := 0) hx hb dL_drops_179 (by decide) ?_
                exact r_z false C hd dL_drops_180 χ68 rfl hw
              · replace hw := hw.1 c50
                refine lv_aload_n hx hb dL_drops_164 rfl (lv_at hl 2 rfl) ?_
                refine lv_bipush (v := 7) hx hb dL_drops_165 (by decide) ?_
                refine v_i C hd hl M_X3_count gL_drops_X3_count (c_X3_count l B k ad χ68 7 _ hw) ⟨rfl, rfl⟩ ⟨Nat.le_of_ble_eq_true rfl, Nat.le_of_ble_eq_true rfl⟩ (pm_all _) (fun _ => wX3 k ad χ68) (fun _ => (pm_all _).symm) 0 3 rfl rfl rfl rfl rfl (Nat.le_of_ble_eq_true rfl) dL_drops_167 ⟨Nat.le_of_ble_eq_true rfl, Nat.le_of_ble_eq_true rfl⟩ (fun r167 _ H locs hw hd => ?_)
                refine lv_iload hx hb dL_drops_170 (lv_at hl 6 rfl) ?_
                refine lv_icmp_ne (tgt := 179) hx hb dL_drops_172 (by decide) (fun c51 => ?_) (fun c51 => ?_)
                · replace hw := hw.2 c51
                  refine lv_iconst (v := 0) hx hb dL_drops_179 (by decide) ?_
                  exact r_z false C hd dL_drops_180 χ68 rfl hw
                · replace hw := hw.1 c51
                  refine lv_iconst (v := 1) hx hb dL_drops_175 (by decide) ?_
                  refine lv_goto (tgt := 180) hx hb dL_drops_176 (by decide) ?_
                  exact r_z true C hd dL_drops_180 χ68 rfl hw
      · replace hw := hw.1 c46
        refine lv_iload hx hb dL_drops_103 (lv_at hl 0 rfl) ?_
        refine lv_bipush (v := (-4)) hx hb dL_drops_105 (by decide) ?_
        refine lv_icmp_ne (tgt := 123) hx hb dL_drops_107 (by decide) (fun c52 => ?_) (fun c52 => ?_)
        · replace hw := hw.2 c52
          refine lv_iconst (v := 0) hx hb dL_drops_123 (by decide) ?_
          refine lv_goto (tgt := 180) hx hb dL_drops_124 (by decide) ?_
          exact r_z false C hd dL_drops_180 χ68 rfl hw
        · replace hw := hw.1 c52
          refine lv_aload_n hx hb dL_drops_110 rfl (lv_at hl 2 rfl) ?_
          refine lv_iload_n hx hb dL_drops_111 rfl (lv_at hl 3 rfl) ?_
          refine lv_iconst (v := 3) hx hb dL_drops_112 (by decide) ?_
          refine v_i C hd hl M_X3_head gL_drops_X3_head (c_X3_head l B k ad χ68 p1 3 _ hw) ⟨rfl, rfl⟩ ⟨Nat.le_of_ble_eq_true rfl, Nat.le_of_ble_eq_true rfl⟩ (pm_all _) (fun _ => wX3 k ad χ68) (fun _ => (pm_all _).symm) 0 3 rfl rfl rfl rfl rfl (Nat.le_of_ble_eq_true rfl) dL_drops_113 ⟨Nat.le_of_ble_eq_true rfl, Nat.le_of_ble_eq_true rfl⟩ (fun r113 _ H locs hw hd => ?_)
          refine lv_if_ne (tgt := 123) hx hb dL_drops_116 (by decide) (fun c53 => ?_) (fun c53 => ?_)
          · replace hw := hw.2 c53
            refine lv_iconst (v := 0) hx hb dL_drops_123 (by decide) ?_
            refine lv_goto (tgt := 180) hx hb dL_drops_124 (by decide) ?_
            exact r_z false C hd dL_drops_180 χ68 rfl hw
          · replace hw := hw.1 c53
            refine lv_iconst (v := 1) hx hb dL_drops_119 (by decide) ?_
            refine lv_goto (tgt := 180) hx hb dL_drops_120 (by decide) ?_
            exact r_z true C hd dL_drops_180 χ68 rfl hw
    · replace hw := hw.1 ((bi_ne _).mp c56)
      refine lv_iload hx hb dL_drops_78 (lv_at hl 0 rfl) ?_
      refine lv_bipush (v := (-5)) hx hb dL_drops_80 (by decide) ?_
      refine lv_icmp_ne (tgt := 95) hx hb dL_drops_82 (by decide) (fun c54 => ?_) (fun c54 => ?_)
      · replace hw := hw.2 c54
        refine lv_iconst (v := 0) hx hb dL_drops_95 (by decide) ?_
        exact r_z false C hd dL_drops_96 χ68 rfl hw
      · replace hw := hw.1 c54
        refine lv_iload_n hx hb dL_drops_85 rfl (lv_at hl 4 rfl) ?_
        refine lv_bipush (v := (-5)) hx hb dL_drops_86 (by decide) ?_
        refine lv_icmp_ne (tgt := 95) hx hb dL_drops_88 (by decide) (fun c55 => ?_) (fun c55 => ?_)
        · replace hw := hw.2 c55
          refine lv_iconst (v := 0) hx hb dL_drops_95 (by decide) ?_
          exact r_z false C hd dL_drops_96 χ68 rfl hw
        · replace hw := hw.1 c55
          refine lv_iconst (v := 1) hx hb dL_drops_91 (by decide) ?_
          refine lv_goto (tgt := 96) hx hb dL_drops_92 (by decide) ?_
          exact r_z true C hd dL_drops_96 χ68 rfl hw
  rw [wpL_drops] at hw
  refine lv_aload_n hx hb dL_drops_0 rfl (lv_at hl 0 rfl) ?_
  refine lv_iload_n hx hb dL_drops_1 rfl (lv_at hl 1 rfl) ?_
  refine v_i C hd hl M_X3_wouldLose gL_drops_X3_wouldLose (c_X3_wouldLose l B k ad χ p1 _ hw) ⟨rfl, rfl⟩ ⟨Nat.le_of_ble_eq_true rfl, Nat.le_of_ble_eq_true rfl⟩ (pm_all _) (fun u => wX3 k ad u) (fun _ => (pm_all _).symm) 0 3 rfl rfl rfl rfl rfl (Nat.le_of_ble_eq_true rfl) dL_drops_2 ⟨Nat.le_of_ble_eq_true rfl, Nat.le_of_ble_eq_true rfl⟩ (fun r2 χ2 H locs hw hd => ?_)
  refine lv_istore_n (lv' := [(2, .int r2), (0, .ref (ad 9 0)), (1, .int p1)]) hx hb dL_drops_5 rfl hl (by decide) rfl (fun ls hl => ?_)
  refine lv_aload_n hx hb dL_drops_6 rfl (lv_at hl 1 rfl) ?_
  refine lv_iconst (v := 2) hx hb dL_drops_7 (by decide) ?_
  refine v_i C hd hl M_X3_count gL_drops_X3_count (c_X3_count l B k ad χ2 2 _ hw) ⟨rfl, rfl⟩ ⟨Nat.le_of_ble_eq_true rfl, Nat.le_of_ble_eq_true rfl⟩ (pm_all _) (fun _ => wX3 k ad χ2) (fun _ => (pm_all _).symm) 0 3 rfl rfl rfl rfl rfl (Nat.le_of_ble_eq_true rfl) dL_drops_8 ⟨Nat.le_of_ble_eq_true rfl, Nat.le_of_ble_eq_true rfl⟩ (fun r8 _ H locs hw hd => ?_)
  refine lv_istore_n (lv' := [(3, .int r8), (2, .int r2), (0, .ref (ad 9 0)), (1, .int p1)]) hx hb dL_drops_11 rfl hl (by decide) rfl (fun ls hl => ?_)
  refine lv_aload_n hx hb dL_drops_12 rfl (lv_at hl 2 rfl) ?_
  refine lv_bipush (v := 7) hx hb dL_drops_13 (by decide) ?_
  refine v_i C hd hl M_X3_count gL_drops_X3_count (c_X3_count l B k ad χ2 7 _ hw) ⟨rfl, rfl⟩ ⟨Nat.le_of_ble_eq_true rfl, Nat.le_of_ble_eq_true rfl⟩ (pm_all _) (fun _ => wX3 k ad χ2) (fun _ => (pm_all _).symm) 0 3 rfl rfl rfl rfl rfl (Nat.le_of_ble_eq_true rfl) dL_drops_15 ⟨Nat.le_of_ble_eq_true rfl, Nat.le_of_ble_eq_true rfl⟩ (fun r15 _ H locs hw hd => ?_)
  refine lv_istore (lv' := [(4, .int r15), (3, .int r8), (2, .int r2), (0, .ref (ad 9 0)), (1, .int p1)]) hx hb dL_drops_18 hl (by decide) rfl (fun ls hl => ?_)
  refine lv_aload_n hx hb dL_drops_20 rfl (lv_at hl 3 rfl) ?_
  refine lv_iconst (v := 0) hx hb dL_drops_21 (by decide) ?_
  refine lv_iconst (v := 3) hx hb dL_drops_22 (by decide) ?_
  refine v_i C hd hl M_X3_head gL_drops_X3_head (c_X3_head l B k ad χ2 0 3 _ hw) ⟨rfl, rfl⟩ ⟨Nat.le_of_ble_eq_true rfl, Nat.le_of_ble_eq_true rfl⟩ (pm_all _) (fun _ => wX3 k ad χ2) (fun _ => (pm_all _).symm) 0 3 rfl rfl rfl rfl rfl (Nat.le_of_ble_eq_true rfl) dL_drops_23 ⟨Nat.le_of_ble_eq_true rfl, Nat.le_of_ble_eq_true rfl⟩ (fun r23 _ H locs hw hd => ?_)
  refine lv_aload_n hx hb dL_drops_26 rfl (lv_at hl 3 rfl) ?_
  refine lv_iconst (v := 1) hx hb dL_drops_27 (by decide) ?_
  refine lv_iconst (v := 3) hx hb dL_drops_28 (by decide) ?_
  refine v_i C hd hl M_X3_head gL_drops_X3_head (c_X3_head l B k ad χ2 1 3 _ hw) ⟨rfl, rfl⟩ ⟨Nat.le_of_ble_eq_true rfl, Nat.le_of_ble_eq_true rfl⟩ (pm_all _) (fun _ => wX3 k ad χ2) (fun _ => (pm_all _).symm) 0 3 rfl rfl rfl rfl rfl (Nat.le_of_ble_eq_true rfl) dL_drops_29 ⟨Nat.le_of_ble_eq_true rfl, Nat.le_of_ble_eq_true rfl⟩ (fun r29 _ H locs hw hd => ?_)
  refine lv_iadd hx hb dL_drops_32 ?_
  refine lv_aload_n hx hb dL_drops_33 rfl (lv_at hl 3 rfl) ?_
  refine lv_iconst (v := 2) hx hb dL_drops_34 (by decide) ?_
  refine lv_iconst (v := 3) hx hb dL_drops_35 (by decide) ?_
  refine v_i C hd hl M_X3_head gL_drops_X3_head (c_X3_head l B k ad χ2 2 3 _ hw) ⟨rfl, rfl⟩ ⟨Nat.le_of_ble_eq_true rfl, Nat.le_of_ble_eq_true rfl⟩ (pm_all _) (fun _ => wX3 k ad χ2) (fun _ => (pm_all _).symm) 0 3 rfl rfl rfl rfl rfl (Nat.le_of_ble_eq_true rfl) dL_drops_36 ⟨Nat.le_of_ble_eq_true rfl, Nat.le_of_ble_eq_true rfl⟩ (fun r36 _ H locs hw hd => ?_)
  refine lv_iadd hx hb dL_drops_39 ?_
  refine lv_aload_n hx hb dL_drops_40 rfl (lv_at hl 3 rfl) ?_
  refine lv_iconst (v := 3) hx hb dL_drops_41 (by decide) ?_
  refine lv_iconst (v := 3) hx hb dL_drops_42 (by decide) ?_
  refine v_i C hd hl M_X3_head gL_drops_X3_head (c_X3_head l B k ad χ2 3 3 _ hw) ⟨rfl, rfl⟩ ⟨Nat.le_of_ble_eq_true rfl, Nat.le_of_ble_eq_true rfl⟩ (pm_all _) (fun _ => wX3 k ad χ2) (fun _ => (pm_all _).symm) 0 3 rfl rfl rfl rfl rfl (Nat.le_of_ble_eq_true rfl) dL_drops_43 ⟨Nat.le_of_ble_eq_true rfl, Nat.le_of_ble_eq_true rfl⟩ (fun r43 _ H locs hw hd => ?_)
  refine lv_iadd hx hb dL_drops_46 ?_
  refine lv_istore (lv' := [(5, .int (((r23 + r29) + r36) + r43)), (4, .int r15), (3, .int r8), (2, .int r2), (0, .ref (ad 9 0)), (1, .int p1)]) hx hb dL_drops_47 hl (by decide) rfl (fun ls hl => ?_)
  refine lv_aload_n hx hb dL_drops_49 rfl (lv_at hl 4 rfl) ?_
  refine lv_iload_n hx hb dL_drops_50 rfl (lv_at hl 5 rfl) ?_
  refine lv_iconst (v := 3) hx hb dL_drops_51 (by decide) ?_
  refine v_i C hd hl M_X3_head gL_drops_X3_head (c_X3_head l B k ad χ2 p1 3 _ hw) ⟨rfl, rfl⟩ ⟨Nat.le_of_ble_eq_true rfl, Nat.le_of_ble_eq_true rfl⟩ (pm_all _) (fun _ => wX3 k ad χ2) (fun _ => (pm_all _).symm) 0 3 rfl rfl rfl rfl rfl (Nat.le_of_ble_eq_true rfl) dL_drops_52 ⟨Nat.le_of_ble_eq_true rfl, Nat.le_of_ble_eq_true rfl⟩ (fun r52 _ H locs hw hd => ?_)
  refine lv_iconst (v := 1) hx hb dL_drops_55 (by decide) ?_
  refine lv_icmp_ne (tgt := 63) hx hb dL_drops_56 (by decide) (fun c57 => ?_) (fun c57 => ?_)
  · replace hw := hw.2 c57
    refine lv_iconst (v := 0) hx hb dL_drops_63 (by decide) ?_
    exact J64 χ2 r2 r8 r15 r23 r29 r36 r43 false _ _ _ hd (lv_sub hl [4, 5, 3, 2, 1, 0] rfl) hw
  · replace hw := hw.1 c57
    refine lv_iconst (v := 1) hx hb dL_drops_59 (by decide) ?_
    refine lv_goto (tgt := 64) hx hb dL_drops_60 (by decide) ?_
    exact J64 χ2 r2 r8 r15 r23 r29 r36 r43 true _ _ _ hd (lv_sub hl [4, 5, 3, 2, 1, 0] rfl) hw
abbrev rm_L_does : Room := { frames := 8, cells := 0, slots := 0, locals := 191 }
theorem M_L_does : MI yL_does wsL_does cL_does 11 (some .boolean) 4 := ⟨⟨_, rfl⟩, by decide +kernel, by decide +kernel, by decide +kernel, by decide +kernel⟩
theorem iL_does_X3 : ∀ w ∈ wsX30, w ∈ wsL_does := fun _ h => List.mem_cons_of_mem _ (List.mem_append_left _ (List.mem_append_left _ (List.mem_append_left _ (List.mem_append_right _ h))))
theorem iL_does_X1 : ∀ w ∈ wsX10, w ∈ wsL_does := fun _ h => List.mem_cons_of_mem _ (List.mem_append_left _ (List.mem_append_left _ (List.mem_append_right _ h)))
theorem iL_does_X2 : ∀ w ∈ wsX20, w ∈ wsL_does := fun _ h => List.mem_cons_of_mem _ (List.mem_append_left _ (List.mem_append_right _ h))
theorem iL_does_X0 : ∀ w ∈ wsX00, w ∈ wsL_does := fun _ h => List.mem_cons_of_mem _ (List.mem_append_right _ h)
def wpL_does_J265 (χ : XS) (r3 : Int32) (r226 : Int32) (r235 : Int32) (post : Bool → XS → Prop) (v265s0 : Bool) : Prop := wpX3_count χ 11 (fun r270 => wpX3_count χ 10 (fun r278 => wpX3_copy χ r3 r235 (1 + r226) (fun r290 χ290 => ((v265s0 = true → ((r290 = (-5) → wpX3_count χ290 11 (fun r324 => ((r324 = r270 → post true χ290) ∧ (¬ r324 = r270 → post false χ290)))) ∧ (¬ r290 = (-5) → ((r290 ≤ 0 → post false χ290) ∧ (¬ r290 ≤ 0 → (((1 + r226) < r290 → post false χ290) ∧ (¬ (1 + r226) < r290 → wpX3_count χ290 11 (fun r355 => ((r355 = (r270 + r290) → wpX3_count χ290 10 (fun r369 => ((r369 = (r278 + r290) → post true χ290) ∧ (¬ r369 = (r278 + r290) → post false χ290)))) ∧ (¬ r355 = (r270 + r290) → post false χ290)))))))))) ∧ (v265s0 = false → ((r290 = (-1) → post true χ290) ∧ (¬ r290 = (-1) → post false χ290)))))))
def wpL_does_J264 (χ : XS) (r3 : Int32) (r226 : Int32) (r235 : Int32) (post : Bool → XS → Prop)  : Prop := wpL_does_J265 χ r3 r226 r235 post false
def wpL_does_J200 (r167 : Int32) (χ183 : XS) (r183 : Int32) (post : Bool → XS → Prop) (v200s1 : Int32) : Prop := ((r183 = v200s1 → wpX3_count χ183 0 (fun r205 => ((r205 = (1 + r167) → post true χ183) ∧ (¬ r205 = (1 + r167) → post false χ183)))) ∧ (¬ r183 = v200s1 → post false χ183))
def wpL_does_J119 (χ93 : XS) (r93 : Int32) (post : Bool → XS → Prop) (v119s1 : Int32) : Prop := ((r93 = v119s1 → post true χ93) ∧ (¬ r93 = v119s1 → post false χ93))
def wpL_does_J88 (χ : XS) (r49 : Int32) (r57 : Int32) (post : Bool → XS → Prop) (v88s0 : Bool) : Prop := wpX3_test χ r49 (fun r93 χ93 => ((v88s0 = true → wpL_does_J119 χ93 r93 post (-5)) ∧ (v88s0 = false → wpX3_count χ93 8 (fun r113 => wpL_does_J119 χ93 r93 post (r113 - r57)))))
def wpL_does (χ : XS) (p1 : Int32) (p2 : Int32) (p3 : Int32) (post : Bool → XS → Prop) : Prop := wpL_low p2 64 (fun r3 => ((4 ≤ p1 → ((7 ≤ p1 → ((p1 = 7 → wpL_low p2 4 (fun r49 => wpX3_count χ 8 (fun r57 => wpX3_head χ r49 6 (fun r67 => wpX3_head χ r49 1 (fun r76 => ((r67 = (16 - r76) → wpL_does_J88 χ r49 r57 post true) ∧ (¬ r67 = (16 - r76) → wpL_does_J88 χ r49 r57 post false))))))) ∧ (¬ p1 = 7 → ((p1 = 8 → wpL_gives χ r3 (fun b137 χ137 => post b137 χ137)) ∧ (¬ p1 = 8 → ((p1 = 9 → wpL_low p2 4 (fun r150 => wpL_drops χ r150 (fun b153 χ153 => post b153 χ153))) ∧ (¬ p1 = 9 → ((p1 = 10 → wpL_low p3 40 (fun r167 => wpX3_count χ 0 (fun r175 => wpX3_setLimit χ (1 + r167) (fun r183 χ183 => ((r175 = (1 + r167) → wpL_does_J200 r167 χ183 r183 post (-5)) ∧ (¬ r175 = (1 + r167) → wpL_does_J200 r167 χ183 r183 post r175)))))) ∧ (¬ p1 = 10 → wpL_low (p3 >>> (6 &&& 31)) 16 (fun r226 => wpL_low p3 64 (fun r235 => wpX3_sector χ r3 2 (fun r244 => ((r244 = 0 → wpX3_sector χ r235 2 (fun r254 => ((r254 = 0 → wpL_does_J265 χ r3 r226 r235 post true) ∧ (¬ r254 = 0 → wpL_does_J264 χ r3 r226 r235 post )))) ∧ (¬ r244 = 0 → wpL_does_J264 χ r3 r226 r235 post )))))))))))))) ∧ (¬ 7 ≤ p1 → wpL_low p3 1000 (fun r34 => wpL_writes χ r3 r34 (fun b37 χ37 => post b37 χ37))))) ∧ (¬ 4 ≤ p1 → wpL_reads χ r3 p3 (fun b17 χ17 => post b17 χ17))))
set_option maxHeartbeats 4000000 in
set_option maxRecDepth 100000 in
theorem c_L_does (l : Launch) (B : va_G) (k : KT) (ad : Nat → Nat → Nat) (χ : XS) (p1 : Int32) (p2 : Int32) (p3 : Int32) (post : Bool → XS → Prop) (hw : wpL_does χ p1 p2 p3 post) : Cti l yL_does wsL_does rm_L_does 0 0 B k [.ref (ad 9 0), .int p1, .int p2, .int p3] (wX3 k ad χ) (fun u => wX3 k ad u) (bpost post) := by
  refine Cti.of M_L_does (Nat.le_of_ble_eq_true rfl) ?_
  intro p e s m args below meth c A C hd ls hl
  have hx := C.1; have hb := C.2.1; have hml := C.2.2.1; have hts := C.2.2.2.2.1
  have hl : lv_has ls 11 [(0, .ref (ad 9 0)), (1, .int p1), (2, .int p2), (3, .int p3)] := hl
  have J265 : ∀ (r3 : Int32) (r226 : Int32) (r235 : Int32) (v265s0 : Bool) (H : Heap) (locs : List Loc) (ls : Array Slot), Wd B A s.heap (wX3 k ad χ) H locs → lv_has ls 11 [(0, .ref (ad 9 0)), (4, .int r3), (5, .int (1 + r226)), (6, .int r235)] → wpL_does_J265 χ r3 r226 r235 post v265s0 → W p l e rm_L_does s m args below meth c H locs 0 0 (Qi below args s B A (fun u => wX3 k ad u) (bpost post) 0 0) (F0 m 265 ls [.int (bi v265s0)]) := by
    intro r3 r226 r235 v265s0 H locs ls hd hl hw
    rw [wpL_does_J265] at hw
    refine lv_istore (lv' := [(7, .int (bi v265s0)), (0, .ref (ad 9 0)), (4, .int r3), (5, .int (1 + r226)), (6, .int r235)]) hx hb dL_does_265 hl (by decide) rfl (fun ls hl => ?_)
    refine lv_aload_n hx hb dL_does_267 rfl (lv_at hl 1 rfl) ?_
    refine lv_bipush (v := 11) hx hb dL_does_268 (by decide) ?_
    refine v_i C hd hl M_X3_count gL_does_X3_count (c_X3_count l B k ad χ 11 _ hw) ⟨rfl, rfl⟩ ⟨Nat.le_of_ble_eq_true rfl, Nat.le_of_ble_eq_true rfl⟩ (pm_all _) (fun _ => wX3 k ad χ) (fun _ => (pm_all _).symm) 0 3 rfl rfl rfl rfl rfl (Nat.le_of_ble_eq_true rfl) dL_does_270 ⟨Nat.le_of_ble_eq_true rfl, Nat.le_of_ble_eq_true rfl⟩ (fun r270 _ H locs hw hd => ?_)
    refine lv_istore (lv' := [(8, .int r270), (7, .int (bi v265s0)), (0, .ref (ad 9 0)), (4, .int r3), (5, .int (1 + r226)), (6, .int r235)]) hx hb dL_does_273 hl (by decide) rfl (fun ls hl => ?_)
    refine lv_aload_n hx hb dL_does_275 rfl (lv_at hl 2 rfl) ?_
    refine lv_bipush (v := 10) hx hb dL_does_276 (by decide) ?_
    refine v_i C hd hl M_X3_count gL_does_X3_count (c_X3_count l B k ad χ 10 _ hw) ⟨rfl, rfl⟩ ⟨Nat.le_of_ble_eq_true rfl, Nat.le_of_ble_eq_true rfl⟩ (pm_all _) (fun _ => wX3 k ad χ) (fun _ => (pm_all _).symm) 0 3 rfl rfl rfl rfl rfl (Nat.le_of_ble_eq_true rfl) dL_does_278 ⟨Nat.le_of_ble_eq_true rfl, Nat.le_of_ble_eq_true rfl⟩ (fun r278 _ H locs hw hd => ?_)
    refine lv_istore (lv' := [(9, .int r278), (8, .int r270), (7, .int (bi v265s0)), (0, .ref (ad 9 0)), (4, .int r3), (5, .int (1 + r226)), (6, .int r235)]) hx hb dL_does_281 hl (by decide) rfl (fun ls hl => ?_)
    refine lv_aload_n hx hb dL_does_283 rfl (lv_at hl 3 rfl) ?_
    refine lv_iload hx hb dL_does_284 (lv_at hl 4 rfl) ?_
    refine lv_iload hx hb dL_does_286 (lv_at hl 6 rfl) ?_
    refine lv_iload hx hb dL_does_288 (lv_at hl 5 rfl) ?_
    refine v_i C hd hl M_X3_copy gL_does_X3_copy (c_X3_copy l B k ad χ r3 r235 (1 + r226) _ hw) ⟨rfl, rfl⟩ ⟨Nat.le_of_ble_eq_true rfl, Nat.le_of_ble_eq_true rfl⟩ (pm_all _) (fun u => wX3 k ad u) (fun _ => (pm_all _).symm) 0 3 rfl rfl rfl rfl rfl (Nat.le_of_ble_eq_true rfl) dL_does_290 ⟨Nat.le_of_ble_eq_true rfl, Nat.le_of_ble_eq_true rfl⟩ (fun r290 χ290 H locs hw hd => ?_)
    refine lv_istore (lv' := [(10, .int r290), (9, .int r278), (8, .int r270), (7, .int (bi v265s0)), (0, .ref (ad 9 0)), (4, .int r3), (5, .int (1 + r226)), (6, .int r235)]) hx hb dL_does_293 hl (by decide) rfl (fun ls hl => ?_)
    refine lv_iload hx hb dL_does_295 (lv_at hl 3 rfl) ?_
    refine lv_if_ne (tgt := 314) hx hb dL_does_297 (by decide) (fun c66 => ?_) (fun c66 => ?_)
    · replace hw := hw.1 ((bi_ne _).mp c66)
      refine lv_iload hx hb dL_does_314 (lv_at hl 0 rfl) ?_
      refine lv_bipush (v := (-5)) hx hb dL_does_316 (by decide) ?_
      refine lv_icmp_ne (tgt := 340) hx hb dL_does_318 (by decide) (fun c59 => ?_) (fun c59 => ?_)
      · replace hw := hw.2 c59
        refine lv_iload hx hb dL_does_340 (lv_at hl 0 rfl) ?_
        refine lv_if_le (tgt := 384) hx hb dL_does_342 (by decide) (fun c60 => ?_) (fun c60 => ?_)
        · replace hw := hw.1 c60
          refine lv_iconst (v := 0) hx hb dL_does_384 (by decide) ?_
          exact r_z false C hd dL_does_385 χ290 rfl hw
        · replace hw := hw.2 c60
          refine lv_iload hx hb dL_does_345 (lv_at hl 0 rfl) ?_
          refine lv_iload hx hb dL_does_347 (lv_at hl 6 rfl) ?_
          refine lv_icmp_gt (tgt := 384) hx hb dL_does_349 (by decide) (fun c61 => ?_) (fun c61 => ?_)
          · replace hw := hw.1 c61
            refine lv_iconst (v := 0) hx hb dL_does_384 (by decide) ?_
            exact r_z false C hd dL_does_385 χ290 rfl hw
          · replace hw := hw.2 c61
            refine lv_aload_n hx hb dL_does_352 rfl (lv_at hl 4 rfl) ?_
            refine lv_bipush (v := 11) hx hb dL_does_353 (by decide) ?_
            refine v_i C hd hl M_X3_count gL_does_X3_count (c_X3_count l B k ad χ290 11 _ hw) ⟨rfl, rfl⟩ ⟨Nat.le_of_ble_eq_true rfl, Nat.le_of_ble_eq_true rfl⟩ (pm_all _) (fun _ => wX3 k ad χ290) (fun _ => (pm_all _).symm) 0 3 rfl rfl rfl rfl rfl (Nat.le_of_ble_eq_true rfl) dL_does_355 ⟨Nat.le_of_ble_eq_true rfl, Nat.le_of_ble_eq_true rfl⟩ (fun r355 _ H locs hw hd => ?_)
            refine lv_iload hx hb dL_does_358 (lv_at hl 2 rfl) ?_
            refine lv_iload hx hb dL_does_360 (lv_at hl 0 rfl) ?_
            refine lv_iadd hx hb dL_does_362 ?_
            refine lv_icmp_ne (tgt := 384) hx hb dL_does_363 (by decide) (fun c62 => ?_) (fun c62 => ?_)
            · replace hw := hw.2 c62
              refine lv_iconst (v := 0) hx hb dL_does_384 (by decide) ?_
              exact r_z false C hd dL_does_385 χ290 rfl hw
            · replace hw := hw.1 c62
              refine lv_aload_n hx hb dL_does_366 rfl (lv_at hl 4 rfl) ?_
              refine lv_bipush (v := 10) hx hb dL_does_367 (by decide) ?_
              refine v_i C hd hl M_X3_count gL_does_X3_count (c_X3_count l B k ad χ290 10 _ hw) ⟨rfl, rfl⟩ ⟨Nat.le_of_ble_eq_true rfl, Nat.le_of_ble_eq_true rfl⟩ (pm_all _) (fun _ => wX3 k ad χ290) (fun _ => (pm_all _).symm) 0 3 rfl rfl rfl rfl rfl (Nat.le_of_ble_eq_true rfl) dL_does_369 ⟨Nat.le_of_ble_eq_true rfl, Nat.le_of_ble_eq_true rfl⟩ (fun r369 _ H locs hw hd => ?_)
              refine lv_iload hx hb dL_does_372 (lv_at hl 1 rfl) ?_
              refine lv_iload hx hb dL_does_374 (lv_at hl 0 rfl) ?_
              refine lv_iadd hx hb dL_does_376 ?_
              refine lv_icmp_ne (tgt := 384) hx hb dL_does_377 (by decide) (fun c63 => ?_) (fun c63 => ?_)
              · replace hw := hw.2 c63
                refine lv_iconst (v := 0) hx hb dL_does_384 (by decide) ?_
                exact r_z false C hd dL_does_385 χ290 rfl hw
              · replace hw := hw.1 c63
                refine lv_iconst (v := 1) hx hb dL_does_380 (by decide) ?_
                refine lv_goto (tgt := 385) hx hb dL_does_381 (by decide) ?_
                exact r_z true C hd dL_does_385 χ290 rfl hw
      · replace hw := hw.1 c59
        refine lv_aload_n hx hb dL_does_321 rfl (lv_at hl 4 rfl) ?_
        refine lv_bipush (v := 11) hx hb dL_does_322 (by decide) ?_
        refine v_i C hd hl M_X3_count gL_does_X3_count (c_X3_count l B k ad χ290 11 _ hw) ⟨rfl, rfl⟩ ⟨Nat.le_of_ble_eq_true rfl, Nat.le_of_ble_eq_true rfl⟩ (pm_all _) (fun _ => wX3 k ad χ290) (fun _ => (pm_all _).symm) 0 3 rfl rfl rfl rfl rfl (Nat.le_of_ble_eq_true rfl) dL_does_324 ⟨Nat.le_of_ble_eq_true rfl, Nat.le_of_ble_eq_true rfl⟩ (fun r324 _ H locs hw hd => ?_)
        refine lv_iload hx hb dL_does_327 (lv_at hl 2 rfl) ?_
        refine lv_icmp_ne (tgt := 336) hx hb dL_does_329 (by decide) (fun c64 => ?_) (fun c64 => ?_)
        · replace hw := hw.2 c64
          refine lv_iconst (v := 0) hx hb dL_does_336 (by decide) ?_
          refine lv_goto (tgt := 385) hx hb dL_does_337 (by decide) ?_
          exact r_z false C hd dL_does_385 χ290 rfl hw
        · replace hw := hw.1 c64
          refine lv_iconst (v := 1) hx hb dL_does_332 (by decide) ?_
          refine lv_goto (tgt := 385) hx hb dL_does_333 (by decide) ?_
          exact r_z true C hd dL_does_385 χ290 rfl hw
    · replace hw := hw.2 ((bi_eq _).mp c66)
      refine lv_iload hx hb dL_does_300 (lv_at hl 0 rfl) ?_
      refine lv_iconst (v := (-1)) hx hb dL_does_302 (by decide) ?_
      refine lv_icmp_ne (tgt := 310) hx hb dL_does_303 (by decide) (fun c65 => ?_) (fun c65 => ?_)
      · replace hw := hw.2 c65
        refine lv_iconst (v := 0) hx hb dL_does_310 (by decide) ?_
        refine lv_goto (tgt := 385) hx hb dL_does_311 (by decide) ?_
        exact r_z false C hd dL_does_385 χ290 rfl hw
      · replace hw := hw.1 c65
        refine lv_iconst (v := 1) hx hb dL_does_306 (by decide) ?_
        refine lv_goto (tgt := 385) hx hb dL_does_307 (by decide) ?_
        exact r_z true C hd dL_does_385 χ290 rfl hw
  have J264 : ∀ (r3 : Int32) (r226 : Int32) (r235 : Int32) (H : Heap) (locs : List Loc) (ls : Array Slot), Wd B A s.heap (wX3 k ad χ) H locs → lv_has ls 11 [(0, .ref (ad 9 0)), (4, .int r3), (5, .int (1 + r226)), (6, .int r235)] → wpL_does_J264 χ r3 r226 r235 post  → W p l e rm_L_does s m args below meth c H locs 0 0 (Qi below args s B A (fun u => wX3 k ad u) (bpost post) 0 0) (F0 m 264 ls []) := by
    intro r3 r226 r235 H locs ls hd hl hw
    rw [wpL_does_J264] at hw
    refine lv_iconst (v := 0) hx hb dL_does_264 (by decide) ?_
    exact J265 r3 r226 r235 false _ _ _ hd (lv_sub hl [0, 1, 2, 3] rfl) hw
  have J200 : ∀ (r167 : Int32) (χ183 : XS) (r183 : Int32) (v200s1 : Int32) (H : Heap) (locs : List Loc) (ls : Array Slot), Wd B A s.heap (wX3 k ad χ183) H locs → lv_has ls 11 [(0, .ref (ad 9 0)), (5, .int (1 + r167))] → wpL_does_J200 r167 χ183 r183 post v200s1 → W p l e rm_L_does s m args below meth c H locs 0 0 (Qi below args s B A (fun u => wX3 k ad u) (bpost post) 0 0) (F0 m 200 ls [.int v200s1, .int r183]) := by
    intro r167 χ183 r183 v200s1 H locs ls hd hl hw
    rw [wpL_does_J200] at hw
    refine lv_icmp_ne (tgt := 217) hx hb dL_does_200 (by decide) (fun c67 => ?_) (fun c67 => ?_)
    · replace hw := hw.2 c67
      refine lv_iconst (v := 0) hx hb dL_does_217 (by decide) ?_
      exact r_z false C hd dL_does_218 χ183 rfl hw
    · replace hw := hw.1 c67
      refine lv_aload_n hx hb dL_does_203 rfl (lv_at hl 0 rfl) ?_
      refine lv_iconst (v := 0) hx hb dL_does_204 (by decide) ?_
      refine v_i C hd hl M_X3_count gL_does_X3_count (c_X3_count l B k ad χ183 0 _ hw) ⟨rfl, rfl⟩ ⟨Nat.le_of_ble_eq_true rfl, Nat.le_of_ble_eq_true rfl⟩ (pm_all _) (fun _ => wX3 k ad χ183) (fun _ => (pm_all _).symm) 0 3 rfl rfl rfl rfl rfl (Nat.le_of_ble_eq_true rfl) dL_does_205 ⟨Nat.le_of_ble_eq_true rfl, Nat.le_of_ble_eq_true rfl⟩ (fun r205 _ H locs hw hd => ?_)
      refine lv_iload hx hb dL_does_208 (lv_at hl 1 rfl) ?_
      refine lv_icmp_ne (tgt := 217) hx hb dL_does_210 (by decide) (fun c68 => ?_) (fun c68 => ?_)
      · replace hw := hw.2 c68
        refine lv_iconst (v := 0) hx hb dL_does_217 (by decide) ?_
        exact r_z false C hd dL_does_218 χ183 rfl hw
      · replace hw := hw.1 c68
        refine lv_iconst (v := 1) hx hb dL_does_213 (by decide) ?_
        refine lv_goto (tgt := 218) hx hb dL_does_214 (by decide) ?_
        exact r_z true C hd dL_does_218 χ183 rfl hw
  have J119 : ∀ (χ93 : XS) (r93 : Int32) (v119s1 : Int32) (H : Heap) (locs : List Loc) (ls : Array Slot), Wd B A s.heap (wX3 k ad χ93) H locs → lv_has ls 11 [] → wpL_does_J119 χ93 r93 post v119s1 → W p l e rm_L_does s m args below meth c H locs 0 0 (Qi below args s B A (fun u => wX3 k ad u) (bpost post) 0 0) (F0 m 119 ls [.int v119s1, .int r93]) := by
    intro χ93 r93 v119s1 H locs ls hd hl hw
    rw [wpL_does_J119] at hw
    refine lv_icmp_ne (tgt := 126) hx hb dL_does_119 (by decide) (fun c69 => ?_) (fun c69 => ?_)
    · replace hw := hw.2 c69
      refine lv_iconst (v := 0) hx hb dL_does_126 (by decide) ?_
      exact r_z false C hd dL_does_127 χ93 rfl hw
    · replace hw := hw.1 c69
      refine lv_iconst (v := 1) hx hb dL_does_122 (by decide) ?_
      refine lv_goto (tgt := 127) hx hb dL_does_123 (by decide) ?_
      exact r_z true C hd dL_does_127 χ93 rfl hw
  have J88 : ∀ (r49 : Int32) (r57 : Int32) (v88s0 : Bool) (H : Heap) (locs : List Loc) (ls : Array Slot), Wd B A s.heap (wX3 k ad χ) H locs → lv_has ls 11 [(0, .ref (ad 9 0)), (5, .int r49), (6, .int r57)] → wpL_does_J88 χ r49 r57 post v88s0 → W p l e rm_L_does s m args below meth c H locs 0 0 (Qi below args s B A (fun u => wX3 k ad u) (bpost post) 0 0) (F0 m 88 ls [.int (bi v88s0)]) := by
    intro r49 r57 v88s0 H locs ls hd hl hw
    rw [wpL_does_J88] at hw
    refine lv_istore (lv' := [(7, .int (bi v88s0)), (0, .ref (ad 9 0)), (5, .int r49), (6, .int r57)]) hx hb dL_does_88 hl (by decide) rfl (fun ls hl => ?_)
    refine lv_aload_n hx hb dL_does_90 rfl (lv_at hl 1 rfl) ?_
    refine lv_iload hx hb dL_does_91 (lv_at hl 2 rfl) ?_
    refine v_i C hd hl M_X3_test gL_does_X3_test (c_X3_test l B k ad χ r49 _ hw) ⟨rfl, rfl⟩ ⟨Nat.le_of_ble_eq_true rfl, Nat.le_of_ble_eq_true rfl⟩ (pm_all _) (fun u => wX3 k ad u) (fun _ => (pm_all _).symm) 0 3 rfl rfl rfl rfl rfl (Nat.le_of_ble_eq_true rfl) dL_does_93 ⟨Nat.le_of_ble_eq_true rfl, Nat.le_of_ble_eq_true rfl⟩ (fun r93 χ93 H locs hw hd => ?_)
    refine lv_istore (lv' := [(8, .int r93), (7, .int (bi v88s0)), (0, .ref (ad 9 0)), (5, .int r49), (6, .int r57)]) hx hb dL_does_96 hl (by decide) rfl (fun ls hl => ?_)
    refine lv_iload hx hb dL_does_98 (lv_at hl 0 rfl) ?_
    refine lv_iload hx hb dL_does_100 (lv_at hl 1 rfl) ?_
    refine lv_if_eq (tgt := 110) hx hb dL_does_102 (by decide) (fun c70 => ?_) (fun c70 => ?_)
    · replace hw := hw.2 ((bi_eq _).mp c70)
      refine lv_aload_n hx hb dL_does_110 rfl (lv_at hl 2 rfl) ?_
      refine lv_bipush (v := 8) hx hb dL_does_111 (by decide) ?_
      refine v_i C hd hl M_X3_count gL_does_X3_count (c_X3_count l B k ad χ93 8 _ hw) ⟨rfl, rfl⟩ ⟨Nat.le_of_ble_eq_true rfl, Nat.le_of_ble_eq_true rfl⟩ (pm_all _) (fun _ => wX3 k ad χ93) (fun _ => (pm_all _).symm) 0 3 rfl rfl rfl rfl rfl (Nat.le_of_ble_eq_true rfl) dL_does_113 ⟨Nat.le_of_ble_eq_true rfl, Nat.le_of_ble_eq_true rfl⟩ (fun r113 _ H locs hw hd => ?_)
      refine lv_iload hx hb dL_does_116 (lv_at hl 4 rfl) ?_
      refine lv_isub hx hb dL_does_118 ?_
      exact J119 χ93 r93 (r113 - r57) _ _ _ hd (lv_sub hl [] rfl) hw
    · replace hw := hw.1 ((bi_ne _).mp c70)
      refine lv_bipush (v := (-5)) hx hb dL_does_105 (by decide) ?_
      refine lv_goto (tgt := 119) hx hb dL_does_107 (by decide) ?_
      exact J119 χ93 r93 (-5) _ _ _ hd (lv_sub hl [] rfl) hw
  rw [wpL_does] at hw
  refine lv_iload_n hx hb dL_does_0 rfl (lv_at hl 2 rfl) ?_
  refine lv_bipush (v := 64) hx hb dL_does_1 (by decide) ?_
  refine s_i C hd hl M_L_low gL_does_L_low rfl (c_L_low l B k p2 64 _ hw) ⟨rfl, rfl⟩ ⟨Nat.le_of_ble_eq_true rfl, Nat.le_of_ble_eq_true rfl⟩ (pm_non _) (fun _ => wX3 k ad χ) (fun _ => List.Perm.refl _) rfl rfl (Nat.le_of_ble_eq_true rfl) dL_does_3 ⟨Nat.le_of_ble_eq_true rfl, Nat.le_of_ble_eq_true rfl⟩ (fun r3 _ H locs hw hd => ?_)
  refine lv_istore (lv' := [(4, .int r3), (0, .ref (ad 9 0)), (1, .int p1), (2, .int p2), (3, .int p3)]) hx hb dL_does_6 hl (by decide) rfl (fun ls hl => ?_)
  refine lv_iload_n hx hb dL_does_8 rfl (lv_at hl 2 rfl) ?_
  refine lv_iconst (v := 4) hx hb dL_does_9 (by decide) ?_
  refine lv_icmp_ge (tgt := 21) hx hb dL_does_10 (by decide) (fun c71 => ?_) (fun c71 => ?_)
  · replace hw := hw.1 c71
    refine lv_iload_n hx hb dL_does_21 rfl (lv_at hl 2 rfl) ?_
    refine lv_bipush (v := 7) hx hb dL_does_22 (by decide) ?_
    refine lv_icmp_ge (tgt := 41) hx hb dL_does_24 (by decide) (fun c72 => ?_) (fun c72 => ?_)
    · replace hw := hw.1 c72
      refine lv_iload_n hx hb dL_does_41 rfl (lv_at hl 2 rfl) ?_
      refine lv_bipush (v := 7) hx hb dL_does_42 (by decide) ?_
      refine lv_icmp_ne (tgt := 128) hx hb dL_does_44 (by decide) (fun c73 => ?_) (fun c73 => ?_)
      · replace hw := hw.2 c73
        refine lv_iload_n hx hb dL_does_128 rfl (lv_at hl 2 rfl) ?_
        refine lv_bipush (v := 8) hx hb dL_does_129 (by decide) ?_
        refine lv_icmp_ne (tgt := 141) hx hb dL_does_131 (by decide) (fun c74 => ?_) (fun c74 => ?_)
        · replace hw := hw.2 c74
          refine lv_iload_n hx hb dL_does_141 rfl (lv_at hl 2 rfl) ?_
          refine lv_bipush (v := 9) hx hb dL_does_142 (by decide) ?_
          refine lv_icmp_ne (tgt := 157) hx hb dL_does_144 (by decide) (fun c75 => ?_) (fun c75 => ?_)
          · replace hw := hw.2 c75
            refine lv_iload_n hx hb dL_does_157 rfl (lv_at hl 2 rfl) ?_
            refine lv_bipush (v := 10) hx hb dL_does_158 (by decide) ?_
            refine lv_icmp_ne (tgt := 219) hx hb dL_does_160 (by decide) (fun c76 => ?_) (fun c76 => ?_)
            · replace hw := hw.2 c76
              refine lv_iconst (v := 1) hx hb dL_does_219 (by decide) ?_
              refine lv_iload_n hx hb dL_does_220 rfl (lv_at hl 4 rfl) ?_
              refine lv_bipush (v := 6) hx hb dL_does_221 (by decide) ?_
              refine lv_ishr hx hb dL_does_223 ?_
              refine lv_bipush (v := 16) hx hb dL_does_224 (by decide) ?_
              refine s_i C hd hl M_L_low gL_does_L_low rfl (c_L_low l B k (p3 >>> (6 &&& 31)) 16 _ hw) ⟨rfl, rfl⟩ ⟨Nat.le_of_ble_eq_true rfl, Nat.le_of_ble_eq_true rfl⟩ (pm_non _) (fun _ => wX3 k ad χ) (fun _ => List.Perm.refl _) rfl rfl (Nat.le_of_ble_eq_true rfl) dL_does_226 ⟨Nat.le_of_ble_eq_true rfl, Nat.le_of_ble_eq_true rfl⟩ (fun r226 _ H locs hw hd => ?_)
              refine lv_iadd hx hb dL_does_229 ?_
              refine lv_istore (lv' := [(5, .int (1 + r226)), (4, .int r3), (0, .ref (ad 9 0)), (1, .int p1), (2, .int p2), (3, .int p3)]) hx hb dL_does_230 hl (by decide) rfl (fun ls hl => ?_)
              refine lv_iload_n hx hb dL_does_232 rfl (lv_at hl 5 rfl) ?_
              refine lv_bipush (v := 64) hx hb dL_does_233 (by decide) ?_
              refine s_i C hd hl M_L_low gL_does_L_low rfl (c_L_low l B k p3 64 _ hw) ⟨rfl, rfl⟩ ⟨Nat.le_of_ble_eq_true rfl, Nat.le_of_ble_eq_true rfl⟩ (pm_non _) (fun _ => wX3 k ad χ) (fun _ => List.Perm.refl _) rfl rfl (Nat.le_of_ble_eq_true rfl) dL_does_235 ⟨Nat.le_of_ble_eq_true rfl, Nat.le_of_ble_eq_true rfl⟩ (fun r235 _ H locs hw hd => ?_)
              refine lv_istore (lv' := [(6, .int r235), (5, .int (1 + r226)), (4, .int r3), (0, .ref (ad 9 0)), (1, .int p1), (2, .int p2), (3, .int p3)]) hx hb dL_does_238 hl (by decide) rfl (fun ls hl => ?_)
              refine lv_aload_n hx hb dL_does_240 rfl (lv_at hl 3 rfl) ?_
              refine lv_iload hx hb dL_does_241 (lv_at hl 2 rfl) ?_
              refine lv_iconst (v := 2) hx hb dL_does_243 (by decide) ?_
              refine v_i C hd hl M_X3_sector gL_does_X3_sector (c_X3_sector l B k ad χ r3 2 _ hw) ⟨rfl, rfl⟩ ⟨Nat.le_of_ble_eq_true rfl, Nat.le_of_ble_eq_true rfl⟩ (pm_all _) (fun _ => wX3 k ad χ) (fun _ => (pm_all _).symm) 0 3 rfl rfl rfl rfl rfl (Nat.le_of_ble_eq_true rfl) dL_does_244 ⟨Nat.le_of_ble_eq_true rfl, Nat.le_of_ble_eq_true rfl⟩ (fun r244 _ H locs hw hd => ?_)
              refine lv_if_ne (tgt := 264) hx hb dL_does_247 (by decide) (fun c77 => ?_) (fun c77 => ?_)
              · replace hw := hw.2 c77
                exact J264 r3 r226 r235 _ _ _ hd (lv_sub hl [3, 2, 1, 0] rfl) hw
              · replace hw := hw.1 c77
                refine lv_aload_n hx hb dL_does_250 rfl (lv_at hl 3 rfl) ?_
                refine lv_iload hx hb dL_does_251 (lv_at hl 0 rfl) ?_
                refine lv_iconst (v := 2) hx hb dL_does_253 (by decide) ?_
                refine v_i C hd hl M_X3_sector gL_does_X3_sector (c_X3_sector l B k ad χ r235 2 _ hw) ⟨rfl, rfl⟩ ⟨Nat.le_of_ble_eq_true rfl, Nat.le_of_ble_eq_true rfl⟩ (pm_all _) (fun _ => wX3 k ad χ) (fun _ => (pm_all _).symm) 0 3 rfl rfl rfl rfl rfl (Nat.le_of_ble_eq_true rfl) dL_does_254 ⟨Nat.le_of_ble_eq_true rfl, Nat.le_of_ble_eq_true rfl⟩ (fun r254 _ H locs hw hd => ?_)
                refine lv_if_ne (tgt := 264) hx hb dL_does_257 (by decide) (fun c78 => ?_) (fun c78 => ?_)
                · replace hw := hw.2 c78
                  exact J264 r3 r226 r235 _ _ _ hd (lv_sub hl [3, 2, 1, 0] rfl) hw
                · replace hw := hw.1 c78
                  refine lv_iconst (v := 1) hx hb dL_does_260 (by decide) ?_
                  refine lv_goto (tgt := 265) hx hb dL_does_261 (by decide) ?_
                  exact J265 r3 r226 r235 true _ _ _ hd (lv_sub hl [3, 2, 1, 0] rfl) hw
            · replace hw := hw.1 c76
              refine lv_iconst (v := 1) hx hb dL_does_163 (by decide) ?_
              refine lv_iload_n hx hb dL_does_164 rfl (lv_at hl 4 rfl) ?_
              refine lv_bipush (v := 40) hx hb dL_does_165 (by decide) ?_
              refine s_i C hd hl M_L_low gL_does_L_low rfl (c_L_low l B k p3 40 _ hw) ⟨rfl, rfl⟩ ⟨Nat.le_of_ble_eq_true rfl, Nat.le_of_ble_eq_true rfl⟩ (pm_non _) (fun _ => wX3 k ad χ) (fun _ => List.Perm.refl _) rfl rfl (Nat.le_of_ble_eq_true rfl) dL_does_167 ⟨Nat.le_of_ble_eq_true rfl, Nat.le_of_ble_eq_true rfl⟩ (fun r167 _ H locs hw hd => ?_)
              refine lv_iadd hx hb dL_does_170 ?_
              refine lv_istore (lv' := [(5, .int (1 + r167)), (4, .int r3), (0, .ref (ad 9 0)), (1, .int p1), (2, .int p2), (3, .int p3)]) hx hb dL_does_171 hl (by decide) rfl (fun ls hl => ?_)
              refine lv_aload_n hx hb dL_does_173 rfl (lv_at hl 2 rfl) ?_
              refine lv_iconst (v := 0) hx hb dL_does_174 (by decide) ?_
              refine v_i C hd hl M_X3_count gL_does_X3_count (c_X3_count l B k ad χ 0 _ hw) ⟨rfl, rfl⟩ ⟨Nat.le_of_ble_eq_true rfl, Nat.le_of_ble_eq_true rfl⟩ (pm_all _) (fun _ => wX3 k ad χ) (fun _ => (pm_all _).symm) 0 3 rfl rfl rfl rfl rfl (Nat.le_of_ble_eq_true rfl) dL_does_175 ⟨Nat.le_of_ble_eq_true rfl, Nat.le_of_ble_eq_true rfl⟩ (fun r175 _ H locs hw hd => ?_)
              refine lv_istore (lv' := [(6, .int r175), (5, .int (1 + r167)), (4, .int r3), (0, .ref (ad 9 0)), (1, .int p1), (2, .int p2), (3, .int p3)]) hx hb dL_does_178 hl (by decide) rfl (fun ls hl => ?_)
              refine lv_aload_n hx hb dL_does_180 rfl (lv_at hl 3 rfl) ?_
              refine lv_iload hx hb dL_does_181 (lv_at hl 1 rfl) ?_
              refine v_i C hd hl M_X3_setLimit gL_does_X3_setLimit (c_X3_setLimit l B k ad χ (1 + r167) _ hw) ⟨rfl, rfl⟩ ⟨Nat.le_of_ble_eq_true rfl, Nat.le_of_ble_eq_true rfl⟩ (pm_all _) (fun u => wX3 k ad u) (fun _ => (pm_all _).symm) 0 3 rfl rfl rfl rfl rfl (Nat.le_of_ble_eq_true rfl) dL_does_183 ⟨Nat.le_of_ble_eq_true rfl, Nat.le_of_ble_eq_true rfl⟩ (fun r183 χ183 H locs hw hd => ?_)
              refine lv_iload hx hb dL_does_186 (lv_at hl 0 rfl) ?_
              refine lv_iload hx hb dL_does_188 (lv_at hl 1 rfl) ?_
              refine lv_icmp_ne (tgt := 198) hx hb dL_does_190 (by decide) (fun c79 => ?_) (fun c79 => ?_)
              · replace hw := hw.2 c79
                refine lv_iload hx hb dL_does_198 (lv_at hl 0 rfl) ?_
                exact J200 r167 χ183 r183 r175 _ _ _ hd (lv_sub hl [3, 1] rfl) hw
              · replace hw := hw.1 c79
                refine lv_bipush (v := (-5)) hx hb dL_does_193 (by decide) ?_
                refine lv_goto (tgt := 200) hx hb dL_does_195 (by decide) ?_
                exact J200 r167 χ183 r183 (-5) _ _ _ hd (lv_sub hl [3, 1] rfl) hw
          · replace hw := hw.1 c75
            refine lv_aload_n hx hb dL_does_147 rfl (lv_at hl 1 rfl) ?_
            refine lv_iload_n hx hb dL_does_148 rfl (lv_at hl 3 rfl) ?_
            refine lv_iconst (v := 4) hx hb dL_does_149 (by decide) ?_
            refine s_i C hd hl M_L_low gL_does_L_low rfl (c_L_low l B k p2 4 _ hw) ⟨rfl, rfl⟩ ⟨Nat.le_of_ble_eq_true rfl, Nat.le_of_ble_eq_true rfl⟩ (pm_non _) (fun _ => wX3 k ad χ) (fun _ => List.Perm.refl _) rfl rfl (Nat.le_of_ble_eq_true rfl) dL_does_150 ⟨Nat.le_of_ble_eq_true rfl, Nat.le_of_ble_eq_true rfl⟩ (fun r150 _ H locs hw hd => ?_)
            refine s_i C hd hl M_L_drops gL_does_L_drops rfl (c_L_drops l B k ad χ r150 _ hw) ⟨rfl, rfl⟩ ⟨Nat.le_of_ble_eq_true rfl, Nat.le_of_ble_eq_true rfl⟩ (pm_all _) (fun u => wX3 k ad u) (fun _ => (pm_all _).symm) rfl rfl (Nat.le_of_ble_eq_true rfl) dL_does_153 ⟨Nat.le_of_ble_eq_true rfl, Nat.le_of_ble_eq_true rfl⟩ (fun r χ153 H locs hp hd => ?_)
            obtain ⟨b153, rfl, hw⟩ := hp
            exact r_z b153 C hd dL_does_156 χ153 rfl hw
        · replace hw := hw.1 c74
          refine lv_aload_n hx hb dL_does_134 rfl (lv_at hl 1 rfl) ?_
          refine lv_iload hx hb dL_does_135 (lv_at hl 0 rfl) ?_
          refine s_i C hd hl M_L_gives gL_does_L_gives rfl (c_L_gives l B k ad χ r3 _ hw) ⟨rfl, rfl⟩ ⟨Nat.le_of_ble_eq_true rfl, Nat.le_of_ble_eq_true rfl⟩ (pm_all _) (fun u => wX3 k ad u) (fun _ => (pm_all _).symm) rfl rfl (Nat.le_of_ble_eq_true rfl) dL_does_137 ⟨Nat.le_of_ble_eq_true rfl, Nat.le_of_ble_eq_true rfl⟩ (fun r χ137 H locs hp hd => ?_)
          obtain ⟨b137, rfl, hw⟩ := hp
          exact r_z b137 C hd dL_does_140 χ137 rfl hw
      · replace hw := hw.1 c73
        refine lv_iload_n hx hb dL_does_47 rfl (lv_at hl 3 rfl) ?_
        refine lv_iconst (v := 4) hx hb dL_does_48 (by decide) ?_
        refine s_i C hd hl M_L_low gL_does_L_low rfl (c_L_low l B k p2 4 _ hw) ⟨rfl, rfl⟩ ⟨Nat.le_of_ble_eq_true rfl, Nat.le_of_ble_eq_true rfl⟩ (pm_non _) (fun _ => wX3 k ad χ) (fun _ => List.Perm.refl _) rfl rfl (Nat.le_of_ble_eq_true rfl) dL_does_49 ⟨Nat.le_of_ble_eq_true rfl, Nat.le_of_ble_eq_true rfl⟩ (fun r49 _ H locs hw hd => ?_)
        refine lv_istore (lv' := [(5, .int r49), (4, .int r3), (0, .ref (ad 9 0)), (1, .int p1), (2, .int p2), (3, .int p3)]) hx hb dL_does_52 hl (by decide) rfl (fun ls hl => ?_)
        refine lv_aload_n hx hb dL_does_54 rfl (lv_at hl 2 rfl) ?_
        refine lv_bipush (v := 8) hx hb dL_does_55 (by decide) ?_
        refine v_i C hd hl M_X3_count gL_does_X3_count (c_X3_count l B k ad χ 8 _ hw) ⟨rfl, rfl⟩ ⟨Nat.le_of_ble_eq_true rfl, Nat.le_of_ble_eq_true rfl⟩ (pm_all _) (fun _ => wX3 k ad χ) (fun _ => (pm_all _).symm) 0 3 rfl rfl rfl rfl rfl (Nat.le_of_ble_eq_true rfl) dL_does_57 ⟨Nat.le_of_ble_eq_true rfl, Nat.le_of_ble_eq_true rfl⟩ (fun r57 _ H locs hw hd => ?_)
        refine lv_istore (lv' := [(6, .int r57), (5, .int r49), (4, .int r3), (0, .ref (ad 9 0)), (1, .int p1), (2, .int p2), (3, .int p3)]) hx hb dL_does_60 hl (by decide) rfl (fun ls hl => ?_)
        refine lv_aload_n hx hb dL_does_62 rfl (lv_at hl 3 rfl) ?_
        refine lv_iload hx hb dL_does_63 (lv_at hl 1 rfl) ?_
        refine lv_bipush (v := 6) hx hb dL_does_65 (by decide) ?_
        refine v_i C hd hl M_X3_head gL_does_X3_head (c_X3_head l B k ad χ r49 6 _ hw) ⟨rfl, rfl⟩ ⟨Nat.le_of_ble_eq_true rfl, Nat.le_of_ble_eq_true rfl⟩ (pm_all _) (fun _ => wX3 k ad χ) (fun _ => (pm_all _).symm) 0 3 rfl rfl rfl rfl rfl (Nat.le_of_ble_eq_true rfl) dL_does_67 ⟨Nat.le_of_ble_eq_true rfl, Nat.le_of_ble_eq_true rfl⟩ (fun r67 _ H locs hw hd => ?_)
        refine lv_bipush (v := 16) hx hb dL_does_70 (by decide) ?_
        refine lv_aload_n hx hb dL_does_72 rfl (lv_at hl 3 rfl) ?_
        refine lv_iload hx hb dL_does_73 (lv_at hl 1 rfl) ?_
        refine lv_iconst (v := 1) hx hb dL_does_75 (by decide) ?_
        refine v_i C hd hl M_X3_head gL_does_X3_head (c_X3_head l B k ad χ r49 1 _ hw) ⟨rfl, rfl⟩ ⟨Nat.le_of_ble_eq_true rfl, Nat.le_of_ble_eq_true rfl⟩ (pm_all _) (fun _ => wX3 k ad χ) (fun _ => (pm_all _).symm) 0 3 rfl rfl rfl rfl rfl (Nat.le_of_ble_eq_true rfl) dL_does_76 ⟨Nat.le_of_ble_eq_true rfl, Nat.le_of_ble_eq_true rfl⟩ (fun r76 _ H locs hw hd => ?_)
        refine lv_isub hx hb dL_does_79 ?_
        refine lv_icmp_ne (tgt := 87) hx hb dL_does_80 (by decide) (fun c80 => ?_) (fun c80 => ?_)
        · replace hw := hw.2 c80
          refine lv_iconst (v := 0) hx hb dL_does_87 (by decide) ?_
          exact J88 r49 r57 false _ _ _ hd (lv_sub hl [3, 1, 0] rfl) hw
        · replace hw := hw.1 c80
          refine lv_iconst (v := 1) hx hb dL_does_83 (by decide) ?_
          refine lv_goto (tgt := 88) hx hb dL_does_84 (by decide) ?_
          exact J88 r49 r57 true _ _ _ hd (lv_sub hl [3, 1, 0] rfl) hw
    · replace hw := hw.2 c72
      refine lv_aload_n hx hb dL_does_27 rfl (lv_at hl 1 rfl) ?_
      refine lv_iload hx hb dL_does_28 (lv_at hl 0 rfl) ?_
      refine lv_iload_n hx hb dL_does_30 rfl (lv_at hl 4 rfl) ?_
      refine lv_sipush (v := 1000) hx hb dL_does_31 (by decide) ?_
      refine s_i C hd hl M_L_low gL_does_L_low rfl (c_L_low l B k p3 1000 _ hw) ⟨rfl, rfl⟩ ⟨Nat.le_of_ble_eq_true rfl, Nat.le_of_ble_eq_true rfl⟩ (pm_non _) (fun _ => wX3 k ad χ) (fun _ => List.Perm.refl _) rfl rfl (Nat.le_of_ble_eq_true rfl) dL_does_34 ⟨Nat.le_of_ble_eq_true rfl, Nat.le_of_ble_eq_true rfl⟩ (fun r34 _ H locs hw hd => ?_)
      refine s_i C hd hl M_L_writes gL_does_L_writes rfl (c_L_writes l B k ad χ r3 r34 _ hw) ⟨rfl, rfl⟩ ⟨Nat.le_of_ble_eq_true rfl, Nat.le_of_ble_eq_true rfl⟩ (pm_all _) (fun u => wX3 k ad u) (fun _ => (pm_all _).symm) rfl rfl (Nat.le_of_ble_eq_true rfl) dL_does_37 ⟨Nat.le_of_ble_eq_true rfl, Nat.le_of_ble_eq_true rfl⟩ (fun r χ37 H locs hp hd => ?_)
      obtain ⟨b37, rfl, hw⟩ := hp
      exact r_z b37 C hd dL_does_40 χ37 rfl hw
  · replace hw := hw.2 c71
    refine lv_aload_n hx hb dL_does_13 rfl (lv_at hl 1 rfl) ?_
    refine lv_iload hx hb dL_does_14 (lv_at hl 0 rfl) ?_
    refine lv_iload_n hx hb dL_does_16 rfl (lv_at hl 4 rfl) ?_
    refine s_i C hd hl M_L_reads gL_does_L_reads rfl (c_L_reads l B k ad χ r3 p3 _ hw) ⟨rfl, rfl⟩ ⟨Nat.le_of_ble_eq_true rfl, Nat.le_of_ble_eq_true rfl⟩ (pm_all _) (fun u => wX3 k ad u) (fun _ => (pm_all _).symm) rfl rfl (Nat.le_of_ble_eq_true rfl) dL_does_17 ⟨Nat.le_of_ble_eq_true rfl, Nat.le_of_ble_eq_true rfl⟩ (fun r χ17 H locs hp hd => ?_)
    obtain ⟨b17, rfl, hw⟩ := hp
    exact r_z b17 C hd dL_does_20 χ17 rfl hw
