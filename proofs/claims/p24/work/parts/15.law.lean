/-! THE CLAIM OUT OF ONE WALK OF THE LAW'S BODY. Your part is whole_start (and what it stands on); all else here is the same for every law, but numbers. -/
def R_law : String := "LentSectorsLaw"
def lw_P (b : Addr) (xs : List Int32) (args : Array Value) (s : State) : Prop := args = #[.ref b] ∧ s.IntsAt b xs ∧ xs.length ≤ 260 ∧ (Jvm.Cond.and given_1 narrow_1).before args s = true
def lw_Q (_ : Array Value) (s : State) (o : Outcome) (t : State) : Prop := o = .returned (some (.int 1)) ∧ Framed s o t [] 600000 7302250
def lw_Z (below : List Frame) (a : Array Value) (s : State) : State → Prop := fun t => ∃ o, t.status = .running ∧ Ended t below o ∧ lw_Q a s o t
/-- the law's own end, with 1 on the stack, nothing written that was there before, its room as the claim has it -/
theorem lw_ret {p : Program} {l : Launch} {e : Env} {s : State} {m : MethodId} {below : List Frame} {meth : Method} {c : Code} {b : Nat} (hx : p.tables.exec = Jvm.exec) (hb : c.code = code) (hr : meth.sig.returnType = ret) (hlocks : meth.locks = false) {pc : Nat} {H : Heap} {ls : Array Slot} (hdg : decode code pc = .ok (.ireturn, 1)) : W p l e room_1 s m #[Value.ref b] below meth c H [] 600000 7302250 (lw_Z below #[Value.ref b] s) (F0 m pc ls [.int 1]) := by
  intro T hT X
  obtain ⟨fs, hret, hrun, hended, hW, hframe⟩ := X.leave (v := some (.int 1)) (hlocks := hlocks) (fun h => by rw [hr] at h; cases h)
  have hmeth' : T.vm.method? m = some meth := X.method'
  refine ⟨T.setFrames fs, ?_, .returned (some (.int 1)), hrun, hended, rfl, ⟨_, rfl⟩, hW, hframe⟩
  jvm_step X.here [X.here.top, hx, hb, hdg, hmeth', hr, ret, narrow_b1]
  (try refine ⟨rfl, ?_⟩); (try refine ⟨rfl, ?_⟩)
  first | (intro acts; rw [hret _ acts rfl rfl rfl]) | rw [hret _ _ rfl rfl rfl]
  exact Steps.refl _
/-- what holds at the law's entry: the machine, the code, the tables' words (any of lw_tbl by 'hts w (by decide +kernel)'), the script of L ints xs at the cell b, what the Statement gives of the start (any of its parts by flat_of_before) -/
def lw_At (p : Program) (s : State) (m : MethodId) (meth : Method) (c : Code) (b L : Nat) (xs : Nat → Int32) : Prop :=
  p.tables.exec = Jvm.exec ∧ c.code = code ∧ meth.sig.returnType = ret ∧ c.maxLocals = 10 ∧ s.vm.findClass R_law = some m.cls ∧ (∀ w ∈ lw_tbl, w.before #[Value.ref b] s = true) ∧ va_X b L xs s s.heap ∧ b < s.heap.size ∧ meth.locks = false ∧ (Jvm.Cond.and given_1 narrow_1).before #[Value.ref b] s = true
theorem nWs_in : ∀ w ∈ nWs, w ∈ lw_tbl := by decide +kernel
def wpL_law_J190 (v112l2 : Int32) (χ112 : XS) (r124 : Int32) (r132 : Int32) (r143 : Int32) (r151 : Int32) (v175s0 : Bool) (post : Bool → Prop) (κ112 : Int32 → XS → Prop) (v190s0 : Int64) : Prop := wpL_does χ112 r143 r124 r132 (fun b198 χ198 => ((b198 = true → wpL_sectors χ198 (fun b205 => ((b205 = true → wpL_addresses χ198 (fun b212 => ((b212 = true → wpL_worst χ198 3 (fun b220 => ((b220 = true → ((v175s0 = true → wpX3_count χ198 12 (fun r236 => ((r236 = r151 → κ112 (v112l2 + 1) χ198) ∧ (¬ r236 = r151 → wpX3_undo χ198 (fun r245 χ245 => ((r245 = r151 → wpL_digest χ245 (fun r254 => (((lg_cmp r254 v190s0) = 0 → κ112 (v112l2 + 1) χ245) ∧ (¬ (lg_cmp r254 v190s0) = 0 → post false)))) ∧ (¬ r245 = r151 → post false))))))) ∧ (v175s0 = false → κ112 (v112l2 + 1) χ198))) ∧ (b220 = false → post false)))) ∧ (b212 = false → post false)))) ∧ (b205 = false → post false)))) ∧ (b198 = false → post false)))
def wpL_law_J175 (v112l2 : Int32) (χ112 : XS) (r124 : Int32) (r132 : Int32) (r143 : Int32) (r151 : Int32) (post : Bool → Prop) (κ112 : Int32 → XS → Prop) (v175s0 : Bool) : Prop := ((v175s0 = true → wpL_digest χ112 (fun r183 => wpL_law_J190 v112l2 χ112 r124 r132 r143 r151 v175s0 post κ112 r183)) ∧ (v175s0 = false → wpL_law_J190 v112l2 χ112 r124 r132 r143 r151 v175s0 post κ112 0))
def wpL_law_J174 (v112l2 : Int32) (χ112 : XS) (r124 : Int32) (r132 : Int32) (r143 : Int32) (r151 : Int32) (post : Bool → Prop) (κ112 : Int32 → XS → Prop)  : Prop := wpL_law_J175 v112l2 χ112 r124 r132 r143 r151 post κ112 false
def wpL_law_L112 (L : Nat) (xs : Nat → Int32) (post : Bool → Prop) : Nat → Int32 → XS → Prop
  | 0, _, _ => False
  | n112 + 1, v112l2, χ112 => ((22 ≤ v112l2 → post true) ∧ (¬ 22 ≤ v112l2 → wpL_cell L xs ((2 * v112l2) - 1) (fun r124 => wpL_cell L xs (2 * v112l2) (fun r132 => wpL_low (r124 >>> (12 &&& 31)) 12 (fun r143 => wpX3_count χ112 12 (fun r151 => (((r132 &&& 196608) = 0 → ((4 ≤ r151 → wpL_law_J174 v112l2 χ112 r124 r132 r143 r151 post (wpL_law_L112 L xs post n112) ) ∧ (¬ 4 ≤ r151 → wpL_law_J175 v112l2 χ112 r124 r132 r143 r151 post (wpL_law_L112 L xs post n112) true))) ∧ (¬ (r132 &&& 196608) = 0 → wpL_law_J174 v112l2 χ112 r124 r132 r143 r151 post (wpL_law_L112 L xs post n112) ))))))))
def wpL_law (L : Nat) (xs : Nat → Int32) (χ : XS) (post : Bool → Prop) : Prop := wpX3_undo χ (fun r9 χ9 => ((r9 = (-5) → wpX3_restore χ9 (fun r18 χ18 => ((r18 = (-5) → wpX3_perform χ18 (fun r27 χ27 => ((r27 = (-100) → wpX3_count χ27 4 (fun r37 => ((r37 = 16 → wpX3_address χ27 12 0 (fun r49 => ((r49 = (-1) → wpX3_worst χ27 (-1) (fun r58 => ((r58 = (-2) → wpX3_worst χ27 48 (fun r69 => ((r69 = (-5) → wpX3_head χ27 4 0 (fun r80 => ((r80 = (-1) → wpL_cell L xs 0 (fun r91 => wpL_low r91 9 (fun r96 => wpX3_setLimit χ27 (3 + r96) (fun r100 χ100 => ((r100 = 30 → ∃ n112 : Nat, wpL_law_L112 L xs post n112 1 χ100) ∧ (¬ r100 = 30 → post false)))))) ∧ (¬ r80 = (-1) → post false)))) ∧ (¬ r69 = (-5) → post false)))) ∧ (¬ r58 = (-2) → post false)))) ∧ (¬ r49 = (-1) → post false)))) ∧ (¬ r37 = 16 → post false)))) ∧ (¬ r27 = (-100) → post false)))) ∧ (¬ r18 = (-5) → post false)))) ∧ (¬ r9 = (-5) → post false)))
set_option maxHeartbeats 4000000 in
set_option maxRecDepth 100000 in
theorem law_walk {p : Program} {l : Launch} {e : Env} {s : State} {m : MethodId} {below : List Frame} {meth : Method} {c : Code} {B : va_G} {k : KT} {b L : Nat} {xs : Nat → Int32} {nm : String} (hL : L ≤ 260) (C : Cx p s m #[Value.ref b] meth c code 10 wsL_law RL nm ret B k (fun q : Nat => s.heap.size ≤ q)) (hX : va_X b L xs s s.heap) (hbl : b < s.heap.size) (ad : Nat → Nat → Nat) (χ : XS) (post : Bool → Prop) (hpost : post false → False) (H : Heap) (locs : List Loc) (ls : Array Slot) (hd : Wd B (fun q : Nat => s.heap.size ≤ q) s.heap (wX3 k ad χ) H locs) (hl : lv_has ls 10 [(0, .ref b), (1, .ref (ad 9 0))]) (hw : wpL_law L xs χ post) : W p l e room_1 s m #[Value.ref b] below meth c H locs 70 2548 (lw_Z below #[Value.ref b] s) (F0 m 8 ls []) := by
  have hx := C.1; have hb := C.2.1; have hml := C.2.2.1; have hts := C.2.2.2.2.1; have hlocks := C.2.2.2.2.2.2.1; have hr := C.2.2.2.2.2.1
  have hbA : ¬ (fun q : Nat => s.heap.size ≤ q) b := Nat.not_le.mpr hbl
  have L112 : ∀ (n112 : Nat), ∀ (v112l2 : Int32) (χ112 : XS) (H : Heap) (locs : List Loc) (ls : Array Slot), Wd B (fun q : Nat => s.heap.size ≤ q) s.heap (wX3 k ad χ112) H locs → lv_has ls 10 [(0, .ref b), (1, .ref (ad 9 0)), (2, .int v112l2)] → wpL_law_L112 L xs post n112 v112l2 χ112 → W p l e room_1 s m #[Value.ref b] below meth c H locs 70 2548 (lw_Z below #[Value.ref b] s) (F0 m 112 ls []) := by
    intro n112
    induction n112 with
    | zero => intro v112l2 χ112 H locs ls hd hl hw; exact absurd hw (by simp [wpL_law_L112])
    | succ n112 ih112 =>
      intro v112l2 χ112 H locs ls hd hl hw
      rw [wpL_law_L112] at hw
      have J190 : ∀ (v112l2 : Int32) (χ112 : XS) (r124 : Int32) (r132 : Int32) (r143 : Int32) (r151 : Int32) (v175s0 : Bool) (v190s0 : Int64) (H : Heap) (locs : List Loc) (ls : Array Slot), Wd B (fun q : Nat => s.heap.size ≤ q) s.heap (wX3 k ad χ112) H locs → lv_has ls 10 [(0, .ref b), (1, .ref (ad 9 0)), (2, .int v112l2), (3, .int r124), (4, .int r132), (5, .int r143), (6, .int r151), (7, .int (bi v175s0))] → wpL_law_J190 v112l2 χ112 r124 r132 r143 r151 v175s0 post (wpL_law_L112 L xs post n112) v190s0 → W p l e room_1 s m #[Value.ref b] below meth c H locs 70 2548 (lw_Z below #[Value.ref b] s) (F0 m 190 ls [.long v190s0]) := by
        intro v112l2 χ112 r124 r132 r143 r151 v175s0 v190s0 H locs ls hd hl hw
        rw [wpL_law_J190] at hw
        refine lv_lstore (lv' := [(8, .long v190s0), (0, .ref b), (1, .ref (ad 9 0)), (2, .int v112l2), (3, .int r124), (4, .int r132), (5, .int r143), (6, .int r151), (7, .int (bi v175s0))]) hx hb dL_law_190 hl (by decide) rfl (fun ls hl => ?_)
        refine lv_aload_n hx hb dL_law_192 rfl (lv_at hl 2 rfl) ?_
        refine lv_iload hx hb dL_law_193 (lv_at hl 6 rfl) ?_
        refine lv_iload_n hx hb dL_law_195 rfl (lv_at hl 4 rfl) ?_
        refine lv_iload hx hb dL_law_196 (lv_at hl 5 rfl) ?_
        refine s_i C hd hl M_L_does gL_law_L_does rfl (c_L_does l B k ad χ112 r143 r124 r132 _ hw) ⟨rfl, rfl⟩ ⟨Nat.le_of_ble_eq_true rfl, Nat.le_of_ble_eq_true rfl⟩ (pm_all _) (fun u => wX3 k ad u) (fun _ => (pm_all _).symm) rfl rfl (Nat.le_of_ble_eq_true rfl) dL_law_198 ⟨Nat.le_of_ble_eq_true rfl, Nat.le_of_ble_eq_true rfl⟩ (fun r χ198 H locs hp hd => ?_)
        obtain ⟨b198, rfl, hw⟩ := hp
        refine lv_if_eq (tgt := 226) hx hb dL_law_201 (by decide) (fun c65 => ?_) (fun c65 => ?_)
        · replace hw := hw.2 ((bi_eq _).mp c65)
          refine lv_iconst (v := 0) hx hb dL_law_226 (by decide) ?_
          exact (hpost hw).elim
        · replace hw := hw.1 ((bi_ne _).mp c65)
          refine lv_aload_n hx hb dL_law_204 rfl (lv_at hl 2 rfl) ?_
          refine s_i C hd hl M_L_sectors gL_law_L_sectors rfl (c_L_sectors l B k ad χ198 _ hw) ⟨rfl, rfl⟩ ⟨Nat.le_of_ble_eq_true rfl, Nat.le_of_ble_eq_true rfl⟩ (pm_all _) (fun _ => wX3 k ad χ198) (fun _ => (pm_all _).symm) rfl rfl (Nat.le_of_ble_eq_true rfl) dL_law_205 ⟨Nat.le_of_ble_eq_true rfl, Nat.le_of_ble_eq_true rfl⟩ (fun r _ H locs hp hd => ?_)
          obtain ⟨b205, rfl, hw⟩ := hp
          refine lv_if_eq (tgt := 226) hx hb dL_law_208 (by decide) (fun c64 => ?_) (fun c64 => ?_)
          · replace hw := hw.2 ((bi_eq _).mp c64)
            refine lv_iconst (v := 0) hx hb dL_law_226 (by decide) ?_
            exact (hpost hw).elim
          · replace hw := hw.1 ((bi_ne _).mp c64)
            refine lv_aload_n hx hb dL_law_211 rfl (lv_at hl 2 rfl) ?_
            refine s_i C hd hl M_L_addresses gL_law_L_addresses rfl (c_L_addresses l B k ad χ198 _ hw) ⟨rfl, rfl⟩ ⟨Nat.le_of_ble_eq_true rfl, Nat.le_of_ble_eq_true rfl⟩ (pm_all _) (fun _ => wX3 k ad χ198) (fun _ => (pm_all _).symm) rfl rfl (Nat.le_of_ble_eq_true rfl) dL_law_212 ⟨Nat.le_of_ble_eq_true rfl, Nat.le_of_ble_eq_true rfl⟩ (fun r _ H locs hp hd => ?_)
            obtain ⟨b212, rfl, hw⟩ := hp
            refine lv_if_eq (tgt := 226) hx hb dL_law_215 (by decide) (fun c63 => ?_) (fun c63 => ?_)
            · replace hw := hw.2 ((bi_eq _).mp c63)
              refine lv_iconst (v := 0) hx hb dL_law_226 (by decide) ?_
              exact (hpost hw).elim
            · replace hw := hw.1 ((bi_ne _).mp c63)
              refine lv_aload_n hx hb dL_law_218 rfl (lv_at hl 2 rfl) ?_
              refine lv_iconst (v := 3) hx hb dL_law_219 (by decide) ?_
              refine s_i C hd hl M_L_worst gL_law_L_worst rfl (c_L_worst l B k ad χ198 3 _ hw) ⟨rfl, rfl⟩ ⟨Nat.le_of_ble_eq_true rfl, Nat.le_of_ble_eq_true rfl⟩ (pm_all _) (fun _ => wX3 k ad χ198) (fun _ => (pm_all _).symm) rfl rfl (Nat.le_of_ble_eq_true rfl) dL_law_220 ⟨Nat.le_of_ble_eq_true rfl, Nat.le_of_ble_eq_true rfl⟩ (fun r _ H locs hp hd => ?_)
              obtain ⟨b220, rfl, hw⟩ := hp
              refine lv_if_ne (tgt := 228) hx hb dL_law_223 (by decide) (fun c62 => ?_) (fun c62 => ?_)
              · replace hw := hw.1 ((bi_ne _).mp c62)
                refine lv_iload hx hb dL_law_228 (lv_at hl 8 rfl) ?_
                refine lv_if_eq (tgt := 265) hx hb dL_law_230 (by decide) (fun c61 => ?_) (fun c61 => ?_)
                · replace hw := hw.2 ((bi_eq _).mp c61)
                  refine lv_iinc (v := v112l2 + 1) (lv' := [(2, .int (v112l2 + 1)), (8, .long v190s0), (0, .ref b), (1, .ref (ad 9 0)), (3, .int r124), (4, .int r132), (5, .int r143), (6, .int r151), (7, .int (bi v175s0))]) hx hb dL_law_265 hl (k := 3) rfl rfl (by decide) rfl (fun ls hl => ?_)
                  refine lv_goto (tgt := 112) hx hb dL_law_268 (by decide) ?_
                  exact ih112 (v112l2 + 1) χ198 _ _ _ hd (lv_sub hl [2, 3, 0] rfl) hw
                · replace hw := hw.1 ((bi_ne _).mp c61)
                  refine lv_aload_n hx hb dL_law_233 rfl (lv_at hl 2 rfl) ?_
                  refine lv_bipush (v := 12) hx hb dL_law_234 (by decide) ?_
                  refine v_i C hd hl M_X3_count gL_law_X3_count (c_X3_count l B k ad χ198 12 _ hw) ⟨rfl, rfl⟩ ⟨Nat.le_of_ble_eq_true rfl, Nat.le_of_ble_eq_true rfl⟩ (pm_all _) (fun _ => wX3 k ad χ198) (fun _ => (pm_all _).symm) 0 3 rfl rfl rfl rfl rfl (Nat.le_of_ble_eq_true rfl) dL_law_236 ⟨Nat.le_of_ble_eq_true rfl, Nat.le_of_ble_eq_true rfl⟩ (fun r236 _ H locs hw hd => ?_)
                  refine lv_iload hx hb dL_law_239 (lv_at hl 7 rfl) ?_
                  refine lv_icmp_eq (tgt := 265) hx hb dL_law_241 (by decide) (fun c58 => ?_) (fun c58 => ?_)
                  · replace hw := hw.1 c58
                    refine lv_iinc (v := v112l2 + 1) (lv' := [(2, .int (v112l2 + 1)), (8, .long v190s0), (0, .ref b), (1, .ref (ad 9 0)), (3, .int r124), (4, .int r132), (5, .int r143), (6, .int r151), (7, .int (bi v175s0))]) hx hb dL_law_265 hl (k := 3) rfl rfl (by decide) rfl (fun ls hl => ?_)
                    refine lv_goto (tgt := 112) hx hb dL_law_268 (by decide) ?_
                    exact ih112 (v112l2 + 1) χ198 _ _ _ hd (lv_sub hl [2, 3, 0] rfl) hw
                  · replace hw := hw.2 c58
                    refine lv_aload_n hx hb dL_law_244 rfl (lv_at hl 2 rfl) ?_
                    refine v_i C hd hl M_X3_undo gL_law_X3_undo (c_X3_undo l B k ad χ198 _ hw) ⟨rfl, rfl⟩ ⟨Nat.le_of_ble_eq_true rfl, Nat.le_of_ble_eq_true rfl⟩ (pm_all _) (fun u => wX3 k ad u) (fun _ => (pm_all _).symm) 0 3 rfl rfl rfl rfl rfl (Nat.le_of_ble_eq_true rfl) dL_law_245 ⟨Nat.le_of_ble_eq_true rfl, Nat.le_of_ble_eq_true rfl⟩ (fun r245 χ245 H locs hw hd => ?_)
                    refine lv_iload hx hb dL_law_248 (lv_at hl 7 rfl) ?_
                    refine lv_icmp_ne (tgt := 263) hx hb dL_law_250 (by decide) (fun c59 => ?_) (fun c59 => ?_)
                    · replace hw := hw.2 c59
                      refine lv_iconst (v := 0) hx hb dL_law_263 (by decide) ?_
                      exact (hpost hw).elim
                    · replace hw := hw.1 c59
                      refine lv_aload_n hx hb dL_law_253 rfl (lv_at hl 2 rfl) ?_
                      refine s_l C hd hl M_L_digest gL_law_L_digest rfl (c_L_digest l B k ad χ245 _ hw) ⟨rfl, rfl⟩ ⟨Nat.le_of_ble_eq_true rfl, Nat.le_of_ble_eq_true rfl⟩ (pm_all _) (fun _ => wX3 k ad χ245) (fun _ => (pm_all _).symm) rfl rfl (Nat.le_of_ble_eq_true rfl) dL_law_254 ⟨Nat.le_of_ble_eq_true rfl, Nat.le_of_ble_eq_true rfl⟩ (fun r254 _ H locs hw hd => ?_)
                      refine lv_lload hx hb dL_law_257 (lv_at hl 0 rfl) ?_
                      refine W.lcmp hx hb dL_law_259 ?_
                      refine lv_if_eq (tgt := 265) hx hb dL_law_260 (by decide) (fun c60 => ?_) (fun c60 => ?_)
                      · replace hw := hw.1 c60
                        refine lv_iinc (v := v112l2 + 1) (lv' := [(2, .int (v112l2 + 1)), (8, .long v190s0), (0, .ref b), (1, .ref (ad 9 0)), (3, .int r124), (4, .int r132), (5, .int r143), (6, .int r151), (7, .int (bi v175s0))]) hx hb dL_law_265 hl (k := 3) rfl rfl (by decide) rfl (fun ls hl => ?_)
                        refine lv_goto (tgt := 112) hx hb dL_law_268 (by decide) ?_
                        exact ih112 (v112l2 + 1) χ245 _ _ _ hd (lv_sub hl [2, 3, 0] rfl) hw
                      · replace hw := hw.2 c60
                        refine lv_iconst (v := 0) hx hb dL_law_263 (by decide) ?_
                        exact (hpost hw).elim
              · replace hw := hw.2 ((bi_eq _).mp c62)
                refine lv_iconst (v := 0) hx hb dL_law_226 (by decide) ?_
                exact (hpost hw).elim
      have J175 : ∀ (v112l2 : Int32) (χ112 : XS) (r124 : Int32) (r132 : Int32) (r143 : Int32) (r151 : Int32) (v175s0 : Bool) (H : Heap) (locs : List Loc) (ls : Array Slot), Wd B (fun q : Nat => s.heap.size ≤ q) s.heap (wX3 k ad χ112) H locs → lv_has ls 10 [(0, .ref b), (1, .ref (ad 9 0)), (2, .int v112l2), (3, .int r124), (4, .int r132), (5, .int r143), (6, .int r151)] → wpL_law_J175 v112l2 χ112 r124 r132 r143 r151 post (wpL_law_L112 L xs post n112) v175s0 → W p l e room_1 s m #[Value.ref b] below meth c H locs 70 2548 (lw_Z below #[Value.ref b] s) (F0 m 175 ls [.int (bi v175s0)]) := by
        intro v112l2 χ112 r124 r132 r143 r151 v175s0 H locs ls hd hl hw
        rw [wpL_law_J175] at hw
        refine lv_istore (lv' := [(7, .int (bi v175s0)), (0, .ref b), (1, .ref (ad 9 0)), (2, .int v112l2), (3, .int r124), (4, .int r132), (5, .int r143), (6, .int r151)]) hx hb dL_law_175 hl (by decide) rfl (fun ls hl => ?_)
        refine lv_iload hx hb dL_law_177 (lv_at hl 0 rfl) ?_
        refine lv_if_eq (tgt := 189) hx hb dL_law_179 (by decide) (fun c66 => ?_) (fun c66 => ?_)
        · replace hw := hw.2 ((bi_eq _).mp c66)
          refine lv_lconst (v := 0) hx hb dL_law_189 (by decide) ?_
          exact J190 v112l2 χ112 r124 r132 r143 r151 v175s0 0 _ _ _ hd (lv_sub hl [1, 2, 3, 4, 5, 6, 7, 0] rfl) hw
        · replace hw := hw.1 ((bi_ne _).mp c66)
          refine lv_aload_n hx hb dL_law_182 rfl (lv_at hl 2 rfl) ?_
          refine s_l C hd hl M_L_digest gL_law_L_digest rfl (c_L_digest l B k ad χ112 _ hw) ⟨rfl, rfl⟩ ⟨Nat.le_of_ble_eq_true rfl, Nat.le_of_ble_eq_true rfl⟩ (pm_all _) (fun _ => wX3 k ad χ112) (fun _ => (pm_all _).symm) rfl rfl (Nat.le_of_ble_eq_true rfl) dL_law_183 ⟨Nat.le_of_ble_eq_true rfl, Nat.le_of_ble_eq_true rfl⟩ (fun r183 _ H locs hw hd => ?_)
          refine lv_goto (tgt := 190) hx hb dL_law_186 (by decide) ?_
          exact J190 v112l2 χ112 r124 r132 r143 r151 v175s0 r183 _ _ _ hd (lv_sub hl [1, 2, 3, 4, 5, 6, 7, 0] rfl) hw
      have J174 : ∀ (v112l2 : Int32) (χ112 : XS) (r124 : Int32) (r132 : Int32) (r143 : Int32) (r151 : Int32) (H : Heap) (locs : List Loc) (ls : Array Slot), Wd B (fun q : Nat => s.heap.size ≤ q) s.heap (wX3 k ad χ112) H locs → lv_has ls 10 [(0, .ref b), (1, .ref (ad 9 0)), (2, .int v112l2), (3, .int r124), (4, .int r132), (5, .int r143), (6, .int r151)] → wpL_law_J174 v112l2 χ112 r124 r132 r143 r151 post (wpL_law_L112 L xs post n112)  → W p l e room_1 s m #[Value.ref b] below meth c H locs 70 2548 (lw_Z below #[Value.ref b] s) (F0 m 174 ls []) := by
        intro v112l2 χ112 r124 r132 r143 r151 H locs ls hd hl hw
        rw [wpL_law_J174] at hw
        refine lv_iconst (v := 0) hx hb dL_law_174 (by decide) ?_
        exact J175 v112l2 χ112 r124 r132 r143 r151 false _ _ _ hd (lv_sub hl [0, 1, 2, 3, 4, 5, 6] rfl) hw
      refine lv_iload_n hx hb dL_law_112 rfl (lv_at hl 2 rfl) ?_
      refine lv_bipush (v := 22) hx hb dL_law_113 (by decide) ?_
      refine lv_icmp_ge (tgt := 271) hx hb dL_law_115 (by decide) (fun c67 => ?_) (fun c67 => ?_)
      · replace hw := hw.1 c67
        refine lv_iconst (v := 1) hx hb dL_law_271 (by decide) ?_
        refine va_forget (fun q hq => hd.2.2.2.2 q hq) ?_
        refine W.widen (k := 600000) (n := 7302250) (Nat.le_of_ble_eq_true rfl) (Nat.le_of_ble_eq_true rfl) ?_
        exact lw_ret hx hb hr hlocks dL_law_272
      · replace hw := hw.2 c67
        refine lv_aload_n hx hb dL_law_118 rfl (lv_at hl 0 rfl) ?_
        refine lv_iconst (v := 2) hx hb dL_law_119 (by decide) ?_
        refine lv_iload_n hx hb dL_law_120 rfl (lv_at hl 2 rfl) ?_
        refine lv_imul hx hb dL_law_121 ?_
        refine lv_iconst (v := 1) hx hb dL_law_122 (by decide) ?_
        refine lv_isub hx hb dL_law_123 ?_
        refine s_cell C hd hl hX hbl hbA M_L_cell gL_law_L_cell rfl (fun sz => c_L_cell l B k b L xs ((2 * v112l2) - 1) _ hw sz) ⟨rfl, rfl⟩ ⟨Nat.le_of_ble_eq_true rfl, Nat.le_of_ble_eq_true rfl⟩ rfl rfl (Nat.le_of_ble_eq_true rfl) dL_law_124 ⟨Nat.le_of_ble_eq_true rfl, Nat.le_of_ble_eq_true rfl⟩ (fun r124 H locs hw hd => ?_)
        refine lv_istore_n (lv' := [(3, .int r124), (0, .ref b), (1, .ref (ad 9 0)), (2, .int v112l2)]) hx hb dL_law_127 rfl hl (by decide) rfl (fun ls hl => ?_)
        refine lv_aload_n hx hb dL_law_128 rfl (lv_at hl 1 rfl) ?_
        refine lv_iconst (v := 2) hx hb dL_law_129 (by decide) ?_
        refine lv_iload_n hx hb dL_law_130 rfl (lv_at hl 3 rfl) ?_
        refine lv_imul hx hb dL_law_131 ?_
        refine s_cell C hd hl hX hbl hbA M_L_cell gL_law_L_cell rfl (fun sz => c_L_cell l B k b L xs (2 * v112l2) _ hw sz) ⟨rfl, rfl⟩ ⟨Nat.le_of_ble_eq_true rfl, Nat.le_of_ble_eq_true rfl⟩ rfl rfl (Nat.le_of_ble_eq_true rfl) dL_law_132 ⟨Nat.le_of_ble_eq_true rfl, Nat.le_of_ble_eq_true rfl⟩ (fun r132 H locs hw hd => ?_)
        refine lv_istore (lv' := [(4, .int r132), (3, .int r124), (0, .ref b), (1, .ref (ad 9 0)), (2, .int v112l2)]) hx hb dL_law_135 hl (by decide) rfl (fun ls hl => ?_)
        refine lv_iload_n hx hb dL_law_137 rfl (lv_at hl 1 rfl) ?_
        refine lv_bipush (v := 12) hx hb dL_law_138 (by decide) ?_
        refine lv_ishr hx hb dL_law_140 ?_
        refine lv_bipush (v := 12) hx hb dL_law_141 (by decide) ?_
        refine s_i C hd hl M_L_low gL_law_L_low rfl (c_L_low l B k (r124 >>> (12 &&& 31)) 12 _ hw) ⟨rfl, rfl⟩ ⟨Nat.le_of_ble_eq_true rfl, Nat.le_of_ble_eq_true rfl⟩ (pm_non _) (fun _ => wX3 k ad χ112) (fun _ => List.Perm.refl _) rfl rfl (Nat.le_of_ble_eq_true rfl) dL_law_143 ⟨Nat.le_of_ble_eq_true rfl, Nat.le_of_ble_eq_true rfl⟩ (fun r143 _ H locs hw hd => ?_)
        refine lv_istore (lv' := [(5, .int r143), (4, .int r132), (3, .int r124), (0, .ref b), (1, .ref (ad 9 0)), (2, .int v112l2)]) hx hb dL_law_146 hl (by decide) rfl (fun ls hl => ?_)
        refine lv_aload_n hx hb dL_law_148 rfl (lv_at hl 4 rfl) ?_
        refine lv_bipush (v := 12) hx hb dL_law_149 (by decide) ?_
        refine v_i C hd hl M_X3_count gL_law_X3_count (c_X3_count l B k ad χ112 12 _ hw) ⟨rfl, rfl⟩ ⟨Nat.le_of_ble_eq_true rfl, Nat.le_of_ble_eq_true rfl⟩ (pm_all _) (fun _ => wX3 k ad χ112) (fun _ => (pm_all _).symm) 0 3 rfl rfl rfl rfl rfl (Nat.le_of_ble_eq_true rfl) dL_law_151 ⟨Nat.le_of_ble_eq_true rfl, Nat.le_of_ble_eq_true rfl⟩ (fun r151 _ H locs hw hd => ?_)
        refine lv_istore (lv' := [(6, .int r151), (5, .int r143), (4, .int r132), (3, .int r124), (0, .ref b), (1, .ref (ad 9 0)), (2, .int v112l2)]) hx hb dL_law_154 hl (by decide) rfl (fun ls hl => ?_)
        refine lv_iload hx hb dL_law_156 (lv_at hl 2 rfl) ?_
        refine lv_ldc (v := 196608) hx hb C.2.2.2.1 (hts (.constant RL 110 (196608)) (List.mem_of_getElem? (i := 3) rfl)) dL_law_158 ?_
        refine lv_iand hx hb dL_law_160 ?_
        refine lv_if_ne (tgt := 174) hx hb dL_law_161 (by decide) (fun c68 => ?_) (fun c68 => ?_)
        · replace hw := hw.2 c68
          exact J174 v112l2 χ112 r124 r132 r143 r151 _ _ _ hd (lv_sub hl [4, 5, 6, 3, 2, 1, 0] rfl) hw
        · replace hw := hw.1 c68
          refine lv_iload hx hb dL_law_164 (lv_at hl 0 rfl) ?_
          refine lv_iconst (v := 4) hx hb dL_law_166 (by decide) ?_
          refine lv_icmp_ge (tgt := 174) hx hb dL_law_167 (by decide) (fun c69 => ?_) (fun c69 => ?_)
          · replace hw := hw.1 c69
            exact J174 v112l2 χ112 r124 r132 r143 r151 _ _ _ hd (lv_sub hl [4, 5, 6, 3, 2, 1, 0] rfl) hw
          · replace hw := hw.2 c69
            refine lv_iconst (v := 1) hx hb dL_law_170 (by decide) ?_
            refine lv_goto (tgt := 175) hx hb dL_law_171 (by decide) ?_
            exact J175 v112l2 χ112 r124 r132 r143 r151 true _ _ _ hd (lv_sub hl [4, 5, 6, 3, 2, 1, 0] rfl) hw
  rw [wpL_law] at hw
  refine lv_aload_n hx hb dL_law_8 rfl (lv_at hl 1 rfl) ?_
  refine v_i C hd hl M_X3_undo gL_law_X3_undo (c_X3_undo l B k ad χ _ hw) ⟨rfl, rfl⟩ ⟨Nat.le_of_ble_eq_true rfl, Nat.le_of_ble_eq_true rfl⟩ (pm_all _) (fun u => wX3 k ad u) (fun _ => (pm_all _).symm) 0 3 rfl rfl rfl rfl rfl (Nat.le_of_ble_eq_true rfl) dL_law_9 ⟨Nat.le_of_ble_eq_true rfl, Nat.le_of_ble_eq_true rfl⟩ (fun r9 χ9 H locs hw hd => ?_)
  refine lv_bipush (v := (-5)) hx hb dL_law_12 (by decide) ?_
  refine lv_icmp_ne (tgt := 108) hx hb dL_law_14 (by decide) (fun c70 => ?_) (fun c70 => ?_)
  · replace hw := hw.2 c70
    refine lv_iconst (v := 0) hx hb dL_law_108 (by decide) ?_
    exact (hpost hw).elim
  · replace hw := hw.1 c70
    refine lv_aload_n hx hb dL_law_17 rfl (lv_at hl 1 rfl) ?_
    refine v_i C hd hl M_X3_restore gL_law_X3_restore (c_X3_restore l B k ad χ9 _ hw) ⟨rfl, rfl⟩ ⟨Nat.le_of_ble_eq_true rfl, Nat.le_of_ble_eq_true rfl⟩ (pm_all _) (fun u => wX3 k ad u) (fun _ => (pm_all _).symm) 0 3 rfl rfl rfl rfl rfl (Nat.le_of_ble_eq_true rfl) dL_law_18 ⟨Nat.le_of_ble_eq_true rfl, Nat.le_of_ble_eq_true rfl⟩ (fun r18 χ18 H locs hw hd => ?_)
    refine lv_bipush (v := (-5)) hx hb dL_law_21 (by decide) ?_
    refine lv_icmp_ne (tgt := 108) hx hb dL_law_23 (by decide) (fun c71 => ?_) (fun c71 => ?_)
    · replace hw := hw.2 c71
      refine lv_iconst (v := 0) hx hb dL_law_108 (by decide) ?_
      exact (hpost hw).elim
    · replace hw := hw.1 c71
      refine lv_aload_n hx hb dL_law_26 rfl (lv_at hl 1 rfl) ?_
      refine v_i C hd hl M_X3_perform gL_law_X3_perform (c_X3_perform l B k ad χ18 _ hw) ⟨rfl, rfl⟩ ⟨Nat.le_of_ble_eq_true rfl, Nat.le_of_ble_eq_true rfl⟩ (pm_all _) (fun u => wX3 k ad u) (fun _ => (pm_all _).symm) 0 3 rfl rfl rfl rfl rfl (Nat.le_of_ble_eq_true rfl) dL_law_27 ⟨Nat.le_of_ble_eq_true rfl, Nat.le_of_ble_eq_true rfl⟩ (fun r27 χ27 H locs hw hd => ?_)
      refine lv_bipush (v := (-100)) hx hb dL_law_30 (by decide) ?_
      refine lv_icmp_ne (tgt := 108) hx hb dL_law_32 (by decide) (fun c72 => ?_) (fun c72 => ?_)
      · replace hw := hw.2 c72
        refine lv_iconst (v := 0) hx hb dL_law_108 (by decide) ?_
        exact (hpost hw).elim
      · replace hw := hw.1 c72
        refine lv_aload_n hx hb dL_law_35 rfl (lv_at hl 1 rfl) ?_
        refine lv_iconst (v := 4) hx hb dL_law_36 (by decide) ?_
        refine v_i C hd hl M_X3_count gL_law_X3_count (c_X3_count l B k ad χ27 4 _ hw) ⟨rfl, rfl⟩ ⟨Nat.le_of_ble_eq_true rfl, Nat.le_of_ble_eq_true rfl⟩ (pm_all _) (fun _ => wX3 k ad χ27) (fun _ => (pm_all _).symm) 0 3 rfl rfl rfl rfl rfl (Nat.le_of_ble_eq_true rfl) dL_law_37 ⟨Nat.le_of_ble_eq_true rfl, Nat.le_of_ble_eq_true rfl⟩ (fun r37 _ H locs hw hd => ?_)
        refine lv_bipush (v := 16) hx hb dL_law_40 (by decide) ?_
        refine lv_icmp_ne (tgt := 108) hx hb dL_law_42 (by decide) (fun c73 => ?_) (fun c73 => ?_)
        · replace hw := hw.2 c73
          refine lv_iconst (v := 0) hx hb dL_law_108 (by decide) ?_
          exact (hpost hw).elim
        · replace hw := hw.1 c73
          refine lv_aload_n hx hb dL_law_45 rfl (lv_at hl 1 rfl) ?_
          refine lv_bipush (v := 12) hx hb dL_law_46 (by decide) ?_
          refine lv_iconst (v := 0) hx hb dL_law_48 (by decide) ?_
          refine v_i C hd hl M_X3_address gL_law_X3_address (c_X3_address l B k ad χ27 12 0 _ hw) ⟨rfl, rfl⟩ ⟨Nat.le_of_ble_eq_true rfl, Nat.le_of_ble_eq_true rfl⟩ (pm_all _) (fun _ => wX3 k ad χ27) (fun _ => (pm_all _).symm) 0 3 rfl rfl rfl rfl rfl (Nat.le_of_ble_eq_true rfl) dL_law_49 ⟨Nat.le_of_ble_eq_true rfl, Nat.le_of_ble_eq_true rfl⟩ (fun r49 _ H locs hw hd => ?_)
          refine lv_iconst (v := (-1)) hx hb dL_law_52 (by decide) ?_
          refine lv_icmp_ne (tgt := 108) hx hb dL_law_53 (by decide) (fun c74 => ?_) (fun c74 => ?_)
          · replace hw := hw.2 c74
            refine lv_iconst (v := 0) hx hb dL_law_108 (by decide) ?_
            exact (hpost hw).elim
          · replace hw := hw.1 c74
            refine lv_aload_n hx hb dL_law_56 rfl (lv_at hl 1 rfl) ?_
            refine lv_iconst (v := (-1)) hx hb dL_law_57 (by decide) ?_
            refine v_i C hd hl M_X3_worst gL_law_X3_worst (c_X3_worst l B k ad χ27 (-1) _ hw) ⟨rfl, rfl⟩ ⟨Nat.le_of_ble_eq_true rfl, Nat.le_of_ble_eq_true rfl⟩ (pm_all _) (fun _ => wX3 k ad χ27) (fun _ => (pm_all _).symm) 0 3 rfl rfl rfl rfl rfl (Nat.le_of_ble_eq_true rfl) dL_law_58 ⟨Nat.le_of_ble_eq_true rfl, Nat.le_of_ble_eq_true rfl⟩ (fun r58 _ H locs hw hd => ?_)
            refine lv_bipush (v := (-2)) hx hb dL_law_61 (by decide) ?_
            refine lv_icmp_ne (tgt := 108) hx hb dL_law_63 (by decide) (fun c75 => ?_) (fun c75 => ?_)
            · replace hw := hw.2 c75
              refine lv_iconst (v := 0) hx hb dL_law_108 (by decide) ?_
              exact (hpost hw).elim
            · replace hw := hw.1 c75
              refine lv_aload_n hx hb dL_law_66 rfl (lv_at hl 1 rfl) ?_
              refine lv_bipush (v := 48) hx hb dL_law_67 (by decide) ?_
              refine v_i C hd hl M_X3_worst gL_law_X3_worst (c_X3_worst l B k ad χ27 48 _ hw) ⟨rfl, rfl⟩ ⟨Nat.le_of_ble_eq_true rfl, Nat.le_of_ble_eq_true rfl⟩ (pm_all _) (fun _ => wX3 k ad χ27) (fun _ => (pm_all _).symm) 0 3 rfl rfl rfl rfl rfl (Nat.le_of_ble_eq_true rfl) dL_law_69 ⟨Nat.le_of_ble_eq_true rfl, Nat.le_of_ble_eq_true rfl⟩ (fun r69 _ H locs hw hd => ?_)
              refine lv_bipush (v := (-5)) hx hb dL_law_72 (by decide) ?_
              refine lv_icmp_ne (tgt := 108) hx hb dL_law_74 (by decide) (fun c76 => ?_) (fun c76 => ?_)
              · replace hw := hw.2 c76
                refine lv_iconst (v := 0) hx hb dL_law_108 (by decide) ?_
                exact (hpost hw).elim
              · replace hw := hw.1 c76
                refine lv_aload_n hx hb dL_law_77 rfl (lv_at hl 1 rfl) ?_
                refine lv_iconst (v := 4) hx hb dL_law_78 (by decide) ?_
                refine lv_iconst (v := 0) hx hb dL_law_79 (by decide) ?_
                refine v_i C hd hl M_X3_head gL_law_X3_head (c_X3_head l B k ad χ27 4 0 _ hw) ⟨rfl, rfl⟩ ⟨Nat.le_of_ble_eq_true rfl, Nat.le_of_ble_eq_true rfl⟩ (pm_all _) (fun _ => wX3 k ad χ27) (fun _ => (pm_all _).symm) 0 3 rfl rfl rfl rfl rfl (Nat.le_of_ble_eq_true rfl) dL_law_80 ⟨Nat.le_of_ble_eq_true rfl, Nat.le_of_ble_eq_true rfl⟩ (fun r80 _ H locs hw hd => ?_)
                refine lv_iconst (v := (-1)) hx hb dL_law_83 (by decide) ?_
                refine lv_icmp_ne (tgt := 108) hx hb dL_law_84 (by decide) (fun c77 => ?_) (fun c77 => ?_)
                · replace hw := hw.2 c77
                  refine lv_iconst (v := 0) hx hb dL_law_108 (by decide) ?_
                  exact (hpost hw).elim
                · replace hw := hw.1 c77
                  refine lv_aload_n hx hb dL_law_87 rfl (lv_at hl 1 rfl) ?_
                  refine lv_iconst (v := 3) hx hb dL_law_88 (by decide) ?_
                  refine lv_aload_n hx hb dL_law_89 rfl (lv_at hl 0 rfl) ?_
                  refine lv_iconst (v := 0) hx hb dL_law_90 (by decide) ?_
                  refine s_cell C hd hl hX hbl hbA M_L_cell gL_law_L_cell rfl (fun sz => c_L_cell l B k b L xs 0 _ hw sz) ⟨rfl, rfl⟩ ⟨Nat.le_of_ble_eq_true rfl, Nat.le_of_ble_eq_true rfl⟩ rfl rfl (Nat.le_of_ble_eq_true rfl) dL_law_91 ⟨Nat.le_of_ble_eq_true rfl, Nat.le_of_ble_eq_true rfl⟩ (fun r91 H locs hw hd => ?_)
                  refine lv_bipush (v := 9) hx hb dL_law_94 (by decide) ?_
                  refine s_i C hd hl M_L_low gL_law_L_low rfl (c_L_low l B k r91 9 _ hw) ⟨rfl, rfl⟩ ⟨Nat.le_of_ble_eq_true rfl, Nat.le_of_ble_eq_true rfl⟩ (pm_non _) (fun _ => wX3 k ad χ27) (fun _ => List.Perm.refl _) rfl rfl (Nat.le_of_ble_eq_true rfl) dL_law_96 ⟨Nat.le_of_ble_eq_true rfl, Nat.le_of_ble_eq_true rfl⟩ (fun r96 _ H locs hw hd => ?_)
                  refine lv_iadd hx hb dL_law_99 ?_
                  refine v_i C hd hl M_X3_setLimit gL_law_X3_setLimit (c_X3_setLimit l B k ad χ27 (3 + r96) _ hw) ⟨rfl, rfl⟩ ⟨Nat.le_of_ble_eq_true rfl, Nat.le_of_ble_eq_true rfl⟩ (pm_all _) (fun u => wX3 k ad u) (fun _ => (pm_all _).symm) 0 3 rfl rfl rfl rfl rfl (Nat.le_of_ble_eq_true rfl) dL_law_100 ⟨Nat.le_of_ble_eq_true rfl, Nat.le_of_ble_eq_true rfl⟩ (fun r100 χ100 H locs hw hd => ?_)
                  refine lv_bipush (v := 30) hx hb dL_law_103 (by decide) ?_
                  refine lv_icmp_eq (tgt := 110) hx hb dL_law_105 (by decide) (fun c78 => ?_) (fun c78 => ?_)
                  · replace hw := hw.1 c78
                    refine lv_iconst (v := 1) hx hb dL_law_110 (by decide) ?_
                    refine lv_istore_n (lv' := [(2, .int 1), (0, .ref b), (1, .ref (ad 9 0))]) hx hb dL_law_111 rfl hl (by decide) rfl (fun ls hl => ?_)
                    obtain ⟨n, hw⟩ := hw
                    exact L112 n 1 χ100 _ _ _ hd (lv_sub hl [1, 2, 0] rfl) hw
                  · replace hw := hw.2 c78
                    refine lv_iconst (v := 0) hx hb dL_law_108 (by decide) ?_
                    exact (hpost hw).elim
set_option maxHeartbeats 8000000 in
set_option maxRecDepth 100000 in
theorem start_of {p : Program} {e : Env} {s : State} {m : MethodId} {below : List Frame} {meth : Method} {c : Code} (l : Launch) {b L : Nat} {xs : Nat → Int32} (hL : L ≤ 260) (C0 : lw_At p s m meth c b L xs) (hw : wpX3_init (fun χ => wpL_law L xs χ (fun r => r = true))) : W p l e room_1 s m #[Value.ref b] below meth c s.heap [] 0 0 (lw_Z below #[Value.ref b] s) (entryFrame m ([Value.ref b] : List Value).toArray 10) := by
  obtain ⟨hx, hb, hr, hml, hown, hts, hX, hbl, hlocks, hgv⟩ := id C0
  obtain ⟨c0, iS0, hKn0⟩ := u_known (C := RX0) (T := TX0) (N := 6) (n := 6) hts inX0 (hts _ (wsL_law_in _ (List.mem_of_getElem? (i := 21) rfl)))
  obtain ⟨c1, iS1, hKn1⟩ := u_known (C := RX1) (T := TX1) (N := 15) (n := 15) hts inX1 (hts _ (wsL_law_in _ (List.mem_of_getElem? (i := 11) rfl)))
  obtain ⟨c2, iS2, hKn2⟩ := u_known (C := RX2) (T := TX2) (N := 3) (n := 3) hts inX2 (hts _ (wsL_law_in _ (List.mem_of_getElem? (i := 17) rfl)))
  obtain ⟨c3, iS3, hKn3⟩ := u_known (C := RX3) (T := TX3) (N := 6) (n := 6) hts inX3 (hts _ (wsL_law_in _ (List.mem_of_getElem? (i := 1) rfl)))
  obtain ⟨dC, dI, hKc⟩ : ∃ (dC : Nat → ClassId) (dI : Nat → Nat → Nat), ∀ (k : Nat) (q : vw_C), vwCl[k]? = some q → u_Kn s q.1 q.2.1 q.2.2 (dC k) (dI k) := by
    refine ⟨fun k => match k with | 0 => c0 | 1 => c1 | 2 => c2 | _ => c3, fun k => match k with | 0 => iS0 | 1 => iS1 | 2 => iS2 | _ => iS3, ?_⟩
    intro k q hq
    match k, hq with
    | 0, hq => cases hq; exact hKn0
    | 1, hq => cases hq; exact hKn1
    | 2, hq => cases hq; exact hKn2
    | 3, hq => cases hq; exact hKn3
    | k + 4, hq => simp [vwCl] at hq
  obtain ⟨cI, kI, pI, i1, i2, i3⟩ := Cond.arrayClass_spec (hts (.arrayClass .int) (wsL_law_in _ (List.mem_of_getElem? (i := 30) rfl)))
  obtain ⟨cZ, kZ, pZ, z1, z2, z3⟩ := Cond.arrayClass_spec (hts (.arrayClass .boolean) (wsL_law_in _ (List.mem_of_getElem? (i := 33) rfl)))
  have hao : (Cond.arrayOver (.object RX1)).before #[Value.ref b] s = true := hts _ (by decide +kernel)
  obtain ⟨pO, cO, kO, o1, -, o3, o4, o5⟩ := Cond.arrayOver_spec hao
  have hK : Kx (dC, dI) (cI, cZ, cO) s := by
    refine ⟨⟨hKc, fun j q hq => ?_⟩, fun w hw => ?_, va_AO.of hao⟩
    · match j, hq with
      | 0, hq => cases hq; exact ⟨fun n z => ⟨(fun k h => by cases h), kI, i2, pI, i3⟩, i1⟩
      | 1, hq => cases hq; exact ⟨fun n z => ⟨(fun k h => by cases h), kZ, z2, pZ, z3⟩, z1⟩
      | 2, hq => cases hq; exact ⟨fun n z => ⟨(fun k h => by cases h), kO, o3, pO, o4⟩, kO, pO, o3, o4, o1, o5⟩
      | j + 3, hq => simp at hq
    · obtain ⟨a, i, x, g, rfl⟩ := nWs_form w hw
      exact va_Nw.of rfl (hts _ (nWs_in _ hw))
  have C : Cx p s m #[Value.ref b] meth c code 10 wsL_law RL meth.name ret (dC, dI) (cI, cZ, cO) (fun q : Nat => s.heap.size ≤ q) := ⟨hx, hb, hml, hown, fun w h => hts w (wsL_law_in w h), hr, hlocks, fun _ h => h, hK, rfl⟩
  have hd : Wd (dC, dI) (fun q : Nat => s.heap.size ≤ q) s.heap [] s.heap [] := ⟨fun k q h => by simp at h, ⟨fun i j p q h => by simp at h, fun k q h => by simp at h⟩, va_S.rf⟩
  have hl := lv_entry ([.ref b]) (n := 10) (Nat.le_of_ble_eq_true rfl)
  rw [lg_entry_eq]
  generalize (lg_sl ([.ref b]) ++ List.replicate (10 - (lg_sl ([.ref b])).length) Slot.unset).toArray = ls at hl ⊢
  have hl : lv_has ls 10 [(0, .ref b)] := hl
  refine g_new C hd inlX3 tyX3 tyX3_ok 3 rfl (List.mem_of_getElem? (i := 0) rfl) (List.mem_of_getElem? (i := 1) rfl) (List.mem_of_getElem? (i := 2) rfl) (fs := [.null, .null, .null, .null, .null, .int 0]) (by decide +kernel) (Nat.le_of_ble_eq_true rfl) (Nat.le_of_ble_eq_true rfl) dL_law_0 (fun q H hd => ?_)
  refine lv_dup hx hb dL_law_3 rfl ?_
  refine i_v C hd hl M_X3_init rfl gL_law_X3_init (List.mem_of_getElem? (i := 2) rfl) (List.mem_of_getElem? (i := 4) rfl) (List.mem_of_getElem? (i := 5) rfl) (c_X3_init l (dC, dI) (cI, cZ, cO) q _ hw) ⟨rfl, rfl⟩ ⟨Nat.le_of_ble_eq_true rfl, Nat.le_of_ble_eq_true rfl⟩ (List.Perm.refl _) (fun u => wX3 (cI, cZ, cO) u.1 u.2) (fun u => List.Perm.of_eq (List.append_nil _)) rfl rfl (Nat.le_of_ble_eq_true rfl) dL_law_4 ⟨Nat.le_of_ble_eq_true rfl, Nat.le_of_ble_eq_true rfl⟩ (fun ⟨ad, χ⟩ H locs hw hd => ?_)
  obtain ⟨e1, hw⟩ := hw
  have e1 : ad 9 0 = q := e1
  rw [← e1]
  refine lv_astore_n (lv' := [(1, .ref (ad 9 0)), (0, .ref b)]) hx hb dL_law_7 rfl hl (by decide) rfl (fun ls hl => ?_)
  refine W.cs (cells' := 70) (slots' := 2548) rfl rfl ?_
  exact law_walk hL C hX hbl ad χ (fun r => r = true) (fun h => by cases h) H locs ls hd (lv_sub hl [1, 0] rfl) hw
