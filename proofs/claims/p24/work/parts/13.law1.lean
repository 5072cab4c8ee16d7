abbrev rm_L_low : Room := { frames := 0, cells := 0, slots := 0, locals := 0 }
theorem M_L_low : MI yL_low wsL_low cL_low 2 (some .int) 2 := ⟨⟨_, rfl⟩, by decide +kernel, by decide +kernel, by decide +kernel, by decide +kernel⟩
def wpL_low (p0 : Int32) (p1 : Int32) (post : Int32 → Prop) : Prop := (¬ p1 = 0 ∧ post ((p0 &&& 2147483647) - (p0 &&& 2147483647) / p1 * p1))
set_option maxHeartbeats 4000000 in
set_option maxRecDepth 100000 in
theorem c_L_low (l : Launch) (B : va_G) (k : KT) (p0 : Int32) (p1 : Int32) (post : Int32 → Prop) (hw : wpL_low p0 p1 post) : Cti l yL_low wsL_low rm_L_low 0 0 B k [.int p0, .int p1] ([]) (fun _ : Unit => []) (fun r _ => post r) := by
  refine Cti.of M_L_low (Nat.le_of_ble_eq_true rfl) ?_
  intro p e s m args below meth c A C hd ls hl
  have hx := C.1; have hb := C.2.1; have hml := C.2.2.1; have hts := C.2.2.2.2.1
  have hl : lv_has ls 2 [(0, .int p0), (1, .int p1)] := hl
  rw [wpL_low] at hw
  refine lv_iload_n hx hb dL_low_0 rfl (lv_at hl 0 rfl) ?_
  refine lv_ldc (v := 2147483647) hx hb C.2.2.2.1 (hts (.constant RL 8 (2147483647)) (List.mem_of_getElem? (i := 1) rfl)) dL_low_1 ?_
  refine lv_iand hx hb dL_low_3 ?_
  refine lv_iload_n hx hb dL_low_4 rfl (lv_at hl 1 rfl) ?_
  obtain ⟨h2, hw⟩ := hw
  refine lv_irem hx hb dL_low_5 h2 ?_
  exact r_i C hd dL_low_6 () rfl hw
abbrev rm_L_digest : Room := { frames := 7, cells := 0, slots := 0, locals := 154 }
theorem M_L_digest : MI yL_digest wsL_digest cL_digest 4 (some .long) 1 := ⟨⟨_, rfl⟩, by decide +kernel, by decide +kernel, by decide +kernel, by decide +kernel⟩
theorem iL_digest_X3 : ∀ w ∈ wsX30, w ∈ wsL_digest := fun _ h => List.mem_cons_of_mem _ (List.mem_append_left _ (List.mem_append_left _ (List.mem_append_left _ (List.mem_append_right _ h))))
theorem iL_digest_X2 : ∀ w ∈ wsX20, w ∈ wsL_digest := fun _ h => List.mem_cons_of_mem _ (List.mem_append_left _ (List.mem_append_left _ (List.mem_append_right _ h)))
theorem iL_digest_X0 : ∀ w ∈ wsX00, w ∈ wsL_digest := fun _ h => List.mem_cons_of_mem _ (List.mem_append_left _ (List.mem_append_right _ h))
theorem iL_digest_X1 : ∀ w ∈ wsX10, w ∈ wsL_digest := fun _ h => List.mem_cons_of_mem _ (List.mem_append_right _ h)
def wpL_digest_L111 (χ : XS) (post : Int64 → Prop) : Nat → Int64 → Int32 → Prop
  | 0, _, _ => False
  | n111 + 1, v111l1, v111l3 => ((4 ≤ v111l3 → post v111l1) ∧ (¬ 4 ≤ v111l3 → wpX3_head χ v111l3 0 (fun r127 => wpX3_head χ v111l3 1 (fun r139 => wpX3_head χ v111l3 3 (fun r148 => wpL_digest_L111 χ post n111 ((((31 * v111l1) + (49 * r127.toInt64)) + (7 * r139.toInt64)) + r148.toInt64) (v111l3 + 1))))))
def wpL_digest_L33 (χ : XS) (post : Int64 → Prop) : Nat → Int64 → Int32 → Prop
  | 0, _, _ => False
  | n33 + 1, v33l1, v33l3 => ((64 ≤ v33l3 → ∃ n111 : Nat, wpL_digest_L111 χ post n111 v33l1 0) ∧ (¬ 64 ≤ v33l3 → wpX3_sector χ v33l3 0 (fun r50 => wpX3_sector χ v33l3 3 (fun r59 => wpX3_address χ v33l3 0 (fun r76 => wpX3_address χ v33l3 1 (fun r88 => wpX3_address χ v33l3 5 (fun r97 => wpL_digest_L33 χ post n33 ((((31 * (((31 * v33l1) + (7 * r50.toInt64)) + r59.toInt64)) + (49 * r76.toInt64)) + (7 * r88.toInt64)) + r97.toInt64) (v33l3 + 1))))))))
def wpL_digest_L6 (χ : XS) (post : Int64 → Prop) : Nat → Int64 → Int32 → Prop
  | 0, _, _ => False
  | n6 + 1, v6l1, v6l3 => ((12 ≤ v6l3 → ∃ n33 : Nat, wpL_digest_L33 χ post n33 v6l1 0) ∧ (¬ 12 ≤ v6l3 → wpX3_count χ v6l3 (fun r19 => wpL_digest_L6 χ post n6 ((31 * v6l1) + r19.toInt64) (v6l3 + 1))))
def wpL_digest (χ : XS) (post : Int64 → Prop) : Prop := ∃ n6 : Nat, wpL_digest_L6 χ post n6 89 0
set_option maxHeartbeats 4000000 in
set_option maxRecDepth 100000 in
theorem c_L_digest (l : Launch) (B : va_G) (k : KT) (ad : Nat → Nat → Nat) (χ : XS) (post : Int64 → Prop) (hw : wpL_digest χ post) : Ctl l yL_digest wsL_digest rm_L_digest 0 0 B k [.ref (ad 9 0)] (wX3 k ad χ) (fun _ : Unit => wX3 k ad χ) (fun r _ => post r) := by
  refine Ctl.of M_L_digest (Nat.le_of_ble_eq_true rfl) ?_
  intro p e s m args below meth c A C hd ls hl
  have hx := C.1; have hb := C.2.1; have hml := C.2.2.1; have hts := C.2.2.2.2.1
  have hl : lv_has ls 4 [(0, .ref (ad 9 0))] := hl
  have L111 : ∀ (n111 : Nat), ∀ (v111l1 : Int64) (v111l3 : Int32) (H : Heap) (locs : List Loc) (ls : Array Slot), Wd B A s.heap (wX3 k ad χ) H locs → lv_has ls 4 [(0, .ref (ad 9 0)), (1, .long v111l1), (3, .int v111l3)] → wpL_digest_L111 χ post n111 v111l1 v111l3 → W p l e rm_L_digest s m args below meth c H locs 0 0 (Ql below args s B A (fun _ : Unit => wX3 k ad χ) (fun r _ => post r) 0 0) (F0 m 111 ls []) := by
    intro n111
    induction n111 with
    | zero => intro v111l1 v111l3 H locs ls hd hl hw; exact absurd hw (by simp [wpL_digest_L111])
    | succ n111 ih111 =>
      intro v111l1 v111l3 H locs ls hd hl hw
      rw [wpL_digest_L111] at hw
      refine lv_iload_n hx hb dL_digest_111 rfl (lv_at hl 2 rfl) ?_
      refine lv_iconst (v := 4) hx hb dL_digest_112 (by decide) ?_
      refine lv_icmp_ge (tgt := 160) hx hb dL_digest_113 (by decide) (fun c13 => ?_) (fun c13 => ?_)
      · replace hw := hw.1 c13
        refine lv_lload_n hx hb dL_digest_160 rfl (lv_at hl 1 rfl) ?_
        exact r_l C hd dL_digest_161 () rfl hw
      · replace hw := hw.2 c13
        refine lv_ldc2 (v := 31) hx hb C.2.2.2.1 (hts (.constantLong RL 11 (31)) (List.mem_of_getElem? (i := 2) rfl)) dL_digest_116 ?_
        refine lv_lload_n hx hb dL_digest_119 rfl (lv_at hl 1 rfl) ?_
        refine lv_lmul hx hb dL_digest_120 ?_
        refine lv_ldc2 (v := 49) hx hb C.2.2.2.1 (hts (.constantLong RL 25 (49)) (List.mem_of_getElem? (i := 4) rfl)) dL_digest_121 ?_
        refine lv_aload_n hx hb dL_digest_124 rfl (lv_at hl 0 rfl) ?_
        refine lv_iload_n hx hb dL_digest_125 rfl (lv_at hl 2 rfl) ?_
        refine lv_iconst (v := 0) hx hb dL_digest_126 (by decide) ?_
        refine v_i C hd hl M_X3_head gL_digest_X3_head (c_X3_head l B k ad χ v111l3 0 _ hw) ⟨rfl, rfl⟩ ⟨Nat.le_of_ble_eq_true rfl, Nat.le_of_ble_eq_true rfl⟩ (pm_all _) (fun _ => wX3 k ad χ) (fun _ => (pm_all _).symm) 0 3 rfl rfl rfl rfl rfl (Nat.le_of_ble_eq_true rfl) dL_digest_127 ⟨Nat.le_of_ble_eq_true rfl, Nat.le_of_ble_eq_true rfl⟩ (fun r127 _ H locs hw hd => ?_)
        refine lv_i2l (v := r127.toInt64) hx hb dL_digest_130 rfl ?_
        refine lv_lmul hx hb dL_digest_131 ?_
        refine lv_ladd hx hb dL_digest_132 ?_
        refine lv_ldc2 (v := 7) hx hb C.2.2.2.1 (hts (.constantLong RL 19 (7)) (List.mem_of_getElem? (i := 3) rfl)) dL_digest_133 ?_
        refine lv_aload_n hx hb dL_digest_136 rfl (lv_at hl 0 rfl) ?_
        refine lv_iload_n hx hb dL_digest_137 rfl (lv_at hl 2 rfl) ?_
        refine lv_iconst (v := 1) hx hb dL_digest_138 (by decide) ?_
        refine v_i C hd hl M_X3_head gL_digest_X3_head (c_X3_head l B k ad χ v111l3 1 _ hw) ⟨rfl, rfl⟩ ⟨Nat.le_of_ble_eq_true rfl, Nat.le_of_ble_eq_true rfl⟩ (pm_all _) (fun _ => wX3 k ad χ) (fun _ => (pm_all _).symm) 0 3 rfl rfl rfl rfl rfl (Nat.le_of_ble_eq_true rfl) dL_digest_139 ⟨Nat.le_of_ble_eq_true rfl, Nat.le_of_ble_eq_true rfl⟩ (fun r139 _ H locs hw hd => ?_)
        refine lv_i2l (v := r139.toInt64) hx hb dL_digest_142 rfl ?_
        refine lv_lmul hx hb dL_digest_143 ?_
        refine lv_ladd hx hb dL_digest_144 ?_
        refine lv_aload_n hx hb dL_digest_145 rfl (lv_at hl 0 rfl) ?_
        refine lv_iload_n hx hb dL_digest_146 rfl (lv_at hl 2 rfl) ?_
        refine lv_iconst (v := 3) hx hb dL_digest_147 (by decide) ?_
        refine v_i C hd hl M_X3_head gL_digest_X3_head (c_X3_head l B k ad χ v111l3 3 _ hw) ⟨rfl, rfl⟩ ⟨Nat.le_of_ble_eq_true rfl, Nat.le_of_ble_eq_true rfl⟩ (pm_all _) (fun _ => wX3 k ad χ) (fun _ => (pm_all _).symm) 0 3 rfl rfl rfl rfl rfl (Nat.le_of_ble_eq_true rfl) dL_digest_148 ⟨Nat.le_of_ble_eq_true rfl, Nat.le_of_ble_eq_true rfl⟩ (fun r148 _ H locs hw hd => ?_)
        refine lv_i2l (v := r148.toInt64) hx hb dL_digest_151 rfl ?_
        refine lv_ladd hx hb dL_digest_152 ?_
        refine lv_lstore_n (lv' := [(1, .long ((((31 * v111l1) + (49 * r127.toInt64)) + (7 * r139.toInt64)) + r148.toInt64)), (0, .ref (ad 9 0)), (3, .int v111l3)]) hx hb dL_digest_153 rfl hl (by decide) rfl (fun ls hl => ?_)
        refine lv_iinc (v := v111l3 + 1) (lv' := [(3, .int (v111l3 + 1)), (1, .long ((((31 * v111l1) + (49 * r127.toInt64)) + (7 * r139.toInt64)) + r148.toInt64)), (0, .ref (ad 9 0))]) hx hb dL_digest_154 hl (k := 2) rfl rfl (by decide) rfl (fun ls hl => ?_)
        refine lv_goto (tgt := 111) hx hb dL_digest_157 (by decide) ?_
        exact ih111 ((((31 * v111l1) + (49 * r127.toInt64)) + (7 * r139.toInt64)) + r148.toInt64) (v111l3 + 1) _ _ _ hd (lv_sub hl [2, 1, 0] rfl) hw
  have L33 : ∀ (n33 : Nat), ∀ (v33l1 : Int64) (v33l3 : Int32) (H : Heap) (locs : List Loc) (ls : Array Slot), Wd B A s.heap (wX3 k ad χ) H locs → lv_has ls 4 [(0, .ref (ad 9 0)), (1, .long v33l1), (3, .int v33l3)] → wpL_digest_L33 χ post n33 v33l1 v33l3 → W p l e rm_L_digest s m args below meth c H locs 0 0 (Ql below args s B A (fun _ : Unit => wX3 k ad χ) (fun r _ => post r) 0 0) (F0 m 33 ls []) := by
    intro n33
    induction n33 with
    | zero => intro v33l1 v33l3 H locs ls hd hl hw; exact absurd hw (by simp [wpL_digest_L33])
    | succ n33 ih33 =>
      intro v33l1 v33l3 H locs ls hd hl hw
      rw [wpL_digest_L33] at hw
      refine lv_iload_n hx hb dL_digest_33 rfl (lv_at hl 2 rfl) ?_
      refine lv_bipush (v := 64) hx hb dL_digest_34 (by decide) ?_
      refine lv_icmp_ge (tgt := 109) hx hb dL_digest_36 (by decide) (fun c14 => ?_) (fun c14 => ?_)
      · replace hw := hw.1 c14
        refine lv_iconst (v := 0) hx hb dL_digest_109 (by decide) ?_
        refine lv_istore_n (lv' := [(3, .int 0), (0, .ref (ad 9 0)), (1, .long v33l1)]) hx hb dL_digest_110 rfl hl (by decide) rfl (fun ls hl => ?_)
        obtain ⟨n, hw⟩ := hw
        exact L111 n v33l1 0 _ _ _ hd (lv_sub hl [1, 2, 0] rfl) hw
      · replace hw := hw.2 c14
        refine lv_ldc2 (v := 31) hx hb C.2.2.2.1 (hts (.constantLong RL 11 (31)) (List.mem_of_getElem? (i := 2) rfl)) dL_digest_39 ?_
        refine lv_lload_n hx hb dL_digest_42 rfl (lv_at hl 1 rfl) ?_
        refine lv_lmul hx hb dL_digest_43 ?_
        refine lv_ldc2 (v := 7) hx hb C.2.2.2.1 (hts (.constantLong RL 19 (7)) (List.mem_of_getElem? (i := 3) rfl)) dL_digest_44 ?_
        refine lv_aload_n hx hb dL_digest_47 rfl (lv_at hl 0 rfl) ?_
        refine lv_iload_n hx hb dL_digest_48 rfl (lv_at hl 2 rfl) ?_
        refine lv_iconst (v := 0) hx hb dL_digest_49 (by decide) ?_
        refine v_i C hd hl M_X3_sector gL_digest_X3_sector (c_X3_sector l B k ad χ v33l3 0 _ hw) ⟨rfl, rfl⟩ ⟨Nat.le_of_ble_eq_true rfl, Nat.le_of_ble_eq_true rfl⟩ (pm_all _) (fun _ => wX3 k ad χ) (fun _ => (pm_all _).symm) 0 3 rfl rfl rfl rfl rfl (Nat.le_of_ble_eq_true rfl) dL_digest_50 ⟨Nat.le_of_ble_eq_true rfl, Nat.le_of_ble_eq_true rfl⟩ (fun r50 _ H locs hw hd => ?_)
        refine lv_i2l (v := r50.toInt64) hx hb dL_digest_53 rfl ?_
        refine lv_lmul hx hb dL_digest_54 ?_
        refine lv_ladd hx hb dL_digest_55 ?_
        refine lv_aload_n hx hb dL_digest_56 rfl (lv_at hl 0 rfl) ?_
        refine lv_iload_n hx hb dL_digest_57 rfl (lv_at hl 2 rfl) ?_
        refine lv_iconst (v := 3) hx hb dL_digest_58 (by decide) ?_
        refine v_i C hd hl M_X3_sector gL_digest_X3_sector (c_X3_sector l B k ad χ v33l3 3 _ hw) ⟨rfl, rfl⟩ ⟨Nat.le_of_ble_eq_true rfl, Nat.le_of_ble_eq_true rfl⟩ (pm_all _) (fun _ => wX3 k ad χ) (fun _ => (pm_all _).symm) 0 3 rfl rfl rfl rfl rfl (Nat.le_of_ble_eq_true rfl) dL_digest_59 ⟨Nat.le_of_ble_eq_true rfl, Nat.le_of_ble_eq_true rfl⟩ (fun r59 _ H locs hw hd => ?_)
        refine lv_i2l (v := r59.toInt64) hx hb dL_digest_62 rfl ?_
        refine lv_ladd hx hb dL_digest_63 ?_
        refine lv_lstore_n (lv' := [(1, .long (((31 * v33l1) + (7 * r50.toInt64)) + r59.toInt64)), (0, .ref (ad 9 0)), (3, .int v33l3)]) hx hb dL_digest_64 rfl hl (by decide) rfl (fun ls hl => ?_)
        refine lv_ldc2 (v := 31) hx hb C.2.2.2.1 (hts (.constantLong RL 11 (31)) (List.mem_of_getElem? (i := 2) rfl)) dL_digest_65 ?_
        refine lv_lload_n hx hb dL_digest_68 rfl (lv_at hl 0 rfl) ?_
        refine lv_lmul hx hb dL_digest_69 ?_
        refine lv_ldc2 (v := 49) hx hb C.2.2.2.1 (hts (.constantLong RL 25 (49)) (List.mem_of_getElem? (i := 4) rfl)) dL_digest_70 ?_
        refine lv_aload_n hx hb dL_digest_73 rfl (lv_at hl 1 rfl) ?_
        refine lv_iload_n hx hb dL_digest_74 rfl (lv_at hl 2 rfl) ?_
        refine lv_iconst (v := 0) hx hb dL_digest_75 (by decide) ?_
        refine v_i C hd hl M_X3_address gL_digest_X3_address (c_X3_address l B k ad χ v33l3 0 _ hw) ⟨rfl, rfl⟩ ⟨Nat.le_of_ble_eq_true rfl, Nat.le_of_ble_eq_true rfl⟩ (pm_all _) (fun _ => wX3 k ad χ) (fun _ => (pm_all _).symm) 0 3 rfl rfl rfl rfl rfl (Nat.le_of_ble_eq_true rfl) dL_digest_76 ⟨Nat.le_of_ble_eq_true rfl, Nat.le_of_ble_eq_true rfl⟩ (fun r76 _ H locs hw hd => ?_)
        refine lv_i2l (v := r76.toInt64) hx hb dL_digest_79 rfl ?_
        refine lv_lmul hx hb dL_digest_80 ?_
        refine lv_ladd hx hb dL_digest_81 ?_
        refine lv_ldc2 (v := 7) hx hb C.2.2.2.1 (hts (.constantLong RL 19 (7)) (List.mem_of_getElem? (i := 3) rfl)) dL_digest_82 ?_
        refine lv_aload_n hx hb dL_digest_85 rfl (lv_at hl 1 rfl) ?_
        refine lv_iload_n hx hb dL_digest_86 rfl (lv_at hl 2 rfl) ?_
        refine lv_iconst (v := 1) hx hb dL_digest_87 (by decide) ?_
        refine v_i C hd hl M_X3_address gL_digest_X3_address (c_X3_address l B k ad χ v33l3 1 _ hw) ⟨rfl, rfl⟩ ⟨Nat.le_of_ble_eq_true rfl, Nat.le_of_ble_eq_true rfl⟩ (pm_all _) (fun _ => wX3 k ad χ) (fun _ => (pm_all _).symm) 0 3 rfl rfl rfl rfl rfl (Nat.le_of_ble_eq_true rfl) dL_digest_88 ⟨Nat.le_of_ble_eq_true rfl, Nat.le_of_ble_eq_true rfl⟩ (fun r88 _ H locs hw hd => ?_)
        refine lv_i2l (v := r88.toInt64) hx hb dL_digest_91 rfl ?_
        refine lv_lmul hx hb dL_digest_92 ?_
        refine lv_ladd hx hb dL_digest_93 ?_
        refine lv_aload_n hx hb dL_digest_94 rfl (lv_at hl 1 rfl) ?_
        refine lv_iload_n hx hb dL_digest_95 rfl (lv_at hl 2 rfl) ?_
        refine lv_iconst (v := 5) hx hb dL_digest_96 (by decide) ?_
        refine v_i C hd hl M_X3_address gL_digest_X3_address (c_X3_address l B k ad χ v33l3 5 _ hw) ⟨rfl, rfl⟩ ⟨Nat.le_of_ble_eq_true rfl, Nat.le_of_ble_eq_true rfl⟩ (pm_all _) (fun _ => wX3 k ad χ) (fun _ => (pm_all _).symm) 0 3 rfl rfl rfl rfl rfl (Nat.le_of_ble_eq_true rfl) dL_digest_97 ⟨Nat.le_of_ble_eq_true rfl, Nat.le_of_ble_eq_true rfl⟩ (fun r97 _ H locs hw hd => ?_)
        refine lv_i2l (v := r97.toInt64) hx hb dL_digest_100 rfl ?_
        refine lv_ladd hx hb dL_digest_101 ?_
        refine lv_lstore_n (lv' := [(1, .long ((((31 * (((31 * v33l1) + (7 * r50.toInt64)) + r59.toInt64)) + (49 * r76.toInt64)) + (7 * r88.toInt64)) + r97.toInt64)), (0, .ref (ad 9 0)), (3, .int v33l3)]) hx hb dL_digest_102 rfl hl (by decide) rfl (fun ls hl => ?_)
        refine lv_iinc (v := v33l3 + 1) (lv' := [(3, .int (v33l3 + 1)), (1, .long ((((31 * (((31 * v33l1) + (7 * r50.toInt64)) + r59.toInt64)) + (49 * r76.toInt64)) + (7 * r88.toInt64)) + r97.toInt64)), (0, .ref (ad 9 0))]) hx hb dL_digest_103 hl (k := 2) rfl rfl (by decide) rfl (fun ls hl => ?_)
        refine lv_goto (tgt := 33) hx hb dL_digest_106 (by decide) ?_
        exact ih33 ((((31 * (((31 * v33l1) + (7 * r50.toInt64)) + r59.toInt64)) + (49 * r76.toInt64)) + (7 * r88.toInt64)) + r97.toInt64) (v33l3 + 1) _ _ _ hd (lv_sub hl [2, 1, 0] rfl) hw
  have L6 : ∀ (n6 : Nat), ∀ (v6l1 : Int64) (v6l3 : Int32) (H : Heap) (locs : List Loc) (ls : Array Slot), Wd B A s.heap (wX3 k ad χ) H locs → lv_has ls 4 [(0, .ref (ad 9 0)), (1, .long v6l1), (3, .int v6l3)] → wpL_digest_L6 χ post n6 v6l1 v6l3 → W p l e rm_L_digest s m args below meth c H locs 0 0 (Ql below args s B A (fun _ : Unit => wX3 k ad χ) (fun r _ => post r) 0 0) (F0 m 6 ls []) := by
    intro n6
    induction n6 with
    | zero => intro v6l1 v6l3 H locs ls hd hl hw; exact absurd hw (by simp [wpL_digest_L6])
    | succ n6 ih6 =>
      intro v6l1 v6l3 H locs ls hd hl hw
      rw [wpL_digest_L6] at hw
      refine lv_iload_n hx hb dL_digest_6 rfl (lv_at hl 2 rfl) ?_
      refine lv_bipush (v := 12) hx hb dL_digest_7 (by decide) ?_
      refine lv_icmp_ge (tgt := 31) hx hb dL_digest_9 (by decide) (fun c15 => ?_) (fun c15 => ?_)
      · replace hw := hw.1 c15
        refine lv_iconst (v := 0) hx hb dL_digest_31 (by decide) ?_
        refine lv_istore_n (lv' := [(3, .int 0), (0, .ref (ad 9 0)), (1, .long v6l1)]) hx hb dL_digest_32 rfl hl (by decide) rfl (fun ls hl => ?_)
        obtain ⟨n, hw⟩ := hw
        exact L33 n v6l1 0 _ _ _ hd (lv_sub hl [1, 2, 0] rfl) hw
      · replace hw := hw.2 c15
        refine lv_ldc2 (v := 31) hx hb C.2.2.2.1 (hts (.constantLong RL 11 (31)) (List.mem_of_getElem? (i := 2) rfl)) dL_digest_12 ?_
        refine lv_lload_n hx hb dL_digest_15 rfl (lv_at hl 1 rfl) ?_
        refine lv_lmul hx hb dL_digest_16 ?_
        refine lv_aload_n hx hb dL_digest_17 rfl (lv_at hl 0 rfl) ?_
        refine lv_iload_n hx hb dL_digest_18 rfl (lv_at hl 2 rfl) ?_
        refine v_i C hd hl M_X3_count gL_digest_X3_count (c_X3_count l B k ad χ v6l3 _ hw) ⟨rfl, rfl⟩ ⟨Nat.le_of_ble_eq_true rfl, Nat.le_of_ble_eq_true rfl⟩ (pm_all _) (fun _ => wX3 k ad χ) (fun _ => (pm_all _).symm) 0 3 rfl rfl rfl rfl rfl (Nat.le_of_ble_eq_true rfl) dL_digest_19 ⟨Nat.le_of_ble_eq_true rfl, Nat.le_of_ble_eq_true rfl⟩ (fun r19 _ H locs hw hd => ?_)
        refine lv_i2l (v := r19.toInt64) hx hb dL_digest_22 rfl ?_
        refine lv_ladd hx hb dL_digest_23 ?_
        refine lv_lstore_n (lv' := [(1, .long ((31 * v6l1) + r19.toInt64)), (0, .ref (ad 9 0)), (3, .int v6l3)]) hx hb dL_digest_24 rfl hl (by decide) rfl (fun ls hl => ?_)
        refine lv_iinc (v := v6l3 + 1) (lv' := [(3, .int (v6l3 + 1)), (1, .long ((31 * v6l1) + r19.toInt64)), (0, .ref (ad 9 0))]) hx hb dL_digest_25 hl (k := 2) rfl rfl (by decide) rfl (fun ls hl => ?_)
        refine lv_goto (tgt := 6) hx hb dL_digest_28 (by decide) ?_
        exact ih6 ((31 * v6l1) + r19.toInt64) (v6l3 + 1) _ _ _ hd (lv_sub hl [2, 1, 0] rfl) hw
  rw [wpL_digest] at hw
  refine lv_ldc2 (v := 89) hx hb C.2.2.2.1 (hts (.constantLong RL 9 (89)) (List.mem_of_getElem? (i := 1) rfl)) dL_digest_0 ?_
  refine lv_lstore_n (lv' := [(1, .long 89), (0, .ref (ad 9 0))]) hx hb dL_digest_3 rfl hl (by decide) rfl (fun ls hl => ?_)
  refine lv_iconst (v := 0) hx hb dL_digest_4 (by decide) ?_
  refine lv_istore_n (lv' := [(3, .int 0), (1, .long 89), (0, .ref (ad 9 0))]) hx hb dL_digest_5 rfl hl (by decide) rfl (fun ls hl => ?_)
  obtain ⟨n, hw⟩ := hw
  exact L6 n 89 0 _ _ _ hd (lv_sub hl [2, 1, 0] rfl) hw
abbrev rm_L_sectors : Room := { frames := 7, cells := 0, slots := 0, locals := 154 }
theorem M_L_sectors : MI yL_sectors wsL_sectors cL_sectors 10 (some .boolean) 1 := ⟨⟨_, rfl⟩, by decide +kernel, by decide +kernel, by decide +kernel, by decide +kernel⟩
theorem iL_sectors_X3 : ∀ w ∈ wsX30, w ∈ wsL_sectors := fun _ h => List.mem_cons_of_mem _ (List.mem_append_left _ (List.mem_append_left _ (List.mem_append_left _ (List.mem_append_right _ h))))
theorem iL_sectors_X2 : ∀ w ∈ wsX20, w ∈ wsL_sectors := fun _ h => List.mem_cons_of_mem _ (List.mem_append_left _ (List.mem_append_left _ (List.mem_append_right _ h)))
theorem iL_sectors_X0 : ∀ w ∈ wsX00, w ∈ wsL_sectors := fun _ h => List.mem_cons_of_mem _ (List.mem_append_left _ (List.mem_append_right _ h))
theorem iL_sectors_X1 : ∀ w ∈ wsX10, w ∈ wsL_sectors := fun _ h => List.mem_cons_of_mem _ (List.mem_append_right _ h)
def wpL_sectors_J239 (v10l2 : Int32) (v10l3 : Int32) (post : Bool → Prop) (κ10 : Int32 → Int32 → Prop) (v239s1 : Bool) : Prop := κ10 (v10l2 + (bi v239s1)) (v10l3 + 1)
def wpL_sectors_J228 (v10l2 : Int32) (v10l3 : Int32) (v119s0 : Bool) (post : Bool → Prop) (κ10 : Int32 → Int32 → Prop)  : Prop := ((v119s0 = true → wpL_sectors_J239 v10l2 v10l3 post κ10 true) ∧ (v119s0 = false → wpL_sectors_J239 v10l2 v10l3 post κ10 false))
def wpL_sectors_J208 (χ : XS) (v10l2 : Int32) (v10l3 : Int32) (r58 : Int32) (v119s0 : Bool) (post : Bool → Prop) (κ10 : Int32 → Int32 → Prop)  : Prop := wpX3_head χ (v10l3 / 16) 3 (fun r212 => ((r212 = 1 → ((r58 = (-5) → wpL_sectors_J228 v10l2 v10l3 v119s0 post κ10 ) ∧ (¬ r58 = (-5) → post false))) ∧ (¬ r212 = 1 → wpL_sectors_J228 v10l2 v10l3 v119s0 post κ10 )))
def wpL_sectors_J190 (χ : XS) (v10l2 : Int32) (v10l3 : Int32) (r58 : Int32) (v85s0 : Bool) (v119s0 : Bool) (post : Bool → Prop) (κ10 : Int32 → Int32 → Prop)  : Prop := ((v85s0 = true → wpL_sectors_J208 χ v10l2 v10l3 r58 v119s0 post κ10 ) ∧ (v85s0 = false → ((r58 = (-5) → wpL_sectors_J208 χ v10l2 v10l3 r58 v119s0 post κ10 ) ∧ (¬ r58 = (-5) → ((r58 = v10l3 → wpL_sectors_J208 χ v10l2 v10l3 r58 v119s0 post κ10 ) ∧ (¬ r58 = v10l3 → post false))))))
def wpL_sectors_J167 (χ : XS) (v10l2 : Int32) (v10l3 : Int32) (r58 : Int32) (v85s0 : Bool) (v119s0 : Bool) (post : Bool → Prop) (κ10 : Int32 → Int32 → Prop) (v167s0 : Bool) : Prop := (((bi v167s0) = (bi v119s0) → ((r58 = (-5) → wpL_sectors_J190 χ v10l2 v10l3 r58 v85s0 v119s0 post κ10 ) ∧ (¬ r58 = (-5) → wpX3_address χ r58 1 (fun r183 => ((r183 = v10l3 → wpL_sectors_J190 χ v10l2 v10l3 r58 v85s0 v119s0 post κ10 ) ∧ (¬ r183 = v10l3 → post false)))))) ∧ (¬ (bi v167s0) = (bi v119s0) → post false))
def wpL_sectors_J147 (χ : XS) (v10l2 : Int32) (v10l3 : Int32) (r58 : Int32) (v85s0 : Bool) (v119s0 : Bool) (post : Bool → Prop) (κ10 : Int32 → Int32 → Prop) (v147s0 : Bool) : Prop := (((bi v147s0) = (bi v85s0) → wpX3_sector χ v10l3 4 (fun r155 => ((r155 = 1 → wpL_sectors_J167 χ v10l2 v10l3 r58 v85s0 v119s0 post κ10 true) ∧ (¬ r155 = 1 → wpL_sectors_J167 χ v10l2 v10l3 r58 v85s0 v119s0 post κ10 false)))) ∧ (¬ (bi v147s0) = (bi v85s0) → post false))
def wpL_sectors_J119 (χ : XS) (v10l2 : Int32) (v10l3 : Int32) (v53s0 : Int32) (r58 : Int32) (v85s0 : Bool) (post : Bool → Prop) (κ10 : Int32 → Int32 → Prop) (v119s0 : Bool) : Prop := wpX3_sector χ v10l3 1 (fun r124 => ((r124 = v53s0 → wpX3_sector χ v10l3 2 (fun r135 => ((r135 = 1 → wpL_sectors_J147 χ v10l2 v10l3 r58 v85s0 v119s0 post κ10 true) ∧ (¬ r135 = 1 → wpL_sectors_J147 χ v10l2 v10l3 r58 v85s0 v119s0 post κ10 false)))) ∧ (¬ r124 = v53s0 → post false)))
def wpL_sectors_J118 (χ : XS) (v10l2 : Int32) (v10l3 : Int32) (v53s0 : Int32) (r58 : Int32) (v85s0 : Bool) (post : Bool → Prop) (κ10 : Int32 → Int32 → Prop)  : Prop := wpL_sectors_J119 χ v10l2 v10l3 v53s0 r58 v85s0 post κ10 false
def wpL_sectors_J85 (χ : XS) (v10l2 : Int32) (v10l3 : Int32) (v53s0 : Int32) (r58 : Int32) (post : Bool → Prop) (κ10 : Int32 → Int32 → Prop) (v85s0 : Bool) : Prop := ((v85s0 = true → ((r58 = (-5) → ((v53s0 = 0 → wpX3_head χ (v10l3 / 16) 3 (fun r108 => ((r108 = 0 → wpL_sectors_J119 χ v10l2 v10l3 v53s0 r58 v85s0 post κ10 true) ∧ (¬ r108 = 0 → wpL_sectors_J118 χ v10l2 v10l3 v53s0 r58 v85s0 post κ10 )))) ∧ (¬ v53s0 = 0 → wpL_sectors_J118 χ v10l2 v10l3 v53s0 r58 v85s0 post κ10 ))) ∧ (¬ r58 = (-5) → wpL_sectors_J118 χ v10l2 v10l3 v53s0 r58 v85s0 post κ10 ))) ∧ (v85s0 = false → wpL_sectors_J118 χ v10l2 v10l3 v53s0 r58 v85s0 post κ10 ))
def wpL_sectors_J53 (χ : XS) (v10l2 : Int32) (v10l3 : Int32) (post : Bool → Prop) (κ10 : Int32 → Int32 → Prop) (v53s0 : Int32) : Prop := wpX3_sector χ v10l3 3 (fun r58 => wpX3_head χ (v10l3 / 16) 1 (fun r73 => (((v10l3 - v10l3 / 16 * 16) < (16 - r73) → wpL_sectors_J85 χ v10l2 v10l3 v53s0 r58 post κ10 false) ∧ (¬ (v10l3 - v10l3 / 16 * 16) < (16 - r73) → wpL_sectors_J85 χ v10l2 v10l3 v53s0 r58 post κ10 true))))
def wpL_sectors_L10 (χ : XS) (r2 : Int32) (post : Bool → Prop) : Nat → Int32 → Int32 → Prop
  | 0, _, _ => False
  | n10 + 1, v10l2, v10l3 => ((64 ≤ v10l3 → wpX3_count χ 4 (fun r249 => ((r249 = v10l2 → wpX3_sector χ 64 0 (fun r260 => ((r260 = (-1) → wpX3_sector χ 0 5 (fun r270 => ((r270 = (-2) → post true) ∧ (¬ r270 = (-2) → post false)))) ∧ (¬ r260 = (-1) → post false)))) ∧ (¬ r249 = v10l2 → post false)))) ∧ (¬ 64 ≤ v10l3 → wpX3_sector χ v10l3 0 (fun r25 => ((r2 ≤ r25 → (((2 * r2) ≤ r25 → wpL_sectors_J53 χ v10l2 v10l3 post (wpL_sectors_L10 χ r2 post n10) 2) ∧ (¬ (2 * r2) ≤ r25 → wpL_sectors_J53 χ v10l2 v10l3 post (wpL_sectors_L10 χ r2 post n10) 1))) ∧ (¬ r2 ≤ r25 → wpL_sectors_J53 χ v10l2 v10l3 post (wpL_sectors_L10 χ r2 post n10) 0)))))
def wpL_sectors (χ : XS) (post : Bool → Prop) : Prop := wpX3_count χ 0 (fun r2 => ∃ n10 : Nat, wpL_sectors_L10 χ r2 post n10 0 0)
set_option maxHeartbeats 4000000 in
set_option maxRecDepth 100000 in
theorem c_L_sectors (l : Launch) (B : va_G) (k : KT) (ad : Nat → Nat → Nat) (χ : XS) (post : Bool → Prop) (hw : wpL_sectors χ post) : Cti l yL_sectors wsL_sectors rm_L_sectors 0 0 B k [.ref (ad 9 0)] (wX3 k ad χ) (fun _ : Unit => wX3 k ad χ) (bpost fun b _ => post b) := by
  refine Cti.of M_L_sectors (Nat.le_of_ble_eq_true rfl) ?_
  intro p e s m args below meth c A C hd ls hl
  have hx := C.1; have hb := C.2.1; have hml := C.2.2.1; have hts := C.2.2.2.2.1
  have hl : lv_has ls 10 [(0, .ref (ad 9 0))] := hl
  have L10 : ∀ (n10 : Nat), ∀ (r2 : Int32) (v10l2 : Int32) (v10l3 : Int32) (H : Heap) (locs : List Loc) (ls : Array Slot), Wd B A s.heap (wX3 k ad χ) H locs → lv_has ls 10 [(0, .ref (ad 9 0)), (1, .int r2), (2, .int v10l2), (3, .int v10l3)] → wpL_sectors_L10 χ r2 post n10 v10l2 v10l3 → W p l e rm_L_sectors s m args below meth c H locs 0 0 (Qi below args s B A (fun _ : Unit => wX3 k ad χ) (bpost fun b _ => post b) 0 0) (F0 m 10 ls []) := by
    intro n10
    induction n10 with
    | zero => intro r2 v10l2 v10l3 H locs ls hd hl hw; exact absurd hw (by simp [wpL_sectors_L10])
    | succ n10 ih10 =>
      intro r2 v10l2 v10l3 H locs ls hd hl hw
      rw [wpL_sectors_L10] at hw
      have J239 : ∀ (r2 : Int32) (v10l2 : Int32) (v10l3 : Int32) (v239s1 : Bool) (H : Heap) (locs : List Loc) (ls : Array Slot), Wd B A s.heap (wX3 k ad χ) H locs → lv_has ls 10 [(0, .ref (ad 9 0)), (1, .int r2), (3, .int v10l3)] → wpL_sectors_J239 v10l2 v10l3 post (wpL_sectors_L10 χ r2 post n10) v239s1 → W p l e rm_L_sectors s m args below meth c H locs 0 0 (Qi below args s B A (fun _ : Unit => wX3 k ad χ) (bpost fun b _ => post b) 0 0) (F0 m 239 ls [.int (bi v239s1), .int v10l2]) := by
        intro r2 v10l2 v10l3 v239s1 H locs ls hd hl hw
        rw [wpL_sectors_J239] at hw
        refine lv_iadd hx hb dL_sectors_239 ?_
        refine lv_istore_n (lv' := [(2, .int (v10l2 + (bi v239s1))), (0, .ref (ad 9 0)), (1, .int r2), (3, .int v10l3)]) hx hb dL_sectors_240 rfl hl (by decide) rfl (fun ls hl => ?_)
        refine lv_iinc (v := v10l3 + 1) (lv' := [(3, .int (v10l3 + 1)), (2, .int (v10l2 + (bi v239s1))), (0, .ref (ad 9 0)), (1, .int r2)]) hx hb dL_sectors_241 hl (k := 3) rfl rfl (by decide) rfl (fun ls hl => ?_)
        refine lv_goto (tgt := 10) hx hb dL_sectors_244 (by decide) ?_
        exact ih10 r2 (v10l2 + (bi v239s1)) (v10l3 + 1) _ _ _ hd (lv_sub hl [2, 3, 1, 0] rfl) hw
      have J228 : ∀ (r2 : Int32) (v10l2 : Int32) (v10l3 : Int32) (v119s0 : Bool) (H : Heap) (locs : List Loc) (ls : Array Slot), Wd B A s.heap (wX3 k ad χ) H locs → lv_has ls 10 [(0, .ref (ad 9 0)), (1, .int r2), (2, .int v10l2), (3, .int v10l3), (9, .int (bi v119s0))] → wpL_sectors_J228 v10l2 v10l3 v119s0 post (wpL_sectors_L10 χ r2 post n10)  → W p l e rm_L_sectors s m args below meth c H locs 0 0 (Qi below args s B A (fun _ : Unit => wX3 k ad χ) (bpost fun b _ => post b) 0 0) (F0 m 228 ls []) := by
        intro r2 v10l2 v10l3 v119s0 H locs ls hd hl hw
        rw [wpL_sectors_J228] at hw
        refine lv_iload_n hx hb dL_sectors_228 rfl (lv_at hl 2 rfl) ?_
        refine lv_iload hx hb dL_sectors_229 (lv_at hl 4 rfl) ?_
        refine lv_if_eq (tgt := 238) hx hb dL_sectors_231 (by decide) (fun c97 => ?_) (fun c97 => ?_)
        · replace hw := hw.2 ((bi_eq _).mp c97)
          refine lv_iconst (v := 0) hx hb dL_sectors_238 (by decide) ?_
          exact J239 r2 v10l2 v10l3 false _ _ _ hd (lv_sub hl [0, 1, 3] rfl) hw
        · replace hw := hw.1 ((bi_ne _).mp c97)
          refine lv_iconst (v := 1) hx hb dL_sectors_234 (by decide) ?_
          refine lv_goto (tgt := 239) hx hb dL_sectors_235 (by decide) ?_
          exact J239 r2 v10l2 v10l3 true _ _ _ hd (lv_sub hl [0, 1, 3] rfl) hw
      have J208 : ∀ (r2 : Int32) (v10l2 : Int32) (v10l3 : Int32) (r58 : Int32) (v119s0 : Bool) (H : Heap) (locs : List Loc) (ls : Array Slot), Wd B A s.heap (wX3 k ad χ) H locs → lv_has ls 10 [(0, .ref (ad 9 0)), (1, .int r2), (2, .int v10l2), (3, .int v10l3), (4, .int (v10l3 / 16)), (7, .int r58), (9, .int (bi v119s0))] → wpL_sectors_J208 χ v10l2 v10l3 r58 v119s0 post (wpL_sectors_L10 χ r2 post n10)  → W p l e rm_L_sectors s m args below meth c H locs 0 0 (Qi below args s B A (fun _ : Unit => wX3 k ad χ) (bpost fun b _ => post b) 0 0) (F0 m 208 ls []) := by
        intro r2 v10l2 v10l3 r58 v119s0 H locs ls hd hl hw
        rw [wpL_sectors_J208] at hw
        refine lv_aload_n hx hb dL_sectors_208 rfl (lv_at hl 0 rfl) ?_
        refine lv_iload hx hb dL_sectors_209 (lv_at hl 4 rfl) ?_
        refine lv_iconst (v := 3) hx hb dL_sectors_211 (by decide) ?_
        refine v_i C hd hl M_X3_head gL_sectors_X3_head (c_X3_head l B k ad χ (v10l3 / 16) 3 _ hw) ⟨rfl, rfl⟩ ⟨Nat.le_of_ble_eq_true rfl, Nat.le_of_ble_eq_true rfl⟩ (pm_all _) (fun _ => wX3 k ad χ) (fun _ => (pm_all _).symm) 0 3 rfl rfl rfl rfl rfl (Nat.le_of_ble_eq_true rfl) dL_sectors_212 ⟨Nat.le_of_ble_eq_true rfl, Nat.le_of_ble_eq_true rfl⟩ (fun r212 _ H locs hw hd => ?_)
        refine lv_iconst (v := 1) hx hb dL_sectors_215 (by decide) ?_
        refine lv_icmp_ne (tgt := 228) hx hb dL_sectors_216 (by decide) (fun c98 => ?_) (fun c98 => ?_)
        · replace hw := hw.2 c98
          exact J228 r2 v10l2 v10l3 v119s0 _ _ _ hd (lv_sub hl [0, 1, 2, 3, 6] rfl) hw
        · replace hw := hw.1 c98
          refine lv_iload hx hb dL_sectors_219 (lv_at hl 5 rfl) ?_
          refine lv_bipush (v := (-5)) hx hb dL_sectors_221 (by decide) ?_
          refine lv_icmp_eq (tgt := 228) hx hb dL_sectors_223 (by decide) (fun c99 => ?_) (fun c99 => ?_)
          · replace hw := hw.1 c99
            exact J228 r2 v10l2 v10l3 v119s0 _ _ _ hd (lv_sub hl [0, 1, 2, 3, 6] rfl) hw
          · replace hw := hw.2 c99
            refine lv_iconst (v := 0) hx hb dL_sectors_226 (by decide) ?_
            exact r_z false C hd dL_sectors_227 () rfl hw
      have J190 : ∀ (r2 : Int32) (v10l2 : Int32) (v10l3 : Int32) (r58 : Int32) (v85s0 : Bool) (v119s0 : Bool) (H : Heap) (locs : List Loc) (ls : Array Slot), Wd B A s.heap (wX3 k ad χ) H locs → lv_has ls 10 [(0, .ref (ad 9 0)), (1, .int r2), (2, .int v10l2), (3, .int v10l3), (4, .int (v10l3 / 16)), (7, .int r58), (8, .int (bi v85s0)), (9, .int (bi v119s0))] → wpL_sectors_J190 χ v10l2 v10l3 r58 v85s0 v119s0 post (wpL_sectors_L10 χ r2 post n10)  → W p l e rm_L_sectors s m args below meth c H locs 0 0 (Qi below args s B A (fun _ : Unit => wX3 k ad χ) (bpost fun b _ => post b) 0 0) (F0 m 190 ls []) := by
        intro r2 v10l2 v10l3 r58 v85s0 v119s0 H locs ls hd hl hw
        rw [wpL_sectors_J190] at hw
        refine lv_iload hx hb dL_sectors_190 (lv_at hl 6 rfl) ?_
        refine lv_if_ne (tgt := 208) hx hb dL_sectors_192 (by decide) (fun c102 => ?_) (fun c102 => ?_)
        · replace hw := hw.1 ((bi_ne _).mp c102)
          exact J208 r2 v10l2 v10l3 r58 v119s0 _ _ _ hd (lv_sub hl [0, 1, 2, 3, 4, 5, 7] rfl) hw
        · replace hw := hw.2 ((bi_eq _).mp c102)
          refine lv_iload hx hb dL_sectors_195 (lv_at hl 5 rfl) ?_
          refine lv_bipush (v := (-5)) hx hb dL_sectors_197 (by decide) ?_
          refine lv_icmp_eq (tgt := 208) hx hb dL_sectors_199 (by decide) (fun c100 => ?_) (fun c100 => ?_)
          · replace hw := hw.1 c100
            exact J208 r2 v10l2 v10l3 r58 v119s0 _ _ _ hd (lv_sub hl [0, 1, 2, 3, 4, 5, 7] rfl) hw
          · replace hw := hw.2 c100
            refine lv_iload hx hb dL_sectors_202 (lv_at hl 5 rfl) ?_
            refine lv_iload_n hx hb dL_sectors_204 rfl (lv_at hl 3 rfl) ?_
            refine lv_icmp_ne (tgt := 226) hx hb dL_sectors_205 (by decide) (fun c101 => ?_) (fun c101 => ?_)
            · replace hw := hw.2 c101
              refine lv_iconst (v := 0) hx hb dL_sectors_226 (by decide) ?_
              exact r_z false C hd dL_sectors_227 () rfl hw
            · replace hw := hw.1 c101
              exact J208 r2 v10l2 v10l3 r58 v119s0 _ _ _ hd (lv_sub hl [0, 1, 2, 3, 4, 5, 7] rfl) hw
      have J167 : ∀ (r2 : Int32) (v10l2 : Int32) (v10l3 : Int32) (r58 : Int32) (v85s0 : Bool) (v119s0 : Bool) (v167s0 : Bool) (H : Heap) (locs : List Loc) (ls : Array Slot), Wd B A s.heap (wX3 k ad χ) H locs → lv_has ls 10 [(0, .ref (ad 9 0)), (1, .int r2), (2, .int v10l2), (3, .int v10l3), (4, .int (v10l3 / 16)), (7, .int r58), (8, .int (bi v85s0)), (9, .int (bi v119s0))] → wpL_sectors_J167 χ v10l2 v10l3 r58 v85s0 v119s0 post (wpL_sectors_L10 χ r2 post n10) v167s0 → W p l e rm_L_sectors s m args below meth c H locs 0 0 (Qi below args s B A (fun _ : Unit => wX3 k ad χ) (bpost fun b _ => post b) 0 0) (F0 m 167 ls [.int (bi v167s0)]) := by
        intro r2 v10l2 v10l3 r58 v85s0 v119s0 v167s0 H locs ls hd hl hw
        rw [wpL_sectors_J167] at hw
        refine lv_iload hx hb dL_sectors_167 (lv_at hl 7 rfl) ?_
        refine lv_icmp_ne (tgt := 226) hx hb dL_sectors_169 (by decide) (fun c103 => ?_) (fun c103 => ?_)
        · replace hw := hw.2 c103
          refine lv_iconst (v := 0) hx hb dL_sectors_226 (by decide) ?_
          exact r_z false C hd dL_sectors_227 () rfl hw
        · replace hw := hw.1 c103
          refine lv_iload hx hb dL_sectors_172 (lv_at hl 5 rfl) ?_
          refine lv_bipush (v := (-5)) hx hb dL_sectors_174 (by decide) ?_
          refine lv_icmp_eq (tgt := 190) hx hb dL_sectors_176 (by decide) (fun c104 => ?_) (fun c104 => ?_)
          · replace hw := hw.1 c104
            exact J190 r2 v10l2 v10l3 r58 v85s0 v119s0 _ _ _ hd (lv_sub hl [0, 1, 2, 3, 4, 5, 6, 7] rfl) hw
          · replace hw := hw.2 c104
            refine lv_aload_n hx hb dL_sectors_179 rfl (lv_at hl 0 rfl) ?_
            refine lv_iload hx hb dL_sectors_180 (lv_at hl 5 rfl) ?_
            refine lv_iconst (v := 1) hx hb dL_sectors_182 (by decide) ?_
            refine v_i C hd hl M_X3_address gL_sectors_X3_address (c_X3_address l B k ad χ r58 1 _ hw) ⟨rfl, rfl⟩ ⟨Nat.le_of_ble_eq_true rfl, Nat.le_of_ble_eq_true rfl⟩ (pm_all _) (fun _ => wX3 k ad χ) (fun _ => (pm_all _).symm) 0 3 rfl rfl rfl rfl rfl (Nat.le_of_ble_eq_true rfl) dL_sectors_183 ⟨Nat.le_of_ble_eq_true rfl, Nat.le_of_ble_eq_true rfl⟩ (fun r183 _ H locs hw hd => ?_)
            refine lv_iload_n hx hb dL_sectors_186 rfl (lv_at hl 3 rfl) ?_
            refine lv_icmp_ne (tgt := 226) hx hb dL_sectors_187 (by decide) (fun c105 => ?_) (fun c105 => ?_)
            · replace hw := hw.2 c105
              refine lv_iconst (v := 0) hx hb dL_sectors_226 (by decide) ?_
              exact r_z false C hd dL_sectors_227 () rfl hw
            · replace hw := hw.1 c105
              exact J190 r2 v10l2 v10l3 r58 v85s0 v119s0 _ _ _ hd (lv_sub hl [0, 1, 2, 3, 4, 5, 6, 7] rfl) hw
      have J147 : ∀ (r2 : Int32) (v10l2 : Int32) (v10l3 : Int32) (r58 : Int32) (v85s0 : Bool) (v119s0 : Bool) (v147s0 : Bool) (H : Heap) (locs : List Loc) (ls : Array Slot), Wd B A s.heap (wX3 k ad χ) H locs → lv_has ls 10 [(0, .ref (ad 9 0)), (1, .int r2), (2, .int v10l2), (3, .int v10l3), (4, .int (v10l3 / 16)), (7, .int r58), (8, .int (bi v85s0)), (9, .int (bi v119s0))] → wpL_sectors_J147 χ v10l2 v10l3 r58 v85s0 v119s0 post (wpL_sectors_L10 χ r2 post n10) v147s0 → W p l e rm_L_sectors s m args below meth c H locs 0 0 (Qi below args s B A (fun _ : Unit => wX3 k ad χ) (bpost fun b _ => post b) 0 0) (F0 m 147 ls [.int (bi v147s0)]) := by
        intro r2 v10l2 v10l3 r58 v85s0 v119s0 v147s0 H locs ls hd hl hw
        rw [wpL_sectors_J147] at hw
        refine lv_iload hx hb dL_sectors_147 (lv_at hl 6 rfl) ?_
        refine lv_icmp_ne (tgt := 226) hx hb dL_sectors_149 (by decide) (fun c106 => ?_) (fun c106 => ?_)
        · replace hw := hw.2 c106
          refine lv_iconst (v := 0) hx hb dL_sectors_226 (by decide) ?_
          exact r_z false C hd dL_sectors_227 () rfl hw
        · replace hw := hw.1 c106
          refine lv_aload_n hx hb dL_sectors_152 rfl (lv_at hl 0 rfl) ?_
          refine lv_iload_n hx hb dL_sectors_153 rfl (lv_at hl 3 rfl) ?_
          refine lv_iconst (v := 4) hx hb dL_sectors_154 (by decide) ?_
          refine v_i C hd hl M_X3_sector gL_sectors_X3_sector (c_X3_sector l B k ad χ v10l3 4 _ hw) ⟨rfl, rfl⟩ ⟨Nat.le_of_ble_eq_true rfl, Nat.le_of_ble_eq_true rfl⟩ (pm_all _) (fun _ => wX3 k ad χ) (fun _ => (pm_all _).symm) 0 3 rfl rfl rfl rfl rfl (Nat.le_of_ble_eq_true rfl) dL_sectors_155 ⟨Nat.le_of_ble_eq_true rfl, Nat.le_of_ble_eq_true rfl⟩ (fun r155 _ H locs hw hd => ?_)
          refine lv_iconst (v := 1) hx hb dL_sectors_158 (by decide) ?_
          refine lv_icmp_ne (tgt := 166) hx hb dL_sectors_159 (by decide) (fun c107 => ?_) (fun c107 => ?_)
          · replace hw := hw.2 c107
            refine lv_iconst (v := 0) hx hb dL_sectors_166 (by decide) ?_
            exact J167 r2 v10l2 v10l3 r58 v85s0 v119s0 false _ _ _ hd (lv_sub hl [0, 1, 2, 3, 4, 5, 6, 7] rfl) hw
          · replace hw := hw.1 c107
            refine lv_iconst (v := 1) hx hb dL_sectors_162 (by decide) ?_
            refine lv_goto (tgt := 167) hx hb dL_sectors_163 (by decide) ?_
            exact J167 r2 v10l2 v10l3 r58 v85s0 v119s0 true _ _ _ hd (lv_sub hl [0, 1, 2, 3, 4, 5, 6, 7] rfl) hw
      have J119 : ∀ (r2 : Int32) (v10l2 : Int32) (v10l3 : Int32) (v53s0 : Int32) (r58 : Int32) (v85s0 : Bool) (v119s0 : Bool) (H : Heap) (locs : List Loc) (ls : Array Slot), Wd B A s.heap (wX3 k ad χ) H locs → lv_has ls 10 [(0, .ref (ad 9 0)), (1, .int r2), (2, .int v10l2), (3, .int v10l3), (4, .int (v10l3 / 16)), (6, .int v53s0), (7, .int r58), (8, .int (bi v85s0))] → wpL_sectors_J119 χ v10l2 v10l3 v53s0 r58 v85s0 post (wpL_sectors_L10 χ r2 post n10) v119s0 → W p l e rm_L_sectors s m args below meth c H locs 0 0 (Qi below args s B A (fun _ : Unit => wX3 k ad χ) (bpost fun b _ => post b) 0 0) (F0 m 119 ls [.int (bi v119s0)]) := by
        intro r2 v10l2 v10l3 v53s0 r58 v85s0 v119s0 H locs ls hd hl hw
        rw [wpL_sectors_J119] at hw
        refine lv_istore (lv' := [(9, .int (bi v119s0)), (0, .ref (ad 9 0)), (1, .int r2), (2, .int v10l2), (3, .int v10l3), (4, .int (v10l3 / 16)), (6, .int v53s0), (7, .int r58), (8, .int (bi v85s0))]) hx hb dL_sectors_119 hl (by decide) rfl (fun ls hl => ?_)
        refine lv_aload_n hx hb dL_sectors_121 rfl (lv_at hl 1 rfl) ?_
        refine lv_iload_n hx hb dL_sectors_122 rfl (lv_at hl 4 rfl) ?_
        refine lv_iconst (v := 1) hx hb dL_sectors_123 (by decide) ?_
        refine v_i C hd hl M_X3_sector gL_sectors_X3_sector (c_X3_sector l B k ad χ v10l3 1 _ hw) ⟨rfl, rfl⟩ ⟨Nat.le_of_ble_eq_true rfl, Nat.le_of_ble_eq_true rfl⟩ (pm_all _) (fun _ => wX3 k ad χ) (fun _ => (pm_all _).symm) 0 3 rfl rfl rfl rfl rfl (Nat.le_of_ble_eq_true rfl) dL_sectors_124 ⟨Nat.le_of_ble_eq_true rfl, Nat.le_of_ble_eq_true rfl⟩ (fun r124 _ H locs hw hd => ?_)
        refine lv_iload hx hb dL_sectors_127 (lv_at hl 6 rfl) ?_
        refine lv_icmp_ne (tgt := 226) hx hb dL_sectors_129 (by decide) (fun c108 => ?_) (fun c108 => ?_)
        · replace hw := hw.2 c108
          refine lv_iconst (v := 0) hx hb dL_sectors_226 (by decide) ?_
          exact r_z false C hd dL_sectors_227 () rfl hw
        · replace hw := hw.1 c108
          refine lv_aload_n hx hb dL_sectors_132 rfl (lv_at hl 1 rfl) ?_
          refine lv_iload_n hx hb dL_sectors_133 rfl (lv_at hl 4 rfl) ?_
          refine lv_iconst (v := 2) hx hb dL_sectors_134 (by decide) ?_
          refine v_i C hd hl M_X3_sector gL_sectors_X3_sector (c_X3_sector l B k ad χ v10l3 2 _ hw) ⟨rfl, rfl⟩ ⟨Nat.le_of_ble_eq_true rfl, Nat.le_of_ble_eq_true rfl⟩ (pm_all _) (fun _ => wX3 k ad χ) (fun _ => (pm_all _).symm) 0 3 rfl rfl rfl rfl rfl (Nat.le_of_ble_eq_true rfl) dL_sectors_135 ⟨Nat.le_of_ble_eq_true rfl, Nat.le_of_ble_eq_true rfl⟩ (fun r135 _ H locs hw hd => ?_)
          refine lv_iconst (v := 1) hx hb dL_sectors_138 (by decide) ?_
          refine lv_icmp_ne (tgt := 146) hx hb dL_sectors_139 (by decide) (fun c109 => ?_) (fun c109 => ?_)
          · replace hw := hw.2 c109
            refine lv_iconst (v := 0) hx hb dL_sectors_146 (by decide) ?_
            exact J147 r2 v10l2 v10l3 r58 v85s0 v119s0 false _ _ _ hd (lv_sub hl [1, 2, 3, 4, 5, 7, 8, 0] rfl) hw
          · replace hw := hw.1 c109
            refine lv_iconst (v := 1) hx hb dL_sectors_142 (by decide) ?_
            refine lv_goto (tgt := 147) hx hb dL_sectors_143 (by decide) ?_
            exact J147 r2 v10l2 v10l3 r58 v85s0 v119s0 true _ _ _ hd (lv_sub hl [1, 2, 3, 4, 5, 7, 8, 0] rfl) hw
      have J118 : ∀ (r2 : Int32) (v10l2 : Int32) (v10l3 : Int32) (v53s0 : Int32) (r58 : Int32) (v85s0 : Bool) (H : Heap) (locs : List Loc) (ls : Array Slot), Wd B A s.heap (wX3 k ad χ) H locs → lv_has ls 10 [(0, .ref (ad 9 0)), (1, .int r2), (2, .int v10l2), (3, .int v10l3), (4, .int (v10l3 / 16)), (6, .int v53s0), (7, .int r58), (8, .int (bi v85s0))] → wpL_sectors_J118 χ v10l2 v10l3 v53s0 r58 v85s0 post (wpL_sectors_L10 χ r2 post n10)  → W p l e rm_L_sectors s m args below meth c H locs 0 0 (Qi below args s B A (fun _ : Unit => wX3 k ad χ) (bpost fun b _ => post b) 0 0) (F0 m 118 ls []) := by
        intro r2 v10l2 v10l3 v53s0 r58 v85s0 H locs ls hd hl hw
        rw [wpL_sectors_J118] at hw
        refine lv_iconst (v := 0) hx hb dL_sectors_118 (by decide) ?_
        exact J119 r2 v10l2 v10l3 v53s0 r58 v85s0 false _ _ _ hd (lv_sub hl [0, 1, 2, 3, 4, 5, 6, 7] rfl) hw
      have J85 : ∀ (r2 : Int32) (v10l2 : Int32) (v10l3 : Int32) (v53s0 : Int32) (r58 : Int32) (v85s0 : Bool) (H : Heap) (locs : List Loc) (ls : Array Slot), Wd B A s.heap (wX3 k ad χ) H locs → lv_has ls 10 [(0, .ref (ad 9 0)), (1, .int r2), (2, .int v10l2), (3, .int v10l3), (4, .int (v10l3 / 16)), (6, .int v53s0), (7, .int r58)] → wpL_sectors_J85 χ v10l2 v10l3 v53s0 r58 post (wpL_sectors_L10 χ r2 post n10) v85s0 → W p l e rm_L_sectors s m args below meth c H locs 0 0 (Qi below args s B A (fun _ : Unit => wX3 k ad χ) (bpost fun b _ => post b) 0 0) (F0 m 85 ls [.int (bi v85s0)]) := by
        intro r2 v10l2 v10l3 v53s0 r58 v85s0 H locs ls hd hl hw
        rw [wpL_sectors_J85] at hw
        refine lv_istore (lv' := [(8, .int (bi v85s0)), (0, .ref (ad 9 0)), (1, .int r2), (2, .int v10l2), (3, .int v10l3), (4, .int (v10l3 / 16)), (6, .int v53s0), (7, .int r58)]) hx hb dL_sectors_85 hl (by decide) rfl (fun ls hl => ?_)
        refine lv_iload hx hb dL_sectors_87 (lv_at hl 0 rfl) ?_
        refine lv_if_eq (tgt := 118) hx hb dL_sectors_89 (by decide) (fun c113 => ?_) (fun c113 => ?_)
        · replace hw := hw.2 ((bi_eq _).mp c113)
          exact J118 r2 v10l2 v10l3 v53s0 r58 v85s0 _ _ _ hd (lv_sub hl [1, 2, 3, 4, 5, 6, 7, 0] rfl) hw
        · replace hw := hw.1 ((bi_ne _).mp c113)
          refine lv_iload hx hb dL_sectors_92 (lv_at hl 7 rfl) ?_
          refine lv_bipush (v := (-5)) hx hb dL_sectors_94 (by decide) ?_
          refine lv_icmp_ne (tgt := 118) hx hb dL_sectors_96 (by decide) (fun c110 => ?_) (fun c110 => ?_)
          · replace hw := hw.2 c110
            exact J118 r2 v10l2 v10l3 v53s0 r58 v85s0 _ _ _ hd (lv_sub hl [1, 2, 3, 4, 5, 6, 7, 0] rfl) hw
          · replace hw := hw.1 c110
            refine lv_iload hx hb dL_sectors_99 (lv_at hl 6 rfl) ?_
            refine lv_if_ne (tgt := 118) hx hb dL_sectors_101 (by decide) (fun c111 => ?_) (fun c111 => ?_)
            · replace hw := hw.2 c111
              exact J118 r2 v10l2 v10l3 v53s0 r58 v85s0 _ _ _ hd (lv_sub hl [1, 2, 3, 4, 5, 6, 7, 0] rfl) hw
            · replace hw := hw.1 c111
              refine lv_aload_n hx hb dL_sectors_104 rfl (lv_at hl 1 rfl) ?_
              refine lv_iload hx hb dL_sectors_105 (lv_at hl 5 rfl) ?_
              refine lv_iconst (v := 3) hx hb dL_sectors_107 (by decide) ?_
              refine v_i C hd hl M_X3_head gL_sectors_X3_head (c_X3_head l B k ad χ (v10l3 / 16) 3 _ hw) ⟨rfl, rfl⟩ ⟨Nat.le_of_ble_eq_true rfl, Nat.le_of_ble_eq_true rfl⟩ (pm_all _) (fun _ => wX3 k ad χ) (fun _ => (pm_all _).symm) 0 3 rfl rfl rfl rfl rfl (Nat.le_of_ble_eq_true rfl) dL_sectors_108 ⟨Nat.le_of_ble_eq_true rfl, Nat.le_of_ble_eq_true rfl⟩ (fun r108 _ H locs hw hd => ?_)
              refine lv_if_ne (tgt := 118) hx hb dL_sectors_111 (by decide) (fun c112 => ?_) (fun c112 => ?_)
              · replace hw := hw.2 c112
                exact J118 r2 v10l2 v10l3 v53s0 r58 v85s0 _ _ _ hd (lv_sub hl [1, 2, 3, 4, 5, 6, 7, 0] rfl) hw
              · replace hw := hw.1 c112
                refine lv_iconst (v := 1) hx hb dL_sectors_114 (by decide) ?_
                refine lv_goto (tgt := 119) hx hb dL_sectors_115 (by decide) ?_
                exact J119 r2 v10l2 v10l3 v53s0 r58 v85s0 true _ _ _ hd (lv_sub hl [1, 2, 3, 4, 5, 6, 7, 0] rfl) hw
      have J53 : ∀ (r2 : Int32) (v10l2 : Int32) (v10l3 : Int32) (v53s0 : Int32) (H : Heap) (locs : List Loc) (ls : Array Slot), Wd B A s.heap (wX3 k ad χ) H locs → lv_has ls 10 [(0, .ref (ad 9 0)), (1, .int r2), (2, .int v10l2), (3, .int v10l3), (4, .int (v10l3 / 16))] → wpL_sectors_J53 χ v10l2 v10l3 post (wpL_sectors_L10 χ r2 post n10) v53s0 → W p l e rm_L_sectors s m args below meth c H locs 0 0 (Qi below args s B A (fun _ : Unit => wX3 k ad χ) (bpost fun b _ => post b) 0 0) (F0 m 53 ls [.int v53s0]) := by
        intro r2 v10l2 v10l3 v53s0 H locs ls hd hl hw
        rw [wpL_sectors_J53] at hw
        refine lv_istore (lv' := [(6, .int v53s0), (0, .ref (ad 9 0)), (1, .int r2), (2, .int v10l2), (3, .int v10l3), (4, .int (v10l3 / 16))]) hx hb dL_sectors_53 hl (by decide) rfl (fun ls hl => ?_)
        refine lv_aload_n hx hb dL_sectors_55 rfl (lv_at hl 1 rfl) ?_
        refine lv_iload_n hx hb dL_sectors_56 rfl (lv_at hl 4 rfl) ?_
        refine lv_iconst (v := 3) hx hb dL_sectors_57 (by decide) ?_
        refine v_i C hd hl M_X3_sector gL_sectors_X3_sector (c_X3_sector l B k ad χ v10l3 3 _ hw) ⟨rfl, rfl⟩ ⟨Nat.le_of_ble_eq_true rfl, Nat.le_of_ble_eq_true rfl⟩ (pm_all _) (fun _ => wX3 k ad χ) (fun _ => (pm_all _).symm) 0 3 rfl rfl rfl rfl rfl (Nat.le_of_ble_eq_true rfl) dL_sectors_58 ⟨Nat.le_of_ble_eq_true rfl, Nat.le_of_ble_eq_true rfl⟩ (fun r58 _ H locs hw hd => ?_)
        refine lv_istore (lv' := [(7, .int r58), (6, .int v53s0), (0, .ref (ad 9 0)), (1, .int r2), (2, .int v10l2), (3, .int v10l3), (4, .int (v10l3 / 16))]) hx hb dL_sectors_61 hl (by decide) rfl (fun ls hl => ?_)
        refine lv_iload_n hx hb dL_sectors_63 rfl (lv_at hl 5 rfl) ?_
        refine lv_bipush (v := 16) hx hb dL_sectors_64 (by decide) ?_
        refine lv_irem hx hb dL_sectors_66 (by decide) ?_
        refine lv_bipush (v := 16) hx hb dL_sectors_67 (by decide) ?_
        refine lv_aload_n hx hb dL_sectors_69 rfl (lv_at hl 2 rfl) ?_
        refine lv_iload hx hb dL_sectors_70 (lv_at hl 6 rfl) ?_
        refine lv_iconst (v := 1) hx hb dL_sectors_72 (by decide) ?_
        refine v_i C hd hl M_X3_head gL_sectors_X3_head (c_X3_head l B k ad χ (v10l3 / 16) 1 _ hw) ⟨rfl, rfl⟩ ⟨Nat.le_of_ble_eq_true rfl, Nat.le_of_ble_eq_true rfl⟩ (pm_all _) (fun _ => wX3 k ad χ) (fun _ => (pm_all _).symm) 0 3 rfl rfl rfl rfl rfl (Nat.le_of_ble_eq_true rfl) dL_sectors_73 ⟨Nat.le_of_ble_eq_true rfl, Nat.le_of_ble_eq_true rfl⟩ (fun r73 _ H locs hw hd => ?_)
        refine lv_isub hx hb dL_sectors_76 ?_
        refine lv_icmp_lt (tgt := 84) hx hb dL_sectors_77 (by decide) (fun c114 => ?_) (fun c114 => ?_)
        · replace hw := hw.1 c114
          refine lv_iconst (v := 0) hx hb dL_sectors_84 (by decide) ?_
          exact J85 r2 v10l2 v10l3 v53s0 r58 false _ _ _ hd (lv_sub hl [2, 3, 4, 5, 6, 1, 0] rfl) hw
        · replace hw := hw.2 c114
          refine lv_iconst (v := 1) hx hb dL_sectors_80 (by decide) ?_
          refine lv_goto (tgt := 85) hx hb dL_sectors_81 (by decide) ?_
          exact J85 r2 v10l2 v10l3 v53s0 r58 true _ _ _ hd (lv_sub hl [2, 3, 4, 5, 6, 1, 0] rfl) hw
      refine lv_iload_n hx hb dL_sectors_10 rfl (lv_at hl 3 rfl) ?_
      refine lv_bipush (v := 64) hx hb dL_sectors_11 (by decide) ?_
      refine lv_icmp_ge (tgt := 247) hx hb dL_sectors_13 (by decide) (fun c115 => ?_) (fun c115 => ?_)
      · replace hw := hw.1 c115
        refine lv_aload_n hx hb dL_sectors_247 rfl (lv_at hl 0 rfl) ?_
        refine lv_iconst (v := 4) hx hb dL_sectors_248 (by decide) ?_
        refine v_i C hd hl M_X3_count gL_sectors_X3_count (c_X3_count l B k ad χ 4 _ hw) ⟨rfl, rfl⟩ ⟨Nat.le_of_ble_eq_true rfl, Nat.le_of_ble_eq_true rfl⟩ (pm_all _) (fun _ => wX3 k ad χ) (fun _ => (pm_all _).symm) 0 3 rfl rfl rfl rfl rfl (Nat.le_of_ble_eq_true rfl) dL_sectors_249 ⟨Nat.le_of_ble_eq_true rfl, Nat.le_of_ble_eq_true rfl⟩ (fun r249 _ H locs hw hd => ?_)
        refine lv_iload_n hx hb dL_sectors_252 rfl (lv_at hl 2 rfl) ?_
        refine lv_icmp_ne (tgt := 282) hx hb dL_sectors_253 (by decide) (fun c116 => ?_) (fun c116 => ?_)
        · replace hw := hw.2 c116
          refine lv_iconst (v := 0) hx hb dL_sectors_282 (by decide) ?_
          exact r_z false C hd dL_sectors_283 () rfl hw
        · replace hw := hw.1 c116
          refine lv_aload_n hx hb dL_sectors_256 rfl (lv_at hl 0 rfl) ?_
          refine lv_bipush (v := 64) hx hb dL_sectors_257 (by decide) ?_
          refine lv_iconst (v := 0) hx hb dL_sectors_259 (by decide) ?_
          refine v_i C hd hl M_X3_sector gL_sectors_X3_sector (c_X3_sector l B k ad χ 64 0 _ hw) ⟨rfl, rfl⟩ ⟨Nat.le_of_ble_eq_true rfl, Nat.le_of_ble_eq_true rfl⟩ (pm_all _) (fun _ => wX3 k ad χ) (fun _ => (pm_all _).symm) 0 3 rfl rfl rfl rfl rfl (Nat.le_of_ble_eq_true rfl) dL_sectors_260 ⟨Nat.le_of_ble_eq_true rfl, Nat.le_of_ble_eq_true rfl⟩ (fun r260 _ H locs hw hd => ?_)
          refine lv_iconst (v := (-1)) hx hb dL_sectors_263 (by decide) ?_
          refine lv_icmp_ne (tgt := 282) hx hb dL_sectors_264 (by decide) (fun c117 => ?_) (fun c117 => ?_)
          · replace hw := hw.2 c117
            refine lv_iconst (v := 0) hx hb dL_sectors_282 (by decide) ?_
            exact r_z false C hd dL_sectors_283 () rfl hw
          · replace hw := hw.1 c117
            refine lv_aload_n hx hb dL_sectors_267 rfl (lv_at hl 0 rfl) ?_
            refine lv_iconst (v := 0) hx hb dL_sectors_268 (by decide) ?_
            refine lv_iconst (v := 5) hx hb dL_sectors_269 (by decide) ?_
            refine v_i C hd hl M_X3_sector gL_sectors_X3_sector (c_X3_sector l B k ad χ 0 5 _ hw) ⟨rfl, rfl⟩ ⟨Nat.le_of_ble_eq_true rfl, Nat.le_of_ble_eq_true rfl⟩ (pm_all _) (fun _ => wX3 k ad χ) (fun _ => (pm_all _).symm) 0 3 rfl rfl rfl rfl rfl (Nat.le_of_ble_eq_true rfl) dL_sectors_270 ⟨Nat.le_of_ble_eq_true rfl, Nat.le_of_ble_eq_true rfl⟩ (fun r270 _ H locs hw hd => ?_)
            refine lv_bipush (v := (-2)) hx hb dL_sectors_273 (by decide) ?_
            refine lv_icmp_ne (tgt := 282) hx hb dL_sectors_275 (by decide) (fun c118 => ?_) (fun c118 => ?_)
            · replace hw := hw.2 c118
              refine lv_iconst (v := 0) hx hb dL_sectors_282 (by decide) ?_
              exact r_z false C hd dL_sectors_283 () rfl hw
            · replace hw := hw.1 c118
              refine lv_iconst (v := 1) hx hb dL_sectors_278 (by decide) ?_
              refine lv_goto (tgt := 283) hx hb dL_sectors_279 (by decide) ?_
              exact r_z true C hd dL_sectors_283 () rfl hw
      · replace hw := hw.2 c115
        refine lv_iload_n hx hb dL_sectors_16 rfl (lv_at hl 3 rfl) ?_
        refine lv_bipush (v := 16) hx hb dL_sectors_17 (by decide) ?_
        refine lv_idiv hx hb dL_sectors_19 (by decide) ?_
        refine lv_istore (lv' := [(4, .int (v10l3 / 16)), (0, .ref (ad 9 0)), (1, .int r2), (2, .int v10l2), (3, .int v10l3)]) hx hb dL_sectors_20 hl (by decide) rfl (fun ls hl => ?_)
        refine lv_aload_n hx hb dL_sectors_22 rfl (lv_at hl 1 rfl) ?_
        refine lv_iload_n hx hb dL_sectors_23 rfl (lv_at hl 4 rfl) ?_
        refine lv_iconst (v := 0) hx hb dL_sectors_24 (by decide) ?_
        refine v_i C hd hl M_X3_sector gL_sectors_X3_sector (c_X3_sector l B k ad χ v10l3 0 _ hw) ⟨rfl, rfl⟩ ⟨Nat.le_of_ble_eq_true rfl, Nat.le_of_ble_eq_true rfl⟩ (pm_all _) (fun _ => wX3 k ad χ) (fun _ => (pm_all _).symm) 0 3 rfl rfl rfl rfl rfl (Nat.le_of_ble_eq_true rfl) dL_sectors_25 ⟨Nat.le_of_ble_eq_true rfl, Nat.le_of_ble_eq_true rfl⟩ (fun r25 _ H locs hw hd => ?_)
        refine lv_istore (lv' := [(5, .int r25), (4, .int (v10l3 / 16)), (0, .ref (ad 9 0)), (1, .int r2), (2, .int v10l2), (3, .int v10l3)]) hx hb dL_sectors_28 hl (by decide) rfl (fun ls hl => ?_)
        refine lv_iload hx hb dL_sectors_30 (lv_at hl 0 rfl) ?_
        refine lv_iload_n hx hb dL_sectors_32 rfl (lv_at hl 3 rfl) ?_
        refine lv_icmp_ge (tgt := 40) hx hb dL_sectors_33 (by decide) (fun c119 => ?_) (fun c119 => ?_)
        · replace hw := hw.1 c119
          refine lv_iload hx hb dL_sectors_40 (lv_at hl 0 rfl) ?_
          refine lv_iconst (v := 2) hx hb dL_sectors_42 (by decide) ?_
          refine lv_iload_n hx hb dL_sectors_43 rfl (lv_at hl 3 rfl) ?_
          refine lv_imul hx hb dL_sectors_44 ?_
          refine lv_icmp_ge (tgt := 52) hx hb dL_sectors_45 (by decide) (fun c120 => ?_) (fun c120 => ?_)
          · replace hw := hw.1 c120
            refine lv_iconst (v := 2) hx hb dL_sectors_52 (by decide) ?_
            exact J53 r2 v10l2 v10l3 2 _ _ _ hd (lv_sub hl [2, 3, 4, 5, 1] rfl) hw
          · replace hw := hw.2 c120
            refine lv_iconst (v := 1) hx hb dL_sectors_48 (by decide) ?_
            refine lv_goto (tgt := 53) hx hb dL_sectors_49 (by decide) ?_
            exact J53 r2 v10l2 v10l3 1 _ _ _ hd (lv_sub hl [2, 3, 4, 5, 1] rfl) hw
        · replace hw := hw.2 c119
          refine lv_iconst (v := 0) hx hb dL_sectors_36 (by decide) ?_
          refine lv_goto (tgt := 53) hx hb dL_sectors_37 (by decide) ?_
          exact J53 r2 v10l2 v10l3 0 _ _ _ hd (lv_sub hl [2, 3, 4, 5, 1] rfl) hw
  rw [wpL_sectors] at hw
  refine lv_aload_n hx hb dL_sectors_0 rfl (lv_at hl 0 rfl) ?_
  refine lv_iconst (v := 0) hx hb dL_sectors_1 (by decide) ?_
  refine v_i C hd hl M_X3_count gL_sectors_X3_count (c_X3_count l B k ad χ 0 _ hw) ⟨rfl, rfl⟩ ⟨Nat.le_of_ble_eq_true rfl, Nat.le_of_ble_eq_true rfl⟩ (pm_all _) (fun _ => wX3 k ad χ) (fun _ => (pm_all _).symm) 0 3 rfl rfl rfl rfl rfl (Nat.le_of_ble_eq_true rfl) dL_sectors_2 ⟨Nat.le_of_ble_eq_true rfl, Nat.le_of_ble_eq_true rfl⟩ (fun r2 _ H locs hw hd => ?_)
  refine lv_istore_n (lv' := [(1, .int r2), (0, .ref (ad 9 0))]) hx hb dL_sectors_5 rfl hl (by decide) rfl (fun ls hl => ?_)
  refine lv_iconst (v := 0) hx hb dL_sectors_6 (by decide) ?_
  refine lv_istore_n (lv' := [(2, .int 0), (1, .int r2), (0, .ref (ad 9 0))]) hx hb dL_sectors_7 rfl hl (by decide) rfl (fun ls hl => ?_)
  refine lv_iconst (v := 0) hx hb dL_sectors_8 (by decide) ?_
  refine lv_istore_n (lv' := [(3, .int 0), (2, .int 0), (1, .int r2), (0, .ref (ad 9 0))]) hx hb dL_sectors_9 rfl hl (by decide) rfl (fun ls hl => ?_)
  obtain ⟨n, hw⟩ := hw
  exact L10 n r2 0 0 _ _ _ hd (lv_sub hl [3, 2, 1, 0] rfl) hw
abbrev rm_L_lends : Room := { frames := 5, cells := 0, slots := 0, locals := 111 }
theorem M_L_lends : MI yL_lends wsL_lends cL_lends 4 (some .int) 2 := ⟨⟨_, rfl⟩, by decide +kernel, by decide +kernel, by decide +kernel, by decide +kernel⟩
theorem iL_lends_X3 : ∀ w ∈ wsX30, w ∈ wsL_lends := fun _ h => List.mem_cons_of_mem _ (List.mem_append_left _ (List.mem_append_right _ h))
theorem iL_lends_X1 : ∀ w ∈ wsX10, w ∈ wsL_lends := fun _ h => List.mem_cons_of_mem _ (List.mem_append_right _ h)
def wpL_lends_L49 (χ : XS) (post : Int32 → Prop) : Nat → Int32 → Int32 → Prop
  | 0, _, _ => False
  | n49 + 1, v49l2, v49l3 => ((16 ≤ v49l3 → post (-5)) ∧ (¬ 16 ≤ v49l3 → wpX3_sector χ ((16 * v49l2) + v49l3) 4 (fun r63 => ((r63 = 1 → post ((16 * v49l2) + v49l3)) ∧ (¬ r63 = 1 → wpL_lends_L49 χ post n49 v49l2 (v49l3 + 1))))))
def wpL_lends_L15 (χ : XS) (post : Int32 → Prop) : Nat → Int32 → Int32 → Prop
  | 0, _, _ => False
  | n15 + 1, v15l2, v15l3 => ((4 ≤ v15l3 → ∃ n49 : Nat, wpL_lends_L49 χ post n49 v15l2 0) ∧ (¬ 4 ≤ v15l3 → wpX3_head χ v15l3 2 (fun r23 => wpX3_head χ v15l2 2 (fun r29 => ((r23 ≤ r29 → wpL_lends_L15 χ post n15 v15l2 (v15l3 + 1)) ∧ (¬ r23 ≤ r29 → wpL_lends_L15 χ post n15 v15l3 (v15l3 + 1)))))))
def wpL_lends (χ : XS) (p1 : Int32) (post : Int32 → Prop) : Prop := wpX3_head χ p1 2 (fun r5 => ((r5 = 0 → ∃ n15 : Nat, wpL_lends_L15 χ post n15 0 1) ∧ (¬ r5 = 0 → ∃ n49 : Nat, wpL_lends_L49 χ post n49 p1 0)))
set_option maxHeartbeats 4000000 in
set_option maxRecDepth 100000 in
theorem c_L_lends (l : Launch) (B : va_G) (k : KT) (ad : Nat → Nat → Nat) (χ : XS) (p1 : Int32) (post : Int32 → Prop) (hw : wpL_lends χ p1 post) : Cti l yL_lends wsL_lends rm_L_lends 0 0 B k [.ref (ad 9 0), .int p1] (wX3 k ad χ) (fun _ : Unit => wX3 k ad χ) (fun r _ => post r) := by
  refine Cti.of M_L_lends (Nat.le_of_ble_eq_true rfl) ?_
  intro p e s m args below meth c A C hd ls hl
  have hx := C.1; have hb := C.2.1; have hml := C.2.2.1; have hts := C.2.2.2.2.1
  have hl : lv_has ls 4 [(0, .ref (ad 9 0)), (1, .int p1)] := hl
  have L49 : ∀ (n49 : Nat), ∀ (v49l2 : Int32) (v49l3 : Int32) (H : Heap) (locs : List Loc) (ls : Array Slot), Wd B A s.heap (wX3 k ad χ) H locs → lv_has ls 4 [(0, .ref (ad 9 0)), (2, .int v49l2), (3, .int v49l3)] → wpL_lends_L49 χ post n49 v49l2 v49l3 → W p l e rm_L_lends s m args below meth c H locs 0 0 (Qi below args s B A (fun _ : Unit => wX3 k ad χ) (fun r _ => post r) 0 0) (F0 m 49 ls []) := by
    intro n49
    induction n49 with
    | zero => intro v49l2 v49l3 H locs ls hd hl hw; exact absurd hw (by simp [wpL_lends_L49])
    | succ n49 ih49 =>
      intro v49l2 v49l3 H locs ls hd hl hw
      rw [wpL_lends_L49] at hw
      refine lv_iload_n hx hb dL_lends_49 rfl (lv_at hl 2 rfl) ?_
      refine lv_bipush (v := 16) hx hb dL_lends_50 (by decide) ?_
      refine lv_icmp_ge (tgt := 83) hx hb dL_lends_52 (by decide) (fun c18 => ?_) (fun c18 => ?_)
      · replace hw := hw.1 c18
        refine lv_bipush (v := (-5)) hx hb dL_lends_83 (by decide) ?_
        exact r_i C hd dL_lends_85 () rfl hw
      · replace hw := hw.2 c18
        refine lv_aload_n hx hb dL_lends_55 rfl (lv_at hl 0 rfl) ?_
        refine lv_bipush (v := 16) hx hb dL_lends_56 (by decide) ?_
        refine lv_iload_n hx hb dL_lends_58 rfl (lv_at hl 1 rfl) ?_
        refine lv_imul hx hb dL_lends_59 ?_
        refine lv_iload_n hx hb dL_lends_60 rfl (lv_at hl 2 rfl) ?_
        refine lv_iadd hx hb dL_lends_61 ?_
        refine lv_iconst (v := 4) hx hb dL_lends_62 (by decide) ?_
        refine v_i C hd hl M_X3_sector gL_lends_X3_sector (c_X3_sector l B k ad χ ((16 * v49l2) + v49l3) 4 _ hw) ⟨rfl, rfl⟩ ⟨Nat.le_of_ble_eq_true rfl, Nat.le_of_ble_eq_true rfl⟩ (pm_all _) (fun _ => wX3 k ad χ) (fun _ => (pm_all _).symm) 0 3 rfl rfl rfl rfl rfl (Nat.le_of_ble_eq_true rfl) dL_lends_63 ⟨Nat.le_of_ble_eq_true rfl, Nat.le_of_ble_eq_true rfl⟩ (fun r63 _ H locs hw hd => ?_)
        refine lv_iconst (v := 1) hx hb dL_lends_66 (by decide) ?_
        refine lv_icmp_ne (tgt := 77) hx hb dL_lends_67 (by decide) (fun c19 => ?_) (fun c19 => ?_)
        · replace hw := hw.2 c19
          refine lv_iinc (v := v49l3 + 1) (lv' := [(3, .int (v49l3 + 1)), (0, .ref (ad 9 0)), (2, .int v49l2)]) hx hb dL_lends_77 hl (k := 2) rfl rfl (by decide) rfl (fun ls hl => ?_)
          refine lv_goto (tgt := 49) hx hb dL_lends_80 (by decide) ?_
          exact ih49 v49l2 (v49l3 + 1) _ _ _ hd (lv_sub hl [1, 2, 0] rfl) hw
        · replace hw := hw.1 c19
          refine lv_bipush (v := 16) hx hb dL_lends_70 (by decide) ?_
          refine lv_iload_n hx hb dL_lends_72 rfl (lv_at hl 1 rfl) ?_
          refine lv_imul hx hb dL_lends_73 ?_
          refine lv_iload_n hx hb dL_lends_74 rfl (lv_at hl 2 rfl) ?_
          refine lv_iadd hx hb dL_lends_75 ?_
          exact r_i C hd dL_lends_76 () rfl hw
  have L15 : ∀ (n15 : Nat), ∀ (v15l2 : Int32) (v15l3 : Int32) (H : Heap) (locs : List Loc) (ls : Array Slot), Wd B A s.heap (wX3 k ad χ) H locs → lv_has ls 4 [(0, .ref (ad 9 0)), (2, .int v15l2), (3, .int v15l3)] → wpL_lends_L15 χ post n15 v15l2 v15l3 → W p l e rm_L_lends s m args below meth c H locs 0 0 (Qi below args s B A (fun _ : Unit => wX3 k ad χ) (fun r _ => post r) 0 0) (F0 m 15 ls []) := by
    intro n15
    induction n15 with
    | zero => intro v15l2 v15l3 H locs ls hd hl hw; exact absurd hw (by simp [wpL_lends_L15])
    | succ n15 ih15 =>
      intro v15l2 v15l3 H locs ls hd hl hw
      rw [wpL_lends_L15] at hw
      refine lv_iload_n hx hb dL_lends_15 rfl (lv_at hl 2 rfl) ?_
      refine lv_iconst (v := 4) hx hb dL_lends_16 (by decide) ?_
      refine lv_icmp_ge (tgt := 47) hx hb dL_lends_17 (by decide) (fun c20 => ?_) (fun c20 => ?_)
      · replace hw := hw.1 c20
        refine lv_iconst (v := 0) hx hb dL_lends_47 (by decide) ?_
        refine lv_istore_n (lv' := [(3, .int 0), (0, .ref (ad 9 0)), (2, .int v15l2)]) hx hb dL_lends_48 rfl hl (by decide) rfl (fun ls hl => ?_)
        obtain ⟨n, hw⟩ := hw
        exact L49 n v15l2 0 _ _ _ hd (lv_sub hl [1, 2, 0] rfl) hw
      · replace hw := hw.2 c20
        refine lv_aload_n hx hb dL_lends_20 rfl (lv_at hl 0 rfl) ?_
        refine lv_iload_n hx hb dL_lends_21 rfl (lv_at hl 2 rfl) ?_
        refine lv_iconst (v := 2) hx hb dL_lends_22 (by decide) ?_
        refine v_i C hd hl M_X3_head gL_lends_X3_head (c_X3_head l B k ad χ v15l3 2 _ hw) ⟨rfl, rfl⟩ ⟨Nat.le_of_ble_eq_true rfl, Nat.le_of_ble_eq_true rfl⟩ (pm_all _) (fun _ => wX3 k ad χ) (fun _ => (pm_all _).symm) 0 3 rfl rfl rfl rfl rfl (Nat.le_of_ble_eq_true rfl) dL_lends_23 ⟨Nat.le_of_ble_eq_true rfl, Nat.le_of_ble_eq_true rfl⟩ (fun r23 _ H locs hw hd => ?_)
        refine lv_aload_n hx hb dL_lends_26 rfl (lv_at hl 0 rfl) ?_
        refine lv_iload_n hx hb dL_lends_27 rfl (lv_at hl 1 rfl) ?_
        refine lv_iconst (v := 2) hx hb dL_lends_28 (by decide) ?_
        refine v_i C hd hl M_X3_head gL_lends_X3_head (c_X3_head l B k ad χ v15l2 2 _ hw) ⟨rfl, rfl⟩ ⟨Nat.le_of_ble_eq_true rfl, Nat.le_of_ble_eq_true rfl⟩ (pm_all _) (fun _ => wX3 k ad χ) (fun _ => (pm_all _).symm) 0 3 rfl rfl rfl rfl rfl (Nat.le_of_ble_eq_true rfl) dL_lends_29 ⟨Nat.le_of_ble_eq_true rfl, Nat.le_of_ble_eq_true rfl⟩ (fun r29 _ H locs hw hd => ?_)
        refine lv_icmp_le (tgt := 39) hx hb dL_lends_32 (by decide) (fun c21 => ?_) (fun c21 => ?_)
        · replace hw := hw.1 c21
          refine lv_iload_n hx hb dL_lends_39 rfl (lv_at hl 1 rfl) ?_
          refine lv_istore_n (lv' := [(2, .int v15l2), (0, .ref (ad 9 0)), (3, .int v15l3)]) hx hb dL_lends_40 rfl hl (by decide) rfl (fun ls hl => ?_)
          refine lv_iinc (v := v15l3 + 1) (lv' := [(3, .int (v15l3 + 1)), (2, .int v15l2), (0, .ref (ad 9 0))]) hx hb dL_lends_41 hl (k := 2) rfl rfl (by decide) rfl (fun ls hl => ?_)
          refine lv_goto (tgt := 15) hx hb dL_lends_44 (by decide) ?_
          exact ih15 v15l2 (v15l3 + 1) _ _ _ hd (lv_sub hl [2, 1, 0] rfl) hw
        · replace hw := hw.2 c21
          refine lv_iload_n hx hb dL_lends_35 rfl (lv_at hl 2 rfl) ?_
          refine lv_goto (tgt := 40) hx hb dL_lends_36 (by decide) ?_
          refine lv_istore_n (lv' := [(2, .int v15l3), (0, .ref (ad 9 0)), (3, .int v15l3)]) hx hb dL_lends_40 rfl hl (by decide) rfl (fun ls hl => ?_)
          refine lv_iinc (v := v15l3 + 1) (lv' := [(3, .int (v15l3 + 1)), (2, .int v15l3), (0, .ref (ad 9 0))]) hx hb dL_lends_41 hl (k := 2) rfl rfl (by decide) rfl (fun ls hl => ?_)
          refine lv_goto (tgt := 15) hx hb dL_lends_44 (by decide) ?_
          exact ih15 v15l3 (v15l3 + 1) _ _ _ hd (lv_sub hl [2, 1, 0] rfl) hw
  rw [wpL_lends] at hw
  refine lv_iload_n hx hb dL_lends_0 rfl (lv_at hl 1 rfl) ?_
  refine lv_istore_n (lv' := [(2, .int p1), (0, .ref (ad 9 0)), (1, .int p1)]) hx hb dL_lends_1 rfl hl (by decide) rfl (fun ls hl => ?_)
  refine lv_aload_n hx hb dL_lends_2 rfl (lv_at hl 1 rfl) ?_
  refine lv_iload_n hx hb dL_lends_3 rfl (lv_at hl 2 rfl) ?_
  refine lv_iconst (v := 2) hx hb dL_lends_4 (by decide) ?_
  refine v_i C hd hl M_X3_head gL_lends_X3_head (c_X3_head l B k ad χ p1 2 _ hw) ⟨rfl, rfl⟩ ⟨Nat.le_of_ble_eq_true rfl, Nat.le_of_ble_eq_true rfl⟩ (pm_all _) (fun _ => wX3 k ad χ) (fun _ => (pm_all _).symm) 0 3 rfl rfl rfl rfl rfl (Nat.le_of_ble_eq_true rfl) dL_lends_5 ⟨Nat.le_of_ble_eq_true rfl, Nat.le_of_ble_eq_true rfl⟩ (fun r5 _ H locs hw hd => ?_)
  refine lv_if_ne (tgt := 47) hx hb dL_lends_8 (by decide) (fun c22 => ?_) (fun c22 => ?_)
  · replace hw := hw.2 c22
    refine lv_iconst (v := 0) hx hb dL_lends_47 (by decide) ?_
    refine lv_istore_n (lv' := [(3, .int 0), (2, .int p1), (0, .ref (ad 9 0)), (1, .int p1)]) hx hb dL_lends_48 rfl hl (by decide) rfl (fun ls hl => ?_)
    obtain ⟨n, hw⟩ := hw
    exact L49 n p1 0 _ _ _ hd (lv_sub hl [2, 1, 0] rfl) hw
  · replace hw := hw.1 c22
    refine lv_iconst (v := 0) hx hb dL_lends_11 (by decide) ?_
    refine lv_istore_n (lv' := [(2, .int 0), (0, .ref (ad 9 0)), (1, .int p1)]) hx hb dL_lends_12 rfl hl (by decide) rfl (fun ls hl => ?_)
    refine lv_iconst (v := 1) hx hb dL_lends_13 (by decide) ?_
    refine lv_istore_n (lv' := [(3, .int 1), (2, .int 0), (0, .ref (ad 9 0)), (1, .int p1)]) hx hb dL_lends_14 rfl hl (by decide) rfl (fun ls hl => ?_)
    obtain ⟨n, hw⟩ := hw
    exact L15 n 0 1 _ _ _ hd (lv_sub hl [2, 1, 0] rfl) hw
abbrev rm_L_apart : Room := { frames := 0, cells := 0, slots := 0, locals := 0 }
theorem M_L_apart : MI yL_apart wsL_apart cL_apart 4 (some .int) 3 := ⟨⟨_, rfl⟩, by decide +kernel, by decide +kernel, by decide +kernel, by decide +kernel⟩
def wpL_apart_J17 (p1 : Int32) (p2 : Int32) (post : Int32 → Prop) (v17s0 : Int32) : Prop := ((p1 = (p2 / 16) → post (v17s0 + 0)) ∧ (¬ p1 = (p2 / 16) → post (v17s0 + 2)))
def wpL_apart (p0 : Int32) (p1 : Int32) (p2 : Int32) (post : Int32 → Prop) : Prop := ((0 ≤ (p0 - (p2 - p2 / 16 * 16)) → wpL_apart_J17 p1 p2 post (p0 - (p2 - p2 / 16 * 16))) ∧ (¬ 0 ≤ (p0 - (p2 - p2 / 16 * 16)) → wpL_apart_J17 p1 p2 post (-(p0 - (p2 - p2 / 16 * 16)))))
set_option maxHeartbeats 4000000 in
set_option maxRecDepth 100000 in
theorem c_L_apart (l : Launch) (B : va_G) (k : KT) (p0 : Int32) (p1 : Int32) (p2 : Int32) (post : Int32 → Prop) (hw : wpL_apart p0 p1 p2 post) : Cti l yL_apart wsL_apart rm_L_apart 0 0 B k [.int p0, .int p1, .int p2] ([]) (fun _ : Unit => []) (fun r _ => post r) := by
  refine Cti.of M_L_apart (Nat.le_of_ble_eq_true rfl) ?_
  intro p e s m args below meth c A C hd ls hl
  have hx := C.1; have hb := C.2.1; have hml := C.2.2.1; have hts := C.2.2.2.2.1
  have hl : lv_has ls 4 [(0, .int p0), (1, .int p1), (2, .int p2)] := hl
  have J17 : ∀ (v17s0 : Int32) (H : Heap) (locs : List Loc) (ls : Array Slot), Wd B A s.heap ([]) H locs → lv_has ls 4 [(1, .int p1), (2, .int p2)] → wpL_apart_J17 p1 p2 post v17s0 → W p l e rm_L_apart s m args below meth c H locs 0 0 (Qi below args s B A (fun _ : Unit => []) (fun r _ => post r) 0 0) (F0 m 17 ls [.int v17s0]) := by
    intro v17s0 H locs ls hd hl hw
    rw [wpL_apart_J17] at hw
    refine lv_iload_n hx hb dL_apart_17 rfl (lv_at hl 0 rfl) ?_
    refine lv_iload_n hx hb dL_apart_18 rfl (lv_at hl 1 rfl) ?_
    refine lv_bipush (v := 16) hx hb dL_apart_19 (by decide) ?_
    refine lv_idiv hx hb dL_apart_21 (by decide) ?_
    refine lv_icmp_ne (tgt := 29) hx hb dL_apart_22 (by decide) (fun c6 => ?_) (fun c6 => ?_)
    · replace hw := hw.2 c6
      refine lv_iconst (v := 2) hx hb dL_apart_29 (by decide) ?_
      refine lv_iadd hx hb dL_apart_30 ?_
      exact r_i C hd dL_apart_31 () rfl hw
    · replace hw := hw.1 c6
      refine lv_iconst (v := 0) hx hb dL_apart_25 (by decide) ?_
      refine lv_goto (tgt := 30) hx hb dL_apart_26 (by decide) ?_
      refine lv_iadd hx hb dL_apart_30 ?_
      exact r_i C hd dL_apart_31 () rfl hw
  rw [wpL_apart] at hw
  refine lv_iload_n hx hb dL_apart_0 rfl (lv_at hl 0 rfl) ?_
  refine lv_iload_n hx hb dL_apart_1 rfl (lv_at hl 2 rfl) ?_
  refine lv_bipush (v := 16) hx hb dL_apart_2 (by decide) ?_
  refine lv_irem hx hb dL_apart_4 (by decide) ?_
  refine lv_isub hx hb dL_apart_5 ?_
  refine lv_istore_n (lv' := [(3, .int (p0 - (p2 - p2 / 16 * 16))), (0, .int p0), (1, .int p1), (2, .int p2)]) hx hb dL_apart_6 rfl hl (by decide) rfl (fun ls hl => ?_)
  refine lv_iload_n hx hb dL_apart_7 rfl (lv_at hl 0 rfl) ?_
  refine lv_if_ge (tgt := 16) hx hb dL_apart_8 (by decide) (fun c7 => ?_) (fun c7 => ?_)
  · replace hw := hw.1 c7
    refine lv_iload_n hx hb dL_apart_16 rfl (lv_at hl 0 rfl) ?_
    exact J17 (p0 - (p2 - p2 / 16 * 16)) _ _ _ hd (lv_sub hl [2, 3] rfl) hw
  · replace hw := hw.2 c7
    refine lv_iload_n hx hb dL_apart_11 rfl (lv_at hl 0 rfl) ?_
    refine lv_ineg hx hb dL_apart_12 ?_
    refine lv_goto (tgt := 17) hx hb dL_apart_13 (by decide) ?_
    exact J17 (-(p0 - (p2 - p2 / 16 * 16))) _ _ _ hd (lv_sub hl [2, 3] rfl) hw
abbrev rm_L_steps : Room := { frames := 7, cells := 0, slots := 0, locals := 154 }
theorem M_L_steps : MI yL_steps wsL_steps cL_steps 5 (some .int) 3 := ⟨⟨_, rfl⟩, by decide +kernel, by decide +kernel, by decide +kernel, by decide +kernel⟩
theorem iL_steps_X3 : ∀ w ∈ wsX30, w ∈ wsL_steps := fun _ h => List.mem_cons_of_mem _ (List.mem_append_left _ (List.mem_append_left _ (List.mem_append_left _ (List.mem_append_right _ h))))
theorem iL_steps_X2 : ∀ w ∈ wsX20, w ∈ wsL_steps := fun _ h => List.mem_cons_of_mem _ (List.mem_append_left _ (List.mem_append_left _ (List.mem_append_right _ h)))
theorem iL_steps_X0 : ∀ w ∈ wsX00, w ∈ wsL_steps := fun _ h => List.mem_cons_of_mem _ (List.mem_append_left _ (List.mem_append_right _ h))
theorem iL_steps_X1 : ∀ w ∈ wsX10, w ∈ wsL_steps := fun _ h => List.mem_cons_of_mem _ (List.mem_append_right _ h)
def wpL_steps (χ : XS) (p1 : Int32) (p2 : Int32) (post : Int32 → Prop) : Prop := wpX3_count χ 5 (fun r2 => wpX3_count χ 6 (fun r9 => wpX3_head χ (p1 / 16) 3 (fun r20 => ((r20 = 1 → wpL_apart r2 r9 p2 (fun r31 => post r31)) ∧ (¬ r20 = 1 → wpL_apart r2 r9 p1 (fun r39 => ((p2 = p1 → post (r39 + 0)) ∧ (¬ p2 = p1 → wpL_apart (p1 - p1 / 16 * 16) (p1 / 16) p2 (fun r60 => post (r39 + r60))))))))))
set_option maxHeartbeats 4000000 in
set_option maxRecDepth 100000 in
theorem c_L_steps (l : Launch) (B : va_G) (k : KT) (ad : Nat → Nat → Nat) (χ : XS) (p1 : Int32) (p2 : Int32) (post : Int32 → Prop) (hw : wpL_steps χ p1 p2 post) : Cti l yL_steps wsL_steps rm_L_steps 0 0 B k [.ref (ad 9 0), .int p1, .int p2] (wX3 k ad χ) (fun _ : Unit => wX3 k ad χ) (fun r _ => post r) := by
  refine Cti.of M_L_steps (Nat.le_of_ble_eq_true rfl) ?_
  intro p e s m args below meth c A C hd ls hl
  have hx := C.1; have hb := C.2.1; have hml := C.2.2.1; have hts := C.2.2.2.2.1
  have hl : lv_has ls 5 [(0, .ref (ad 9 0)), (1, .int p1), (2, .int p2)] := hl
  rw [wpL_steps] at hw
  refine lv_aload_n hx hb dL_steps_0 rfl (lv_at hl 0 rfl) ?_
  refine lv_iconst (v := 5) hx hb dL_steps_1 (by decide) ?_
  refine v_i C hd hl M_X3_count gL_steps_X3_count (c_X3_count l B k ad χ 5 _ hw) ⟨rfl, rfl⟩ ⟨Nat.le_of_ble_eq_true rfl, Nat.le_of_ble_eq_true rfl⟩ (pm_all _) (fun _ => wX3 k ad χ) (fun _ => (pm_all _).symm) 0 3 rfl rfl rfl rfl rfl (Nat.le_of_ble_eq_true rfl) dL_steps_2 ⟨Nat.le_of_ble_eq_true rfl, Nat.le_of_ble_eq_true rfl⟩ (fun r2 _ H locs hw hd => ?_)
  refine lv_istore_n (lv' := [(3, .int r2), (0, .ref (ad 9 0)), (1, .int p1), (2, .int p2)]) hx hb dL_steps_5 rfl hl (by decide) rfl (fun ls hl => ?_)
  refine lv_aload_n hx hb dL_steps_6 rfl (lv_at hl 1 rfl) ?_
  refine lv_bipush (v := 6) hx hb dL_steps_7 (by decide) ?_
  refine v_i C hd hl M_X3_count gL_steps_X3_count (c_X3_count l B k ad χ 6 _ hw) ⟨rfl, rfl⟩ ⟨Nat.le_of_ble_eq_true rfl, Nat.le_of_ble_eq_true rfl⟩ (pm_all _) (fun _ => wX3 k ad χ) (fun _ => (pm_all _).symm) 0 3 rfl rfl rfl rfl rfl (Nat.le_of_ble_eq_true rfl) dL_steps_9 ⟨Nat.le_of_ble_eq_true rfl, Nat.le_of_ble_eq_true rfl⟩ (fun r9 _ H locs hw hd => ?_)
  refine lv_istore (lv' := [(4, .int r9), (3, .int r2), (0, .ref (ad 9 0)), (1, .int p1), (2, .int p2)]) hx hb dL_steps_12 hl (by decide) rfl (fun ls hl => ?_)
  refine lv_aload_n hx hb dL_steps_14 rfl (lv_at hl 2 rfl) ?_
  refine lv_iload_n hx hb dL_steps_15 rfl (lv_at hl 3 rfl) ?_
  refine lv_bipush (v := 16) hx hb dL_steps_16 (by decide) ?_
  refine lv_idiv hx hb dL_steps_18 (by decide) ?_
  refine lv_iconst (v := 3) hx hb dL_steps_19 (by decide) ?_
  refine v_i C hd hl M_X3_head gL_steps_X3_head (c_X3_head l B k ad χ (p1 / 16) 3 _ hw) ⟨rfl, rfl⟩ ⟨Nat.le_of_ble_eq_true rfl, Nat.le_of_ble_eq_true rfl⟩ (pm_all _) (fun _ => wX3 k ad χ) (fun _ => (pm_all _).symm) 0 3 rfl rfl rfl rfl rfl (Nat.le_of_ble_eq_true rfl) dL_steps_20 ⟨Nat.le_of_ble_eq_true rfl, Nat.le_of_ble_eq_true rfl⟩ (fun r20 _ H locs hw hd => ?_)
  refine lv_iconst (v := 1) hx hb dL_steps_23 (by decide) ?_
  refine lv_icmp_ne (tgt := 35) hx hb dL_steps_24 (by decide) (fun c3 => ?_) (fun c3 => ?_)
  · replace hw := hw.2 c3
    refine lv_iload_n hx hb dL_steps_35 rfl (lv_at hl 1 rfl) ?_
    refine lv_iload hx hb dL_steps_36 (lv_at hl 0 rfl) ?_
    refine lv_iload_n hx hb dL_steps_38 rfl (lv_at hl 3 rfl) ?_
    refine s_i C hd hl M_L_apart gL_steps_L_apart rfl (c_L_apart l B k r2 r9 p1 _ hw) ⟨rfl, rfl⟩ ⟨Nat.le_of_ble_eq_true rfl, Nat.le_of_ble_eq_true rfl⟩ (pm_non _) (fun _ => wX3 k ad χ) (fun _ => List.Perm.refl _) rfl rfl (Nat.le_of_ble_eq_true rfl) dL_steps_39 ⟨Nat.le_of_ble_eq_true rfl, Nat.le_of_ble_eq_true rfl⟩ (fun r39 _ H locs hw hd => ?_)
    refine lv_iload_n hx hb dL_steps_42 rfl (lv_at hl 4 rfl) ?_
    refine lv_iload_n hx hb dL_steps_43 rfl (lv_at hl 3 rfl) ?_
    refine lv_icmp_ne (tgt := 51) hx hb dL_steps_44 (by decide) (fun c4 => ?_) (fun c4 => ?_)
    · replace hw := hw.2 c4
      refine lv_iload_n hx hb dL_steps_51 rfl (lv_at hl 3 rfl) ?_
      refine lv_bipush (v := 16) hx hb dL_steps_52 (by decide) ?_
      refine lv_irem hx hb dL_steps_54 (by decide) ?_
      refine lv_iload_n hx hb dL_steps_55 rfl (lv_at hl 3 rfl) ?_
      refine lv_bipush (v := 16) hx hb dL_steps_56 (by decide) ?_
      refine lv_idiv hx hb dL_steps_58 (by decide) ?_
      refine lv_iload_n hx hb dL_steps_59 rfl (lv_at hl 4 rfl) ?_
      refine s_i C hd hl M_L_apart gL_steps_L_apart rfl (c_L_apart l B k (p1 - p1 / 16 * 16) (p1 / 16) p2 _ hw) ⟨rfl, rfl⟩ ⟨Nat.le_of_ble_eq_true rfl, Nat.le_of_ble_eq_true rfl⟩ (pm_non _) (fun _ => wX3 k ad χ) (fun _ => List.Perm.refl _) rfl rfl (Nat.le_of_ble_eq_true rfl) dL_steps_60 ⟨Nat.le_of_ble_eq_true rfl, Nat.le_of_ble_eq_true rfl⟩ (fun r60 _ H locs hw hd => ?_)
      refine lv_iadd hx hb dL_steps_63 ?_
      exact r_i C hd dL_steps_64 () rfl hw
    · replace hw := hw.1 c4
      refine lv_iconst (v := 0) hx hb dL_steps_47 (by decide) ?_
      refine lv_goto (tgt := 63) hx hb dL_steps_48 (by decide) ?_
      refine lv_iadd hx hb dL_steps_63 ?_
      exact r_i C hd dL_steps_64 () rfl hw
  · replace hw := hw.1 c3
    refine lv_iload_n hx hb dL_steps_27 rfl (lv_at hl 1 rfl) ?_
    refine lv_iload hx hb dL_steps_28 (lv_at hl 0 rfl) ?_
    refine lv_iload_n hx hb dL_steps_30 rfl (lv_at hl 4 rfl) ?_
    refine s_i C hd hl M_L_apart gL_steps_L_apart rfl (c_L_apart l B k r2 r9 p2 _ hw) ⟨rfl, rfl⟩ ⟨Nat.le_of_ble_eq_true rfl, Nat.le_of_ble_eq_true rfl⟩ (pm_non _) (fun _ => wX3 k ad χ) (fun _ => List.Perm.refl _) rfl rfl (Nat.le_of_ble_eq_true rfl) dL_steps_31 ⟨Nat.le_of_ble_eq_true rfl, Nat.le_of_ble_eq_true rfl⟩ (fun r31 _ H locs hw hd => ?_)
    exact r_i C hd dL_steps_34 () rfl hw
abbrev rm_L_addresses : Room := { frames := 8, cells := 0, slots := 0, locals := 178 }
theorem M_L_addresses : MI yL_addresses wsL_addresses cL_addresses 14 (some .boolean) 1 := ⟨⟨_, rfl⟩, by decide +kernel, by decide +kernel, by decide +kernel, by decide +kernel⟩
theorem iL_addresses_X3 : ∀ w ∈ wsX30, w ∈ wsL_addresses := fun _ h => List.mem_cons_of_mem _ (List.mem_append_left _ (List.mem_append_left _ (List.mem_append_left _ (List.mem_append_right _ h))))
theorem iL_addresses_X1 : ∀ w ∈ wsX10, w ∈ wsL_addresses := fun _ h => List.mem_cons_of_mem _ (List.mem_append_left _ (List.mem_append_left _ (List.mem_append_right _ h)))
theorem iL_addresses_X2 : ∀ w ∈ wsX20, w ∈ wsL_addresses := fun _ h => List.mem_cons_of_mem _ (List.mem_append_left _ (List.mem_append_right _ h))
theorem iL_addresses_X0 : ∀ w ∈ wsX00, w ∈ wsL_addresses := fun _ h => List.mem_cons_of_mem _ (List.mem_append_right _ h)
def wpL_addresses_J323 (χ : XS) (v9l4 : Int32) (r18 : Int32) (v41l1 : Int32) (v41l3 : Int32) (v41l6 : Int32) (v41l7 : Int32) (v41l8 : Int32) (v41l9 : Int32) (v41l10 : Int32) (v41l11 : Int32) (r64 : Int32) (v88s1 : Bool) (v109s1 : Bool) (v160s1 : Bool) (v185s1 : Bool) (v206s1 : Bool) (post : Bool → Prop) (κ9 : Int32 → Int32 → Int32 → Int32 → Prop) (κ41 : Int32 → Int32 → Int32 → Int32 → Int32 → Int32 → Int32 → Int32 → Prop)  : Prop := wpX3_address χ ((16 * v9l4) + v41l11) 3 (fun r327 => ((r327 = r18 → κ41 (v41l1 + 1) (v41l3 + (bi v206s1)) (v41l6 + (bi v160s1)) (v41l7 + (bi v185s1)) (v41l8 + r64) (v41l9 + (bi v88s1)) (v41l10 + (bi v109s1)) (v41l11 + 1)) ∧ (¬ r327 = r18 → post false)))
def wpL_addresses_J290 (χ : XS) (v9l4 : Int32) (r18 : Int32) (v41l1 : Int32) (v41l3 : Int32) (v41l6 : Int32) (v41l7 : Int32) (v41l8 : Int32) (v41l9 : Int32) (v41l10 : Int32) (v41l11 : Int32) (r64 : Int32) (v88s1 : Bool) (v109s1 : Bool) (r140 : Int32) (v160s1 : Bool) (v185s1 : Bool) (v206s1 : Bool) (v278s0 : Bool) (post : Bool → Prop) (κ9 : Int32 → Int32 → Int32 → Int32 → Prop) (κ41 : Int32 → Int32 → Int32 → Int32 → Int32 → Int32 → Int32 → Int32 → Prop) (v290s1 : Bool) : Prop := (((bi v278s0) = (bi v290s1) → wpX3_address χ ((16 * v9l4) + v41l11) 4 (fun r297 => wpL_steps χ ((16 * v9l4) + v41l11) r140 (fun r305 => ((r297 = r305 → wpX3_address χ ((16 * v9l4) + v41l11) 0 (fun r315 => ((0 ≤ r315 → wpL_addresses_J323 χ v9l4 r18 v41l1 v41l3 v41l6 v41l7 v41l8 v41l9 v41l10 v41l11 r64 v88s1 v109s1 v160s1 v185s1 v206s1 post κ9 κ41 ) ∧ (¬ 0 ≤ r315 → post false)))) ∧ (¬ r297 = r305 → post false))))) ∧ (¬ (bi v278s0) = (bi v290s1) → post false))
def wpL_addresses_J278 (χ : XS) (v9l4 : Int32) (r18 : Int32) (v41l1 : Int32) (v41l3 : Int32) (v41l6 : Int32) (v41l7 : Int32) (v41l8 : Int32) (v41l9 : Int32) (v41l10 : Int32) (v41l11 : Int32) (r64 : Int32) (v88s1 : Bool) (v109s1 : Bool) (r140 : Int32) (v160s1 : Bool) (v185s1 : Bool) (v206s1 : Bool) (post : Bool → Prop) (κ9 : Int32 → Int32 → Int32 → Int32 → Prop) (κ41 : Int32 → Int32 → Int32 → Int32 → Int32 → Int32 → Int32 → Int32 → Prop) (v278s0 : Bool) : Prop := ((r140 = ((16 * v9l4) + v41l11) → wpL_addresses_J290 χ v9l4 r18 v41l1 v41l3 v41l6 v41l7 v41l8 v41l9 v41l10 v41l11 r64 v88s1 v109s1 r140 v160s1 v185s1 v206s1 v278s0 post κ9 κ41 false) ∧ (¬ r140 = ((16 * v9l4) + v41l11) → wpL_addresses_J290 χ v9l4 r18 v41l1 v41l3 v41l6 v41l7 v41l8 v41l9 v41l10 v41l11 r64 v88s1 v109s1 r140 v160s1 v185s1 v206s1 v278s0 post κ9 κ41 true))
def wpL_addresses_J206 (χ : XS) (v9l4 : Int32) (r18 : Int32) (v41l1 : Int32) (v41l3 : Int32) (v41l6 : Int32) (v41l7 : Int32) (v41l8 : Int32) (v41l9 : Int32) (v41l10 : Int32) (v41l11 : Int32) (r64 : Int32) (v88s1 : Bool) (v109s1 : Bool) (r140 : Int32) (v160s1 : Bool) (v185s1 : Bool) (post : Bool → Prop) (κ9 : Int32 → Int32 → Int32 → Int32 → Prop) (κ41 : Int32 → Int32 → Int32 → Int32 → Int32 → Int32 → Int32 → Int32 → Prop) (v206s1 : Bool) : Prop := ((0 ≤ r140 → wpX3_sector χ r140 3 (fun r254 => ((r254 = ((16 * v9l4) + v41l11) → wpX3_address χ ((16 * v9l4) + v41l11) 2 (fun r266 => ((r266 = 1 → wpL_addresses_J278 χ v9l4 r18 v41l1 v41l3 v41l6 v41l7 v41l8 v41l9 v41l10 v41l11 r64 v88s1 v109s1 r140 v160s1 v185s1 v206s1 post κ9 κ41 true) ∧ (¬ r266 = 1 → wpL_addresses_J278 χ v9l4 r18 v41l1 v41l3 v41l6 v41l7 v41l8 v41l9 v41l10 v41l11 r64 v88s1 v109s1 r140 v160s1 v185s1 v206s1 post κ9 κ41 false)))) ∧ (¬ r254 = ((16 * v9l4) + v41l11) → post false)))) ∧ (¬ 0 ≤ r140 → wpX3_address χ ((16 * v9l4) + v41l11) 0 (fun r217 => ((r217 = (-5) → wpX3_address χ ((16 * v9l4) + v41l11) 4 (fun r229 => ((r229 = (-5) → wpX3_address χ ((16 * v9l4) + v41l11) 2 (fun r241 => ((r241 = 0 → wpL_addresses_J323 χ v9l4 r18 v41l1 v41l3 v41l6 v41l7 v41l8 v41l9 v41l10 v41l11 r64 v88s1 v109s1 v160s1 v185s1 v206s1 post κ9 κ41 ) ∧ (¬ r241 = 0 → post false)))) ∧ (¬ r229 = (-5) → post false)))) ∧ (¬ r217 = (-5) → post false)))))
def wpL_addresses_J205 (χ : XS) (v9l4 : Int32) (r18 : Int32) (v41l1 : Int32) (v41l3 : Int32) (v41l6 : Int32) (v41l7 : Int32) (v41l8 : Int32) (v41l9 : Int32) (v41l10 : Int32) (v41l11 : Int32) (r64 : Int32) (v88s1 : Bool) (v109s1 : Bool) (r140 : Int32) (v160s1 : Bool) (v185s1 : Bool) (post : Bool → Prop) (κ9 : Int32 → Int32 → Int32 → Int32 → Prop) (κ41 : Int32 → Int32 → Int32 → Int32 → Int32 → Int32 → Int32 → Int32 → Prop)  : Prop := wpL_addresses_J206 χ v9l4 r18 v41l1 v41l3 v41l6 v41l7 v41l8 v41l9 v41l10 v41l11 r64 v88s1 v109s1 r140 v160s1 v185s1 post κ9 κ41 false
def wpL_addresses_J185 (χ : XS) (v9l4 : Int32) (r18 : Int32) (v41l1 : Int32) (v41l3 : Int32) (v41l6 : Int32) (v41l7 : Int32) (v41l8 : Int32) (v41l9 : Int32) (v41l10 : Int32) (v41l11 : Int32) (r64 : Int32) (v88s1 : Bool) (v109s1 : Bool) (r140 : Int32) (v160s1 : Bool) (post : Bool → Prop) (κ9 : Int32 → Int32 → Int32 → Int32 → Prop) (κ41 : Int32 → Int32 → Int32 → Int32 → Int32 → Int32 → Int32 → Int32 → Prop) (v185s1 : Bool) : Prop := ((r140 < 0 → wpL_addresses_J205 χ v9l4 r18 v41l1 v41l3 v41l6 v41l7 v41l8 v41l9 v41l10 v41l11 r64 v88s1 v109s1 r140 v160s1 v185s1 post κ9 κ41 ) ∧ (¬ r140 < 0 → ((r140 = ((16 * v9l4) + v41l11) → wpL_addresses_J205 χ v9l4 r18 v41l1 v41l3 v41l6 v41l7 v41l8 v41l9 v41l10 v41l11 r64 v88s1 v109s1 r140 v160s1 v185s1 post κ9 κ41 ) ∧ (¬ r140 = ((16 * v9l4) + v41l11) → wpL_addresses_J206 χ v9l4 r18 v41l1 v41l3 v41l6 v41l7 v41l8 v41l9 v41l10 v41l11 r64 v88s1 v109s1 r140 v160s1 v185s1 post κ9 κ41 true))))
def wpL_addresses_J184 (χ : XS) (v9l4 : Int32) (r18 : Int32) (v41l1 : Int32) (v41l3 : Int32) (v41l6 : Int32) (v41l7 : Int32) (v41l8 : Int32) (v41l9 : Int32) (v41l10 : Int32) (v41l11 : Int32) (r64 : Int32) (v88s1 : Bool) (v109s1 : Bool) (r140 : Int32) (v160s1 : Bool) (post : Bool → Prop) (κ9 : Int32 → Int32 → Int32 → Int32 → Prop) (κ41 : Int32 → Int32 → Int32 → Int32 → Int32 → Int32 → Int32 → Int32 → Prop)  : Prop := wpL_addresses_J185 χ v9l4 r18 v41l1 v41l3 v41l6 v41l7 v41l8 v41l9 v41l10 v41l11 r64 v88s1 v109s1 r140 v160s1 post κ9 κ41 false
def wpL_addresses_J160 (χ : XS) (v9l4 : Int32) (r18 : Int32) (v41l1 : Int32) (v41l3 : Int32) (v41l6 : Int32) (v41l7 : Int32) (v41l8 : Int32) (v41l9 : Int32) (v41l10 : Int32) (v41l11 : Int32) (r64 : Int32) (v88s1 : Bool) (v109s1 : Bool) (r140 : Int32) (post : Bool → Prop) (κ9 : Int32 → Int32 → Int32 → Int32 → Prop) (κ41 : Int32 → Int32 → Int32 → Int32 → Int32 → Int32 → Int32 → Int32 → Prop) (v160s1 : Bool) : Prop := ((r140 < 0 → wpL_addresses_J184 χ v9l4 r18 v41l1 v41l3 v41l6 v41l7 v41l8 v41l9 v41l10 v41l11 r64 v88s1 v109s1 r140 v160s1 post κ9 κ41 ) ∧ (¬ r140 < 0 → (((r140 / 16) = v9l4 → wpL_addresses_J184 χ v9l4 r18 v41l1 v41l3 v41l6 v41l7 v41l8 v41l9 v41l10 v41l11 r64 v88s1 v109s1 r140 v160s1 post κ9 κ41 ) ∧ (¬ (r140 / 16) = v9l4 → wpL_addresses_J185 χ v9l4 r18 v41l1 v41l3 v41l6 v41l7 v41l8 v41l9 v41l10 v41l11 r64 v88s1 v109s1 r140 v160s1 post κ9 κ41 true))))
def wpL_addresses_J109 (χ : XS) (v9l4 : Int32) (r18 : Int32) (v41l1 : Int32) (v41l3 : Int32) (v41l6 : Int32) (v41l7 : Int32) (v41l8 : Int32) (v41l9 : Int32) (v41l10 : Int32) (v41l11 : Int32) (r64 : Int32) (v88s1 : Bool) (post : Bool → Prop) (κ9 : Int32 → Int32 → Int32 → Int32 → Prop) (κ41 : Int32 → Int32 → Int32 → Int32 → Int32 → Int32 → Int32 → Int32 → Prop) (v109s1 : Bool) : Prop := wpX3_sector χ ((16 * v9l4) + v41l11) 2 (fun r116 => ((r116 = 1 → wpX3_address χ ((16 * v9l4) + v41l11) 0 (fun r127 => ((r127 = (-1) → κ41 v41l1 v41l3 v41l6 v41l7 (v41l8 + r64) (v41l9 + (bi v88s1)) (v41l10 + (bi v109s1)) (v41l11 + 1)) ∧ (¬ r127 = (-1) → post false)))) ∧ (¬ r116 = 1 → wpX3_address χ ((16 * v9l4) + v41l11) 1 (fun r140 => ((0 ≤ r140 → wpL_addresses_J160 χ v9l4 r18 v41l1 v41l3 v41l6 v41l7 v41l8 v41l9 v41l10 v41l11 r64 v88s1 v109s1 r140 post κ9 κ41 false) ∧ (¬ 0 ≤ r140 → wpL_addresses_J160 χ v9l4 r18 v41l1 v41l3 v41l6 v41l7 v41l8 v41l9 v41l10 v41l11 r64 v88s1 v109s1 r140 post κ9 κ41 true))))))
def wpL_addresses_J88 (χ : XS) (v9l4 : Int32) (r18 : Int32) (v41l1 : Int32) (v41l3 : Int32) (v41l6 : Int32) (v41l7 : Int32) (v41l8 : Int32) (v41l9 : Int32) (v41l10 : Int32) (v41l11 : Int32) (r64 : Int32) (post : Bool → Prop) (κ9 : Int32 → Int32 → Int32 → Int32 → Prop) (κ41 : Int32 → Int32 → Int32 → Int32 → Int32 → Int32 → Int32 → Int32 → Prop) (v88s1 : Bool) : Prop := wpX3_sector χ ((16 * v9l4) + v41l11) 1 (fun r97 => ((r97 = 2 → wpL_addresses_J109 χ v9l4 r18 v41l1 v41l3 v41l6 v41l7 v41l8 v41l9 v41l10 v41l11 r64 v88s1 post κ9 κ41 true) ∧ (¬ r97 = 2 → wpL_addresses_J109 χ v9l4 r18 v41l1 v41l3 v41l6 v41l7 v41l8 v41l9 v41l10 v41l11 r64 v88s1 post κ9 κ41 false)))
def wpL_addresses_L41 (χ : XS) (v9l2 : Int32) (v9l4 : Int32) (r18 : Int32) (post : Bool → Prop) (κ9 : Int32 → Int32 → Int32 → Int32 → Prop) : Nat → Int32 → Int32 → Int32 → Int32 → Int32 → Int32 → Int32 → Int32 → Prop
  | 0, _, _, _, _, _, _, _, _ => False
  | n41 + 1, v41l1, v41l3, v41l6, v41l7, v41l8, v41l9, v41l10, v41l11 => ((16 ≤ v41l11 → wpX3_head χ v9l4 6 (fun r353 => ((r353 = v41l6 → wpX3_head χ v9l4 5 (fun r365 => ((r365 = v41l7 → wpX3_head χ v9l4 7 (fun r378 => ((r378 = v41l8 → wpX3_head χ v9l4 8 (fun r391 => ((r391 = v41l9 → wpX3_head χ v9l4 9 (fun r404 => ((r404 = v41l10 → κ9 v41l1 (v9l2 + v41l6) v41l3 (v9l4 + 1)) ∧ (¬ r404 = v41l10 → post false)))) ∧ (¬ r391 = v41l9 → post false)))) ∧ (¬ r378 = v41l8 → post false)))) ∧ (¬ r365 = v41l7 → post false)))) ∧ (¬ r353 = v41l6 → post false)))) ∧ (¬ 16 ≤ v41l11 → wpX3_sector χ ((16 * v9l4) + v41l11) 0 (fun r64 => wpX3_sector χ ((16 * v9l4) + v41l11) 1 (fun r76 => ((r76 = 1 → wpL_addresses_J88 χ v9l4 r18 v41l1 v41l3 v41l6 v41l7 v41l8 v41l9 v41l10 v41l11 r64 post κ9 (wpL_addresses_L41 χ v9l2 v9l4 r18 post κ9 n41) true) ∧ (¬ r76 = 1 → wpL_addresses_J88 χ v9l4 r18 v41l1 v41l3 v41l6 v41l7 v41l8 v41l9 v41l10 v41l11 r64 post κ9 (wpL_addresses_L41 χ v9l2 v9l4 r18 post κ9 n41) false))))))
def wpL_addresses_L9 (χ : XS) (post : Bool → Prop) : Nat → Int32 → Int32 → Int32 → Int32 → Prop
  | 0, _, _, _, _ => False
  | n9 + 1, v9l1, v9l2, v9l3, v9l4 => ((4 ≤ v9l4 → wpX3_count χ 1 (fun r422 => ((r422 = v9l1 → wpX3_count χ 2 (fun r431 => ((r431 = v9l2 → wpX3_count χ 3 (fun r440 => ((r440 = v9l3 → post true) ∧ (¬ r440 = v9l3 → post false)))) ∧ (¬ r431 = v9l2 → post false)))) ∧ (¬ r422 = v9l1 → post false)))) ∧ (¬ 4 ≤ v9l4 → wpL_lends χ v9l4 (fun r18 => ∃ n41 : Nat, wpL_addresses_L41 χ v9l2 v9l4 r18 post (wpL_addresses_L9 χ post n9) n41 v9l1 v9l3 0 0 0 0 0 0)))
def wpL_addresses (χ : XS) (post : Bool → Prop) : Prop := ∃ n9 : Nat, wpL_addresses_L9 χ post n9 0 0 0 0
set_option maxHeartbeats 4000000 in
set_option maxRecDepth 100000 in
theorem c_L_addresses (l : Launch) (B : va_G) (k : KT) (ad : Nat → Nat → Nat) (χ : XS) (post : Bool → Prop) (hw : wpL_addresses χ post) : Cti l yL_addresses wsL_addresses rm_L_addresses 0 0 B k [.ref (ad 9 0)] (wX3 k ad χ) (fun _ : Unit => wX3 k ad χ) (bpost fun b _ => post b) := by
  refine Cti.of M_L_addresses (Nat.le_of_ble_eq_true rfl) ?_
  intro p e s m args below meth c A C hd ls hl
  have hx := C.1; have hb := C.2.1; have hml := C.2.2.1; have hts := C.2.2.2.2.1
  have hl : lv_has ls 14 [(0, .ref (ad 9 0))] := hl
  have L9 : ∀ (n9 : Nat), ∀ (v9l1 : Int32) (v9l2 : Int32) (v9l3 : Int32) (v9l4 : Int32) (H : Heap) (locs : List Loc) (ls : Array Slot), Wd B A s.heap (wX3 k ad χ) H locs → lv_has ls 14 [(0, .ref (ad 9 0)), (1, .int v9l1), (2, .int v9l2), (3, .int v9l3), (4, .int v9l4)] → wpL_addresses_L9 χ post n9 v9l1 v9l2 v9l3 v9l4 → W p l e rm_L_addresses s m args below meth c H locs 0 0 (Qi below args s B A (fun _ : Unit => wX3 k ad χ) (bpost fun b _ => post b) 0 0) (F0 m 9 ls []) := by
    intro n9
    induction n9 with
    | zero => intro v9l1 v9l2 v9l3 v9l4 H locs ls hd hl hw; exact absurd hw (by simp [wpL_addresses_L9])
    | succ n9 ih9 =>
      intro v9l1 v9l2 v9l3 v9l4 H locs ls hd hl hw
      rw [wpL_addresses_L9] at hw
      have L41 : ∀ (n41 : Nat), ∀ (v9l2 : Int32) (v9l4 : Int32) (r18 : Int32) (v41l1 : Int32) (v41l3 : Int32) (v41l6 : Int32) (v41l7 : Int32) (v41l8 : Int32) (v41l9 : Int32) (v41l10 : Int32) (v41l11 : Int32) (H : Heap) (locs : List Loc) (ls : Array Slot), Wd B A s.heap (wX3 k ad χ) H locs → lv_has ls 14 [(0, .ref (ad 9 0)), (1, .int v41l1), (2, .int v9l2), (3, .int v41l3), (4, .int v9l4), (5, .int r18), (6, .int v41l6), (7, .int v41l7), (8, .int v41l8), (9, .int v41l9), (10, .int v41l10), (11, .int v41l11)] → wpL_addresses_L41 χ v9l2 v9l4 r18 post (wpL_addresses_L9 χ post n9) n41 v41l1 v41l3 v41l6 v41l7 v41l8 v41l9 v41l10 v41l11 → W p l e rm_L_addresses s m args below meth c H locs 0 0 (Qi below args s B A (fun _ : Unit => wX3 k ad χ) (bpost fun b _ => post b) 0 0) (F0 m 41 ls []) := by
        intro n41
        induction n41 with
        | zero => intro v9l2 v9l4 r18 v41l1 v41l3 v41l6 v41l7 v41l8 v41l9 v41l10 v41l11 H locs ls hd hl hw; exact absurd hw (by simp [wpL_addresses_L41])
        | succ n41 ih41 =>
          intro v9l2 v9l4 r18 v41l1 v41l3 v41l6 v41l7 v41l8 v41l9 v41l10 v41l11 H locs ls hd hl hw
          rw [wpL_addresses_L41] at hw
          have J323 : ∀ (v9l2 : Int32) (v9l4 : Int32) (r18 : Int32) (v41l1 : Int32) (v41l3 : Int32) (v41l6 : Int32) (v41l7 : Int32) (v41l8 : Int32) (v41l9 : Int32) (v41l10 : Int32) (v41l11 : Int32) (r64 : Int32) (v88s1 : Bool) (v109s1 : Bool) (v160s1 : Bool) (v185s1 : Bool) (v206s1 : Bool) (H : Heap) (locs : List Loc) (ls : Array Slot), Wd B A s.heap (wX3 k ad χ) H locs → lv_has ls 14 [(0, .ref (ad 9 0)), (1, .int (v41l1 + 1)), (2, .int v9l2), (3, .int (v41l3 + (bi v206s1))), (4, .int v9l4), (5, .int r18), (6, .int (v41l6 + (bi v160s1))), (7, .int (v41l7 + (bi v185s1))), (8, .int (v41l8 + r64)), (9, .int (v41l9 + (bi v88s1))), (10, .int (v41l10 + (bi v109s1))), (11, .int v41l11), (12, .int ((16 * v9l4) + v41l11))] → wpL_addresses_J323 χ v9l4 r18 v41l1 v41l3 v41l6 v41l7 v41l8 v41l9 v41l10 v41l11 r64 v88s1 v109s1 v160s1 v185s1 v206s1 post (wpL_addresses_L9 χ post n9) (wpL_addresses_L41 χ v9l2 v9l4 r18 post (wpL_addresses_L9 χ post n9) n41)  → W p l e rm_L_addresses s m args below meth c H locs 0 0 (Qi below args s B A (fun _ : Unit => wX3 k ad χ) (bpost fun b _ => post b) 0 0) (F0 m 323 ls []) := by
            intro v9l2 v9l4 r18 v41l1 v41l3 v41l6 v41l7 v41l8 v41l9 v41l10 v41l11 r64 v88s1 v109s1 v160s1 v185s1 v206s1 H locs ls hd hl hw
            rw [wpL_addresses_J323] at hw
            refine lv_aload_n hx hb dL_addresses_323 rfl (lv_at hl 0 rfl) ?_
            refine lv_iload hx hb dL_addresses_324 (lv_at hl 12 rfl) ?_
            refine lv_iconst (v := 3) hx hb dL_addresses_326 (by decide) ?_
            refine v_i C hd hl M_X3_address gL_addresses_X3_address (c_X3_address l B k ad χ ((16 * v9l4) + v41l11) 3 _ hw) ⟨rfl, rfl⟩ ⟨Nat.le_of_ble_eq_true rfl, Nat.le_of_ble_eq_true rfl⟩ (pm_all _) (fun _ => wX3 k ad χ) (fun _ => (pm_all _).symm) 0 3 rfl rfl rfl rfl rfl (Nat.le_of_ble_eq_true rfl) dL_addresses_327 ⟨Nat.le_of_ble_eq_true rfl, Nat.le_of_ble_eq_true rfl⟩ (fun r327 _ H locs hw hd => ?_)
            refine lv_iload hx hb dL_addresses_330 (lv_at hl 5 rfl) ?_
            refine lv_icmp_eq (tgt := 337) hx hb dL_addresses_332 (by decide) (fun c121 => ?_) (fun c121 => ?_)
            · replace hw := hw.1 c121
              refine lv_iinc (v := v41l11 + 1) (lv' := [(11, .int (v41l11 + 1)), (0, .ref (ad 9 0)), (1, .int (v41l1 + 1)), (2, .int v9l2), (3, .int (v41l3 + (bi v206s1))), (4, .int v9l4), (5, .int r18), (6, .int (v41l6 + (bi v160s1))), (7, .int (v41l7 + (bi v185s1))), (8, .int (v41l8 + r64)), (9, .int (v41l9 + (bi v88s1))), (10, .int (v41l10 + (bi v109s1))), (12, .int ((16 * v9l4) + v41l11))]) hx hb dL_addresses_337 hl (k := 11) rfl rfl (by decide) rfl (fun ls hl => ?_)
              refine lv_goto (tgt := 41) hx hb dL_addresses_340 (by decide) ?_
              exact ih41 v9l2 v9l4 r18 (v41l1 + 1) (v41l3 + (bi v206s1)) (v41l6 + (bi v160s1)) (v41l7 + (bi v185s1)) (v41l8 + r64) (v41l9 + (bi v88s1)) (v41l10 + (bi v109s1)) (v41l11 + 1) _ _ _ hd (lv_sub hl [1, 2, 3, 4, 5, 6, 7, 8, 9, 10, 11, 0] rfl) hw
            · replace hw := hw.2 c121
              refine lv_iconst (v := 0) hx hb dL_addresses_335 (by decide) ?_
              exact r_z false C hd dL_addresses_336 () rfl hw
          have J290 : ∀ (v9l2 : Int32) (v9l4 : Int32) (r18 : Int32) (v41l1 : Int32) (v41l3 : Int32) (v41l6 : Int32) (v41l7 : Int32) (v41l8 : Int32) (v41l9 : Int32) (v41l10 : Int32) (v41l11 : Int32) (r64 : Int32) (v88s1 : Bool) (v109s1 : Bool) (r140 : Int32) (v160s1 : Bool) (v185s1 : Bool) (v206s1 : Bool) (v278s0 : Bool) (v290s1 : Bool) (H : Heap) (locs : List Loc) (ls : Array Slot), Wd B A s.heap (wX3 k ad χ) H locs → lv_has ls 14 [(0, .ref (ad 9 0)), (1, .int (v41l1 + 1)), (2, .int v9l2), (3, .int (v41l3 + (bi v206s1))), (4, .int v9l4), (5, .int r18), (6, .int (v41l6 + (bi v160s1))), (7, .int (v41l7 + (bi v185s1))), (8, .int (v41l8 + r64)), (9, .int (v41l9 + (bi v88s1))), (10, .int (v41l10 + (bi v109s1))), (11, .int v41l11), (12, .int ((16 * v9l4) + v41l11)), (13, .int r140)] → wpL_addresses_J290 χ v9l4 r18 v41l1 v41l3 v41l6 v41l7 v41l8 v41l9 v41l10 v41l11 r64 v88s1 v109s1 r140 v160s1 v185s1 v206s1 v278s0 post (wpL_addresses_L9 χ post n9) (wpL_addresses_L41 χ v9l2 v9l4 r18 post (wpL_addresses_L9 χ post n9) n41) v290s1 → W p l e rm_L_addresses s m args below meth c H locs 0 0 (Qi below args s B A (fun _ : Unit => wX3 k ad χ) (bpost fun b _ => post b) 0 0) (F0 m 290 ls [.int (bi v290s1), .int (bi v278s0)]) := by
            intro v9l2 v9l4 r18 v41l1 v41l3 v41l6 v41l7 v41l8 v41l9 v41l10 v41l11 r64 v88s1 v109s1 r140 v160s1 v185s1 v206s1 v278s0 v290s1 H locs ls hd hl hw
            rw [wpL_addresses_J290] at hw
            refine lv_icmp_ne (tgt := 321) hx hb dL_addresses_290 (by decide) (fun c122 => ?_) (fun c122 => ?_)
            · replace hw := hw.2 c122
              refine lv_iconst (v := 0) hx hb dL_addresses_321 (by decide) ?_
              exact r_z false C hd dL_addresses_322 () rfl hw
            · replace hw := hw.1 c122
              refine lv_aload_n hx hb dL_addresses_293 rfl (lv_at hl 0 rfl) ?_
              refine lv_iload hx hb dL_addresses_294 (lv_at hl 12 rfl) ?_
              refine lv_iconst (v := 4) hx hb dL_addresses_296 (by decide) ?_
              refine v_i C hd hl M_X3_address gL_addresses_X3_address (c_X3_address l B k ad χ ((16 * v9l4) + v41l11) 4 _ hw) ⟨rfl, rfl⟩ ⟨Nat.le_of_ble_eq_true rfl, Nat.le_of_ble_eq_true rfl⟩ (pm_all _) (fun _ => wX3 k ad χ) (fun _ => (pm_all _).symm) 0 3 rfl rfl rfl rfl rfl (Nat.le_of_ble_eq_true rfl) dL_addresses_297 ⟨Nat.le_of_ble_eq_true rfl, Nat.le_of_ble_eq_true rfl⟩ (fun r297 _ H locs hw hd => ?_)
              refine lv_aload_n hx hb dL_addresses_300 rfl (lv_at hl 0 rfl) ?_
              refine lv_iload hx hb dL_addresses_301 (lv_at hl 12 rfl) ?_
              refine lv_iload hx hb dL_addresses_303 (lv_at hl 13 rfl) ?_
              refine s_i C hd hl M_L_steps gL_addresses_L_steps rfl (c_L_steps l B k ad χ ((16 * v9l4) + v41l11) r140 _ hw) ⟨rfl, rfl⟩ ⟨Nat.le_of_ble_eq_true rfl, Nat.le_of_ble_eq_true rfl⟩ (pm_all _) (fun _ => wX3 k ad χ) (fun _ => (pm_all _).symm) rfl rfl (Nat.le_of_ble_eq_true rfl) dL_addresses_305 ⟨Nat.le_of_ble_eq_true rfl, Nat.le_of_ble_eq_true rfl⟩ (fun r305 _ H locs hw hd => ?_)
              refine lv_icmp_ne (tgt := 321) hx hb dL_addresses_308 (by decide) (fun c123 => ?_) (fun c123 => ?_)
              · replace hw := hw.2 c123
                refine lv_iconst (v := 0) hx hb dL_addresses_321 (by decide) ?_
                exact r_z false C hd dL_addresses_322 () rfl hw
              · replace hw := hw.1 c123
                refine lv_aload_n hx hb dL_addresses_311 rfl (lv_at hl 0 rfl) ?_
                refine lv_iload hx hb dL_addresses_312 (lv_at hl 12 rfl) ?_
                refine lv_iconst (v := 0) hx hb dL_addresses_314 (by decide) ?_
                refine v_i C hd hl M_X3_address gL_addresses_X3_address (c_X3_address l B k ad χ ((16 * v9l4) + v41l11) 0 _ hw) ⟨rfl, rfl⟩ ⟨Nat.le_of_ble_eq_true rfl, Nat.le_of_ble_eq_true rfl⟩ (pm_all _) (fun _ => wX3 k ad χ) (fun _ => (pm_all _).symm) 0 3 rfl rfl rfl rfl rfl (Nat.le_of_ble_eq_true rfl) dL_addresses_315 ⟨Nat.le_of_ble_eq_true rfl, Nat.le_of_ble_eq_true rfl⟩ (fun r315 _ H locs hw hd => ?_)
                refine lv_if_ge (tgt := 323) hx hb dL_addresses_318 (by decide) (fun c124 => ?_) (fun c124 => ?_)
                · replace hw := hw.1 c124
                  exact J323 v9l2 v9l4 r18 v41l1 v41l3 v41l6 v41l7 v41l8 v41l9 v41l10 v41l11 r64 v88s1 v109s1 v160s1 v185s1 v206s1 _ _ _ hd (lv_sub hl [0, 1, 2, 3, 4, 5, 6, 7, 8, 9, 10, 11, 12] rfl) hw
                · replace hw := hw.2 c124
                  refine lv_iconst (v := 0) hx hb dL_addresses_321 (by decide) ?_
                  exact r_z false C hd dL_addresses_322 () rfl hw
          have J278 : ∀ (v9l2 : Int32) (v9l4 : Int32) (r18 : Int32) (v41l1 : Int32) (v41l3 : Int32) (v41l6 : Int32) (v41l7 : Int32) (v41l8 : Int32) (v41l9 : Int32) (v41l10 : Int32) (v41l11 : Int32) (r64 : Int32) (v88s1 : Bool) (v109s1 : Bool) (r140 : Int32) (v160s1 : Bool) (v185s1 : Bool) (v206s1 : Bool) (v278s0 : Bool) (H : Heap) (locs : List Loc) (ls : Array Slot), Wd B A s.heap (wX3 k ad χ) H locs → lv_has ls 14 [(0, .ref (ad 9 0)), (1, .int (v41l1 + 1)), (2, .int v9l2), (3, .int (v41l3 + (bi v206s1))), (4, .int v9l4), (5, .int r18), (6, .int (v41l6 + (bi v160s1))), (7, .int (v41l7 + (bi v185s1))), (8, .int (v41l8 + r64)), (9, .int (v41l9 + (bi v88s1))), (10, .int (v41l10 + (bi v109s1))), (11, .int v41l11), (12, .int ((16 * v9l4) + v41l11)), (13, .int r140)] → wpL_addresses_J278 χ v9l4 r18 v41l1 v41l3 v41l6 v41l7 v41l8 v41l9 v41l10 v41l11 r64 v88s1 v109s1 r140 v160s1 v185s1 v206s1 post (wpL_addresses_L9 χ post n9) (wpL_addresses_L41 χ v9l2 v9l4 r18 post (wpL_addresses_L9 χ post n9) n41) v278s0 → W p l e rm_L_addresses s m args below meth c H locs 0 0 (Qi below args s B A (fun _ : Unit => wX3 k ad χ) (bpost fun b _ => post b) 0 0) (F0 m 278 ls [.int (bi v278s0)]) := by
            intro v9l2 v9l4 r18 v41l1 v41l3 v41l6 v41l7 v41l8 v41l9 v41l10 v41l11 r64 v88s1 v109s1 r140 v160s1 v185s1 v206s1 v278s0 H locs ls hd hl hw
            rw [wpL_addresses_J278] at hw
            refine lv_iload hx hb dL_addresses_278 (lv_at hl 13 rfl) ?_
            refine lv_iload hx hb dL_addresses_280 (lv_at hl 12 rfl) ?_
            refine lv_icmp_eq (tgt := 289) hx hb dL_addresses_282 (by decide) (fun c125 => ?_) (fun c125 => ?_)
            · replace hw := hw.1 c125
              refine lv_iconst (v := 0) hx hb dL_addresses_289 (by decide) ?_
              exact J290 v9l2 v9l4 r18 v41l1 v41l3 v41l6 v41l7 v41l8 v41l9 v41l10 v41l11 r64 v88s1 v109s1 r140 v160s1 v185s1 v206s1 v278s0 false _ _ _ hd (lv_sub hl [0, 1, 2, 3, 4, 5, 6, 7, 8, 9, 10, 11, 12, 13] rfl) hw
            · replace hw := hw.2 c125
              refine lv_iconst (v := 1) hx hb dL_addresses_285 (by decide) ?_
              refine lv_goto (tgt := 290) hx hb dL_addresses_286 (by decide) ?_
              exact J290 v9l2 v9l4 r18 v41l1 v41l3 v41l6 v41l7 v41l8 v41l9 v41l10 v41l11 r64 v88s1 v109s1 r140 v160s1 v185s1 v206s1 v278s0 true _ _ _ hd (lv_sub hl [0, 1, 2, 3, 4, 5, 6, 7, 8, 9, 10, 11, 12, 13] rfl) hw
          have J206 : ∀ (v9l2 : Int32) (v9l4 : Int32) (r18 : Int32) (v41l1 : Int32) (v41l3 : Int32) (v41l6 : Int32) (v41l7 : Int32) (v41l8 : Int32) (v41l9 : Int32) (v41l10 : Int32) (v41l11 : Int32) (r64 : Int32) (v88s1 : Bool) (v109s1 : Bool) (r140 : Int32) (v160s1 : Bool) (v185s1 : Bool) (v206s1 : Bool) (H : Heap) (locs : List Loc) (ls : Array Slot), Wd B A s.heap (wX3 k ad χ) H locs → lv_has ls 14 [(0, .ref (ad 9 0)), (1, .int (v41l1 + 1)), (2, .int v9l2), (4, .int v9l4), (5, .int r18), (6, .int (v41l6 + (bi v160s1))), (7, .int (v41l7 + (bi v185s1))), (8, .int (v41l8 + r64)), (9, .int (v41l9 + (bi v88s1))), (10, .int (v41l10 + (bi v109s1))), (11, .int v41l11), (12, .int ((16 * v9l4) + v41l11)), (13, .int r140)] → wpL_addresses_J206 χ v9l4 r18 v41l1 v41l3 v41l6 v41l7 v41l8 v41l9 v41l10 v41l11 r64 v88s1 v109s1 r140 v160s1 v185s1 post (wpL_addresses_L9 χ post n9) (wpL_addresses_L41 χ v9l2 v9l4 r18 post (wpL_addresses_L9 χ post n9) n41) v206s1 → W p l e rm_L_addresses s m args below meth c H locs 0 0 (Qi below args s B A (fun _ : Unit => wX3 k ad χ) (bpost fun b _ => post b) 0 0) (F0 m 206 ls [.int (bi v206s1), .int v41l3]) := by
            intro v9l2 v9l4 r18 v41l1 v41l3 v41l6 v41l7 v41l8 v41l9 v41l10 v41l11 r64 v88s1 v109s1 r140 v160s1 v185s1 v206s1 H locs ls hd hl hw
            rw [wpL_addresses_J206] at hw
            refine lv_iadd hx hb dL_addresses_206 ?_
            refine lv_istore_n (lv' := [(3, .int (v41l3 + (bi v206s1))), (0, .ref (ad 9 0)), (1, .int (v41l1 + 1)), (2, .int v9l2), (4, .int v9l4), (5, .int r18), (6, .int (v41l6 + (bi v160s1))), (7, .int (v41l7 + (bi v185s1))), (8, .int (v41l8 + r64)), (9, .int (v41l9 + (bi v88s1))), (10, .int (v41l10 + (bi v109s1))), (11, .int v41l11), (12, .int ((16 * v9l4) + v41l11)), (13, .int r140)]) hx hb dL_addresses_207 rfl hl (by decide) rfl (fun ls hl => ?_)
            refine lv_iload hx hb dL_addresses_208 (lv_at hl 13 rfl) ?_
            refine lv_if_ge (tgt := 250) hx hb dL_addresses_210 (by decide) (fun c126 => ?_) (fun c126 => ?_)
            · replace hw := hw.1 c126
              refine lv_aload_n hx hb dL_addresses_250 rfl (lv_at hl 1 rfl) ?_
              refine lv_iload hx hb dL_addresses_251 (lv_at hl 13 rfl) ?_
              refine lv_iconst (v := 3) hx hb dL_addresses_253 (by decide) ?_
              refine v_i C hd hl M_X3_sector gL_addresses_X3_sector (c_X3_sector l B k ad χ r140 3 _ hw) ⟨rfl, rfl⟩ ⟨Nat.le_of_ble_eq_true rfl, Nat.le_of_ble_eq_true rfl⟩ (pm_all _) (fun _ => wX3 k ad χ) (fun _ => (pm_all _).symm) 0 3 rfl rfl rfl rfl rfl (Nat.le_of_ble_eq_true rfl) dL_addresses_254 ⟨Nat.le_of_ble_eq_true rfl, Nat.le_of_ble_eq_true rfl⟩ (fun r254 _ H locs hw hd => ?_)
              refine lv_iload hx hb dL_addresses_257 (lv_at hl 12 rfl) ?_
              refine lv_icmp_ne (tgt := 321) hx hb dL_addresses_259 (by decide) (fun c127 => ?_) (fun c127 => ?_)
              · replace hw := hw.2 c127
                refine lv_iconst (v := 0) hx hb dL_addresses_321 (by decide) ?_
                exact r_z false C hd dL_addresses_322 () rfl hw
              · replace hw := hw.1 c127
                refine lv_aload_n hx hb dL_addresses_262 rfl (lv_at hl 1 rfl) ?_
                refine lv_iload hx hb dL_addresses_263 (lv_at hl 12 rfl) ?_
                refine lv_iconst (v := 2) hx hb dL_addresses_265 (by decide) ?_
                refine v_i C hd hl M_X3_address gL_addresses_X3_address (c_X3_address l B k ad χ ((16 * v9l4) + v41l11) 2 _ hw) ⟨rfl, rfl⟩ ⟨Nat.le_of_ble_eq_true rfl, Nat.le_of_ble_eq_true rfl⟩ (pm_all _) (fun _ => wX3 k ad χ) (fun _ => (pm_all _).symm) 0 3 rfl rfl rfl rfl rfl (Nat.le_of_ble_eq_true rfl) dL_addresses_266 ⟨Nat.le_of_ble_eq_true rfl, Nat.le_of_ble_eq_true rfl⟩ (fun r266 _ H locs hw hd => ?_)
                refine lv_iconst (v := 1) hx hb dL_addresses_269 (by decide) ?_
                refine lv_icmp_ne (tgt := 277) hx hb dL_addresses_270 (by decide) (fun c128 => ?_) (fun c128 => ?_)
                · replace hw := hw.2 c128
                  refine lv_iconst (v := 0) hx hb dL_addresses_277 (by decide) ?_
                  exact J278 v9l2 v9l4 r18 v41l1 v41l3 v41l6 v41l7 v41l8 v41l9 v41l10 v41l11 r64 v88s1 v109s1 r140 v160s1 v185s1 v206s1 false _ _ _ hd (lv_sub hl [1, 2, 3, 0, 4, 5, 6, 7, 8, 9, 10, 11, 12, 13] rfl) hw
                · replace hw := hw.1 c128
                  refine lv_iconst (v := 1) hx hb dL_addresses_273 (by decide) ?_
                  refine lv_goto (tgt := 278) hx hb dL_addresses_274 (by decide) ?_
                  exact J278 v9l2 v9l4 r18 v41l1 v41l3 v41l6 v41l7 v41l8 v41l9 v41l10 v41l11 r64 v88s1 v109s1 r140 v160s1 v185s1 v206s1 true _ _ _ hd (lv_sub hl [1, 2, 3, 0, 4, 5, 6, 7, 8, 9, 10, 11, 12, 13] rfl) hw
            · replace hw := hw.2 c126
              refine lv_aload_n hx hb dL_addresses_213 rfl (lv_at hl 1 rfl) ?_
              refine lv_iload hx hb dL_addresses_214 (lv_at hl 12 rfl) ?_
              refine lv_iconst (v := 0) hx hb dL_addresses_216 (by decide) ?_
              refine v_i C hd hl M_X3_address gL_addresses_X3_address (c_X3_address l B k ad χ ((16 * v9l4) + v41l11) 0 _ hw) ⟨rfl, rfl⟩ ⟨Nat.le_of_ble_eq_true rfl, Nat.le_of_ble_eq_true rfl⟩ (pm_all _) (fun _ => wX3 k ad χ) (fun _ => (pm_all _).symm) 0 3 rfl rfl rfl rfl rfl (Nat.le_of_ble_eq_true rfl) dL_addresses_217 ⟨Nat.le_of_ble_eq_true rfl, Nat.le_of_ble_eq_true rfl⟩ (fun r217 _ H locs hw hd => ?_)
              refine lv_bipush (v := (-5)) hx hb dL_addresses_220 (by decide) ?_
              refine lv_icmp_ne (tgt := 321) hx hb dL_addresses_222 (by decide) (fun c129 => ?_) (fun c129 => ?_)
              · replace hw := hw.2 c129
                refine lv_iconst (v := 0) hx hb dL_addresses_321 (by decide) ?_
                exact r_z false C hd dL_addresses_322 () rfl hw
              · replace hw := hw.1 c129
                refine lv_aload_n hx hb dL_addresses_225 rfl (lv_at hl 1 rfl) ?_
                refine lv_iload hx hb dL_addresses_226 (lv_at hl 12 rfl) ?_
                refine lv_iconst (v := 4) hx hb dL_addresses_228 (by decide) ?_
                refine v_i C hd hl M_X3_address gL_addresses_X3_address (c_X3_address l B k ad χ ((16 * v9l4) + v41l11) 4 _ hw) ⟨rfl, rfl⟩ ⟨Nat.le_of_ble_eq_true rfl, Nat.le_of_ble_eq_true rfl⟩ (pm_all _) (fun _ => wX3 k ad χ) (fun _ => (pm_all _).symm) 0 3 rfl rfl rfl rfl rfl (Nat.le_of_ble_eq_true rfl) dL_addresses_229 ⟨Nat.le_of_ble_eq_true rfl, Nat.le_of_ble_eq_true rfl⟩ (fun r229 _ H locs hw hd => ?_)
                refine lv_bipush (v := (-5)) hx hb dL_addresses_232 (by decide) ?_
                refine lv_icmp_ne (tgt := 321) hx hb dL_addresses_234 (by decide) (fun c130 => ?_) (fun c130 => ?_)
                · replace hw := hw.2 c130
                  refine lv_iconst (v := 0) hx hb dL_addresses_321 (by decide) ?_
                  exact r_z false C hd dL_addresses_322 () rfl hw
                · replace hw := hw.1 c130
                  refine lv_aload_n hx hb dL_addresses_237 rfl (lv_at hl 1 rfl) ?_
                  refine lv_iload hx hb dL_addresses_238 (lv_at hl 12 rfl) ?_
                  refine lv_iconst (v := 2) hx hb dL_addresses_240 (by decide) ?_
                  refine v_i C hd hl M_X3_address gL_addresses_X3_address (c_X3_address l B k ad χ ((16 * v9l4) + v41l11) 2 _ hw) ⟨rfl, rfl⟩ ⟨Nat.le_of_ble_eq_true rfl, Nat.le_of_ble_eq_true rfl⟩ (pm_all _) (fun _ => wX3 k ad χ) (fun _ => (pm_all _).symm) 0 3 rfl rfl rfl rfl rfl (Nat.le_of_ble_eq_true rfl) dL_addresses_241 ⟨Nat.le_of_ble_eq_true rfl, Nat.le_of_ble_eq_true rfl⟩ (fun r241 _ H locs hw hd => ?_)
                  refine lv_if_eq (tgt := 323) hx hb dL_addresses_244 (by decide) (fun c131 => ?_) (fun c131 => ?_)
                  · replace hw := hw.1 c131
                    exact J323 v9l2 v9l4 r18 v41l1 v41l3 v41l6 v41l7 v41l8 v41l9 v41l10 v41l11 r64 v88s1 v109s1 v160s1 v185s1 v206s1 _ _ _ hd (lv_sub hl [1, 2, 3, 0, 4, 5, 6, 7, 8, 9, 10, 11, 12] rfl) hw
                  · replace hw := hw.2 c131
                    refine lv_goto (tgt := 321) hx hb dL_addresses_247 (by decide) ?_
                    refine lv_iconst (v := 0) hx hb dL_addresses_321 (by decide) ?_
                    exact r_z false C hd dL_addresses_322 () rfl hw
          have J205 : ∀ (v9l2 : Int32) (v9l4 : Int32) (r18 : Int32) (v41l1 : Int32) (v41l3 : Int32) (v41l6 : Int32) (v41l7 : Int32) (v41l8 : Int32) (v41l9 : Int32) (v41l10 : Int32) (v41l11 : Int32) (r64 : Int32) (v88s1 : Bool) (v109s1 : Bool) (r140 : Int32) (v160s1 : Bool) (v185s1 : Bool) (H : Heap) (locs : List Loc) (ls : Array Slot), Wd B A s.heap (wX3 k ad χ) H locs → lv_has ls 14 [(0, .ref (ad 9 0)), (1, .int (v41l1 + 1)), (2, .int v9l2), (4, .int v9l4), (5, .int r18), (6, .int (v41l6 + (bi v160s1))), (7, .int (v41l7 + (bi v185s1))), (8, .int (v41l8 + r64)), (9, .int (v41l9 + (bi v88s1))), (10, .int (v41l10 + (bi v109s1))), (11, .int v41l11), (12, .int ((16 * v9l4) + v41l11)), (13, .int r140)] → wpL_addresses_J205 χ v9l4 r18 v41l1 v41l3 v41l6 v41l7 v41l8 v41l9 v41l10 v41l11 r64 v88s1 v109s1 r140 v160s1 v185s1 post (wpL_addresses_L9 χ post n9) (wpL_addresses_L41 χ v9l2 v9l4 r18 post (wpL_addresses_L9 χ post n9) n41)  → W p l e rm_L_addresses s m args below meth c H locs 0 0 (Qi below args s B A (fun _ : Unit => wX3 k ad χ) (bpost fun b _ => post b) 0 0) (F0 m 205 ls [.int v41l3]) := by
            intro v9l2 v9l4 r18 v41l1 v41l3 v41l6 v41l7 v41l8 v41l9 v41l10 v41l11 r64 v88s1 v109s1 r140 v160s1 v185s1 H locs ls hd hl hw
            rw [wpL_addresses_J205] at hw
            refine lv_iconst (v := 0) hx hb dL_addresses_205 (by decide) ?_
            exact J206 v9l2 v9l4 r18 v41l1 v41l3 v41l6 v41l7 v41l8 v41l9 v41l10 v41l11 r64 v88s1 v109s1 r140 v160s1 v185s1 false _ _ _ hd (lv_sub hl [0, 1, 2, 3, 4, 5, 6, 7, 8, 9, 10, 11, 12] rfl) hw
          have J185 : ∀ (v9l2 : Int32) (v9l4 : Int32) (r18 : Int32) (v41l1 : Int32) (v41l3 : Int32) (v41l6 : Int32) (v41l7 : Int32) (v41l8 : Int32) (v41l9 : Int32) (v41l10 : Int32) (v41l11 : Int32) (r64 : Int32) (v88s1 : Bool) (v109s1 : Bool) (r140 : Int32) (v160s1 : Bool) (v185s1 : Bool) (H : Heap) (locs : List Loc) (ls : Array Slot), Wd B A s.heap (wX3 k ad χ) H locs → lv_has ls 14 [(0, .ref (ad 9 0)), (1, .int (v41l1 + 1)), (2, .int v9l2), (3, .int v41l3), (4, .int v9l4), (5, .int r18), (6, .int (v41l6 + (bi v160s1))), (8, .int (v41l8 + r64)), (9, .int (v41l9 + (bi v88s1))), (10, .int (v41l10 + (bi v109s1))), (11, .int v41l11), (12, .int ((16 * v9l4) + v41l11)), (13, .int r140)] → wpL_addresses_J185 χ v9l4 r18 v41l1 v41l3 v41l6 v41l7 v41l8 v41l9 v41l10 v41l11 r64 v88s1 v109s1 r140 v160s1 post (wpL_addresses_L9 χ post n9) (wpL_addresses_L41 χ v9l2 v9l4 r18 post (wpL_addresses_L9 χ post n9) n41) v185s1 → W p l e rm_L_addresses s m args below meth c H locs 0 0 (Qi below args s B A (fun _ : Unit => wX3 k ad χ) (bpost fun b _ => post b) 0 0) (F0 m 185 ls [.int (bi v185s1), .int v41l7]) := by
            intro v9l2 v9l4 r18 v41l1 v41l3 v41l6 v41l7 v41l8 v41l9 v41l10 v41l11 r64 v88s1 v109s1 r140 v160s1 v185s1 H locs ls hd hl hw
            rw [wpL_addresses_J185] at hw
            refine lv_iadd hx hb dL_addresses_185 ?_
            refine lv_istore (lv' := [(7, .int (v41l7 + (bi v185s1))), (0, .ref (ad 9 0)), (1, .int (v41l1 + 1)), (2, .int v9l2), (3, .int v41l3), (4, .int v9l4), (5, .int r18), (6, .int (v41l6 + (bi v160s1))), (8, .int (v41l8 + r64)), (9, .int (v41l9 + (bi v88s1))), (10, .int (v41l10 + (bi v109s1))), (11, .int v41l11), (12, .int ((16 * v9l4) + v41l11)), (13, .int r140)]) hx hb dL_addresses_186 hl (by decide) rfl (fun ls hl => ?_)
            refine lv_iload_n hx hb dL_addresses_188 rfl (lv_at hl 4 rfl) ?_
            refine lv_iload hx hb dL_addresses_189 (lv_at hl 13 rfl) ?_
            refine lv_if_lt (tgt := 205) hx hb dL_addresses_191 (by decide) (fun c132 => ?_) (fun c132 => ?_)
            · replace hw := hw.1 c132
              exact J205 v9l2 v9l4 r18 v41l1 v41l3 v41l6 v41l7 v41l8 v41l9 v41l10 v41l11 r64 v88s1 v109s1 r140 v160s1 v185s1 _ _ _ hd (lv_sub hl [1, 2, 3, 5, 6, 7, 0, 8, 9, 10, 11, 12, 13] rfl) hw
            · replace hw := hw.2 c132
              refine lv_iload hx hb dL_addresses_194 (lv_at hl 13 rfl) ?_
              refine lv_iload hx hb dL_addresses_196 (lv_at hl 12 rfl) ?_
              refine lv_icmp_eq (tgt := 205) hx hb dL_addresses_198 (by decide) (fun c133 => ?_) (fun c133 => ?_)
              · replace hw := hw.1 c133
                exact J205 v9l2 v9l4 r18 v41l1 v41l3 v41l6 v41l7 v41l8 v41l9 v41l10 v41l11 r64 v88s1 v109s1 r140 v160s1 v185s1 _ _ _ hd (lv_sub hl [1, 2, 3, 5, 6, 7, 0, 8, 9, 10, 11, 12, 13] rfl) hw
              · replace hw := hw.2 c133
                refine lv_iconst (v := 1) hx hb dL_addresses_201 (by decide) ?_
                refine lv_goto (tgt := 206) hx hb dL_addresses_202 (by decide) ?_
                exact J206 v9l2 v9l4 r18 v41l1 v41l3 v41l6 v41l7 v41l8 v41l9 v41l10 v41l11 r64 v88s1 v109s1 r140 v160s1 v185s1 true _ _ _ hd (lv_sub hl [1, 2, 3, 5, 6, 7, 0, 8, 9, 10, 11, 12, 13] rfl) hw
          have J184 : ∀ (v9l2 : Int32) (v9l4 : Int32) (r18 : Int32) (v41l1 : Int32) (v41l3 : Int32) (v41l6 : Int32) (v41l7 : Int32) (v41l8 : Int32) (v41l9 : Int32) (v41l10 : Int32) (v41l11 : Int32) (r64 : Int32) (v88s1 : Bool) (v109s1 : Bool) (r140 : Int32) (v160s1 : Bool) (H : Heap) (locs : List Loc) (ls : Array Slot), Wd B A s.heap (wX3 k ad χ) H locs → lv_has ls 14 [(0, .ref (ad 9 0)), (1, .int (v41l1 + 1)), (2, .int v9l2), (3, .int v41l3), (4, .int v9l4), (5, .int r18), (6, .int (v41l6 + (bi v160s1))), (8, .int (v41l8 + r64)), (9, .int (v41l9 + (bi v88s1))), (10, .int (v41l10 + (bi v109s1))), (11, .int v41l11), (12, .int ((16 * v9l4) + v41l11)), (13, .int r140)] → wpL_addresses_J184 χ v9l4 r18 v41l1 v41l3 v41l6 v41l7 v41l8 v41l9 v41l10 v41l11 r64 v88s1 v109s1 r140 v160s1 post (wpL_addresses_L9 χ post n9) (wpL_addresses_L41 χ v9l2 v9l4 r18 post (wpL_addresses_L9 χ post n9) n41)  → W p l e rm_L_addresses s m args below meth c H locs 0 0 (Qi below args s B A (fun _ : Unit => wX3 k ad χ) (bpost fun b _ => post b) 0 0) (F0 m 184 ls [.int v41l7]) := by
            intro v9l2 v9l4 r18 v41l1 v41l3 v41l6 v41l7 v41l8 v41l9 v41l10 v41l11 r64 v88s1 v109s1 r140 v160s1 H locs ls hd hl hw
            rw [wpL_addresses_J184] at hw
            refine lv_iconst (v := 0) hx hb dL_addresses_184 (by decide) ?_
            exact J185 v9l2 v9l4 r18 v41l1 v41l3 v41l6 v41l7 v41l8 v41l9 v41l10 v41l11 r64 v88s1 v109s1 r140 v160s1 false _ _ _ hd (lv_sub hl [0, 1, 2, 3, 4, 5, 6, 7, 8, 9, 10, 11, 12] rfl) hw
          have J160 : ∀ (v9l2 : Int32) (v9l4 : Int32) (r18 : Int32) (v41l1 : Int32) (v41l3 : Int32) (v41l6 : Int32) (v41l7 : Int32) (v41l8 : Int32) (v41l9 : Int32) (v41l10 : Int32) (v41l11 : Int32) (r64 : Int32) (v88s1 : Bool) (v109s1 : Bool) (r140 : Int32) (v160s1 : Bool) (H : Heap) (locs : List Loc) (ls : Array Slot), Wd B A s.heap (wX3 k ad χ) H locs → lv_has ls 14 [(0, .ref (ad 9 0)), (1, .int (v41l1 + 1)), (2, .int v9l2), (3, .int v41l3), (4, .int v9l4), (5, .int r18), (7, .int v41l7), (8, .int (v41l8 + r64)), (9, .int (v41l9 + (bi v88s1))), (10, .int (v41l10 + (bi v109s1))), (11, .int v41l11), (12, .int ((16 * v9l4) + v41l11)), (13, .int r140)] → wpL_addresses_J160 χ v9l4 r18 v41l1 v41l3 v41l6 v41l7 v41l8 v41l9 v41l10 v41l11 r64 v88s1 v109s1 r140 post (wpL_addresses_L9 χ post n9) (wpL_addresses_L41 χ v9l2 v9l4 r18 post (wpL_addresses_L9 χ post n9) n41) v160s1 → W p l e rm_L_addresses s m args below meth c H locs 0 0 (Qi below args s B A (fun _ : Unit => wX3 k ad χ) (bpost fun b _ => post b) 0 0) (F0 m 160 ls [.int (bi v160s1), .int v41l6]) := by
            intro v9l2 v9l4 r18 v41l1 v41l3 v41l6 v41l7 v41l8 v41l9 v41l10 v41l11 r64 v88s1 v109s1 r140 v160s1 H locs ls hd hl hw
            rw [wpL_addresses_J160] at hw
            refine lv_iadd hx hb dL_addresses_160 ?_
            refine lv_istore (lv' := [(6, .int (v41l6 + (bi v160s1))), (0, .ref (ad 9 0)), (1, .int (v41l1 + 1)), (2, .int v9l2), (3, .int v41l3), (4, .int v9l4), (5, .int r18), (7, .int v41l7), (8, .int (v41l8 + r64)), (9, .int (v41l9 + (bi v88s1))), (10, .int (v41l10 + (bi v109s1))), (11, .int v41l11), (12, .int ((16 * v9l4) + v41l11)), (13, .int r140)]) hx hb dL_addresses_161 hl (by decide) rfl (fun ls hl => ?_)
            refine lv_iload hx hb dL_addresses_163 (lv_at hl 7 rfl) ?_
            refine lv_iload hx hb dL_addresses_165 (lv_at hl 13 rfl) ?_
            refine lv_if_lt (tgt := 184) hx hb dL_addresses_167 (by decide) (fun c134 => ?_) (fun c134 => ?_)
            · replace hw := hw.1 c134
              exact J184 v9l2 v9l4 r18 v41l1 v41l3 v41l6 v41l7 v41l8 v41l9 v41l10 v41l11 r64 v88s1 v109s1 r140 v160s1 _ _ _ hd (lv_sub hl [1, 2, 3, 4, 5, 6, 0, 8, 9, 10, 11, 12, 13] rfl) hw
            · replace hw := hw.2 c134
              refine lv_iload hx hb dL_addresses_170 (lv_at hl 13 rfl) ?_
              refine lv_bipush (v := 16) hx hb dL_addresses_172 (by decide) ?_
              refine lv_idiv hx hb dL_addresses_174 (by decide) ?_
              refine lv_iload hx hb dL_addresses_175 (lv_at hl 5 rfl) ?_
              refine lv_icmp_eq (tgt := 184) hx hb dL_addresses_177 (by decide) (fun c135 => ?_) (fun c135 => ?_)
              · replace hw := hw.1 c135
                exact J184 v9l2 v9l4 r18 v41l1 v41l3 v41l6 v41l7 v41l8 v41l9 v41l10 v41l11 r64 v88s1 v109s1 r140 v160s1 _ _ _ hd (lv_sub hl [1, 2, 3, 4, 5, 6, 0, 8, 9, 10, 11, 12, 13] rfl) hw
              · replace hw := hw.2 c135
                refine lv_iconst (v := 1) hx hb dL_addresses_180 (by decide) ?_
                refine lv_goto (tgt := 185) hx hb dL_addresses_181 (by decide) ?_
                exact J185 v9l2 v9l4 r18 v41l1 v41l3 v41l6 v41l7 v41l8 v41l9 v41l10 v41l11 r64 v88s1 v109s1 r140 v160s1 true _ _ _ hd (lv_sub hl [1, 2, 3, 4, 5, 6, 0, 8, 9, 10, 11, 12, 13] rfl) hw
          have J109 : ∀ (v9l2 : Int32) (v9l4 : Int32) (r18 : Int32) (v41l1 : Int32) (v41l3 : Int32) (v41l6 : Int32) (v41l7 : Int32) (v41l8 : Int32) (v41l9 : Int32) (v41l10 : Int32) (v41l11 : Int32) (r64 : Int32) (v88s1 : Bool) (v109s1 : Bool) (H : Heap) (locs : List Loc) (ls : Array Slot), Wd B A s.heap (wX3 k ad χ) H locs → lv_has ls 14 [(0, .ref (ad 9 0)), (1, .int v41l1), (2, .int v9l2), (3, .int v41l3), (4, .int v9l4), (5, .int r18), (6, .int v41l6), (7, .int v41l7), (8, .int (v41l8 + r64)), (9, .int (v41l9 + (bi v88s1))), (11, .int v41l11), (12, .int ((16 * v9l4) + v41l11))] → wpL_addresses_J109 χ v9l4 r18 v41l1 v41l3 v41l6 v41l7 v41l8 v41l9 v41l10 v41l11 r64 v88s1 post (wpL_addresses_L9 χ post n9) (wpL_addresses_L41 χ v9l2 v9l4 r18 post (wpL_addresses_L9 χ post n9) n41) v109s1 → W p l e rm_L_addresses s m args below meth c H locs 0 0 (Qi below args s B A (fun _ : Unit => wX3 k ad χ) (bpost fun b _ => post b) 0 0) (F0 m 109 ls [.int (bi v109s1), .int v41l10]) := by
            intro v9l2 v9l4 r18 v41l1 v41l3 v41l6 v41l7 v41l8 v41l9 v41l10 v41l11 r64 v88s1 v109s1 H locs ls hd hl hw
            rw [wpL_addresses_J109] at hw
            refine lv_iadd hx hb dL_addresses_109 ?_
            refine lv_istore (lv' := [(10, .int (v41l10 + (bi v109s1))), (0, .ref (ad 9 0)), (1, .int v41l1), (2, .int v9l2), (3, .int v41l3), (4, .int v9l4), (5, .int r18), (6, .int v41l6), (7, .int v41l7), (8, .int (v41l8 + r64)), (9, .int (v41l9 + (bi v88s1))), (11, .int v41l11), (12, .int ((16 * v9l4) + v41l11))]) hx hb dL_addresses_110 hl (by decide) rfl (fun ls hl => ?_)
            refine lv_aload_n hx hb dL_addresses_112 rfl (lv_at hl 1 rfl) ?_
            refine lv_iload hx hb dL_addresses_113 (lv_at hl 12 rfl) ?_
            refine lv_iconst (v := 2) hx hb dL_addresses_115 (by decide) ?_
            refine v_i C hd hl M_X3_sector gL_addresses_X3_sector (c_X3_sector l B k ad χ ((16 * v9l4) + v41l11) 2 _ hw) ⟨rfl, rfl⟩ ⟨Nat.le_of_ble_eq_true rfl, Nat.le_of_ble_eq_true rfl⟩ (pm_all _) (fun _ => wX3 k ad χ) (fun _ => (pm_all _).symm) 0 3 rfl rfl rfl rfl rfl (Nat.le_of_ble_eq_true rfl) dL_addresses_116 ⟨Nat.le_of_ble_eq_true rfl, Nat.le_of_ble_eq_true rfl⟩ (fun r116 _ H locs hw hd => ?_)
            refine lv_iconst (v := 1) hx hb dL_addresses_119 (by decide) ?_
            refine lv_icmp_ne (tgt := 136) hx hb dL_addresses_120 (by decide) (fun c136 => ?_) (fun c136 => ?_)
            · replace hw := hw.2 c136
              refine lv_aload_n hx hb dL_addresses_136 rfl (lv_at hl 1 rfl) ?_
              refine lv_iload hx hb dL_addresses_137 (lv_at hl 12 rfl) ?_
              refine lv_iconst (v := 1) hx hb dL_addresses_139 (by decide) ?_
              refine v_i C hd hl M_X3_address gL_addresses_X3_address (c_X3_address l B k ad χ ((16 * v9l4) + v41l11) 1 _ hw) ⟨rfl, rfl⟩ ⟨Nat.le_of_ble_eq_true rfl, Nat.le_of_ble_eq_true rfl⟩ (pm_all _) (fun _ => wX3 k ad χ) (fun _ => (pm_all _).symm) 0 3 rfl rfl rfl rfl rfl (Nat.le_of_ble_eq_true rfl) dL_addresses_140 ⟨Nat.le_of_ble_eq_true rfl, Nat.le_of_ble_eq_true rfl⟩ (fun r140 _ H locs hw hd => ?_)
              refine lv_istore (lv' := [(13, .int r140), (10, .int (v41l10 + (bi v109s1))), (0, .ref (ad 9 0)), (1, .int v41l1), (2, .int v9l2), (3, .int v41l3), (4, .int v9l4), (5, .int r18), (6, .int v41l6), (7, .int v41l7), (8, .int (v41l8 + r64)), (9, .int (v41l9 + (bi v88s1))), (11, .int v41l11), (12, .int ((16 * v9l4) + v41l11))]) hx hb dL_addresses_143 hl (by decide) rfl (fun ls hl => ?_)
              refine lv_iinc (v := v41l1 + 1) (lv' := [(1, .int (v41l1 + 1)), (13, .int r140), (10, .int (v41l10 + (bi v109s1))), (0, .ref (ad 9 0)), (2, .int v9l2), (3, .int v41l3), (4, .int v9l4), (5, .int r18), (6, .int v41l6), (7, .int v41l7), (8, .int (v41l8 + r64)), (9, .int (v41l9 + (bi v88s1))), (11, .int v41l11), (12, .int ((16 * v9l4) + v41l11))]) hx hb dL_addresses_145 hl (k := 3) rfl rfl (by decide) rfl (fun ls hl => ?_)
              refine lv_iload hx hb dL_addresses_148 (lv_at hl 8 rfl) ?_
              refine lv_iload hx hb dL_addresses_150 (lv_at hl 1 rfl) ?_
              refine lv_if_ge (tgt := 159) hx hb dL_addresses_152 (by decide) (fun c137 => ?_) (fun c137 => ?_)
              · replace hw := hw.1 c137
                refine lv_iconst (v := 0) hx hb dL_addresses_159 (by decide) ?_
                exact J160 v9l2 v9l4 r18 v41l1 v41l3 v41l6 v41l7 v41l8 v41l9 v41l10 v41l11 r64 v88s1 v109s1 r140 false _ _ _ hd (lv_sub hl [3, 0, 4, 5, 6, 7, 9, 10, 11, 2, 12, 13, 1] rfl) hw
              · replace hw := hw.2 c137
                refine lv_iconst (v := 1) hx hb dL_addresses_155 (by decide) ?_
                refine lv_goto (tgt := 160) hx hb dL_addresses_156 (by decide) ?_
                exact J160 v9l2 v9l4 r18 v41l1 v41l3 v41l6 v41l7 v41l8 v41l9 v41l10 v41l11 r64 v88s1 v109s1 r140 true _ _ _ hd (lv_sub hl [3, 0, 4, 5, 6, 7, 9, 10, 11, 2, 12, 13, 1] rfl) hw
            · replace hw := hw.1 c136
              refine lv_aload_n hx hb dL_addresses_123 rfl (lv_at hl 1 rfl) ?_
              refine lv_iload hx hb dL_addresses_124 (lv_at hl 12 rfl) ?_
              refine lv_iconst (v := 0) hx hb dL_addresses_126 (by decide) ?_
              refine v_i C hd hl M_X3_address gL_addresses_X3_address (c_X3_address l B k ad χ ((16 * v9l4) + v41l11) 0 _ hw) ⟨rfl, rfl⟩ ⟨Nat.le_of_ble_eq_true rfl, Nat.le_of_ble_eq_true rfl⟩ (pm_all _) (fun _ => wX3 k ad χ) (fun _ => (pm_all _).symm) 0 3 rfl rfl rfl rfl rfl (Nat.le_of_ble_eq_true rfl) dL_addresses_127 ⟨Nat.le_of_ble_eq_true rfl, Nat.le_of_ble_eq_true rfl⟩ (fun r127 _ H locs hw hd => ?_)
              refine lv_iconst (v := (-1)) hx hb dL_addresses_130 (by decide) ?_
              refine lv_icmp_eq (tgt := 337) hx hb dL_addresses_131 (by decide) (fun c138 => ?_) (fun c138 => ?_)
              · replace hw := hw.1 c138
                refine lv_iinc (v := v41l11 + 1) (lv' := [(11, .int (v41l11 + 1)), (10, .int (v41l10 + (bi v109s1))), (0, .ref (ad 9 0)), (1, .int v41l1), (2, .int v9l2), (3, .int v41l3), (4, .int v9l4), (5, .int r18), (6, .int v41l6), (7, .int v41l7), (8, .int (v41l8 + r64)), (9, .int (v41l9 + (bi v88s1))), (12, .int ((16 * v9l4) + v41l11))]) hx hb dL_addresses_337 hl (k := 11) rfl rfl (by decide) rfl (fun ls hl => ?_)
                refine lv_goto (tgt := 41) hx hb dL_addresses_340 (by decide) ?_
                exact ih41 v9l2 v9l4 r18 v41l1 v41l3 v41l6 v41l7 (v41l8 + r64) (v41l9 + (bi v88s1)) (v41l10 + (bi v109s1)) (v41l11 + 1) _ _ _ hd (lv_sub hl [2, 3, 4, 5, 6, 7, 8, 9, 10, 11, 1, 0] rfl) hw
              · replace hw := hw.2 c138
                refine lv_iconst (v := 0) hx hb dL_addresses_134 (by decide) ?_
                exact r_z false C hd dL_addresses_135 () rfl hw
          have J88 : ∀ (v9l2 : Int32) (v9l4 : Int32) (r18 : Int32) (v41l1 : Int32) (v41l3 : Int32) (v41l6 : Int32) (v41l7 : Int32) (v41l8 : Int32) (v41l9 : Int32) (v41l10 : Int32) (v41l11 : Int32) (r64 : Int32) (v88s1 : Bool) (H : Heap) (locs : List Loc) (ls : Array Slot), Wd B A s.heap (wX3 k ad χ) H locs → lv_has ls 14 [(0, .ref (ad 9 0)), (1, .int v41l1), (2, .int v9l2), (3, .int v41l3), (4, .int v9l4), (5, .int r18), (6, .int v41l6), (7, .int v41l7), (8, .int (v41l8 + r64)), (10, .int v41l10), (11, .int v41l11), (12, .int ((16 * v9l4) + v41l11))] → wpL_addresses_J88 χ v9l4 r18 v41l1 v41l3 v41l6 v41l7 v41l8 v41l9 v41l10 v41l11 r64 post (wpL_addresses_L9 χ post n9) (wpL_addresses_L41 χ v9l2 v9l4 r18 post (wpL_addresses_L9 χ post n9) n41) v88s1 → W p l e rm_L_addresses s m args below meth c H locs 0 0 (Qi below args s B A (fun _ : Unit => wX3 k ad χ) (bpost fun b _ => post b) 0 0) (F0 m 88 ls [.int (bi v88s1), .int v41l9]) := by
            intro v9l2 v9l4 r18 v41l1 v41l3 v41l6 v41l7 v41l8 v41l9 v41l10 v41l11 r64 v88s1 H locs ls hd hl hw
            rw [wpL_addresses_J88] at hw
            refine lv_iadd hx hb dL_addresses_88 ?_
            refine lv_istore (lv' := [(9, .int (v41l9 + (bi v88s1))), (0, .ref (ad 9 0)), (1, .int v41l1), (2, .int v9l2), (3, .int v41l3), (4, .int v9l4), (5, .int r18), (6, .int v41l6), (7, .int v41l7), (8, .int (v41l8 + r64)), (10, .int v41l10), (11, .int v41l11), (12, .int ((16 * v9l4) + v41l11))]) hx hb dL_addresses_89 hl (by decide) rfl (fun ls hl => ?_)
            refine lv_iload hx hb dL_addresses_91 (lv_at hl 10 rfl) ?_
            refine lv_aload_n hx hb dL_addresses_93 rfl (lv_at hl 1 rfl) ?_
            refine lv_iload hx hb dL_addresses_94 (lv_at hl 12 rfl) ?_
            refine lv_iconst (v := 1) hx hb dL_addresses_96 (by decide) ?_
            refine v_i C hd hl M_X3_sector gL_addresses_X3_sector (c_X3_sector l B k ad χ ((16 * v9l4) + v41l11) 1 _ hw) ⟨rfl, rfl⟩ ⟨Nat.le_of_ble_eq_true rfl, Nat.le_of_ble_eq_true rfl⟩ (pm_all _) (fun _ => wX3 k ad χ) (fun _ => (pm_all _).symm) 0 3 rfl rfl rfl rfl rfl (Nat.le_of_ble_eq_true rfl) dL_addresses_97 ⟨Nat.le_of_ble_eq_true rfl, Nat.le_of_ble_eq_true rfl⟩ (fun r97 _ H locs hw hd => ?_)
            refine lv_iconst (v := 2) hx hb dL_addresses_100 (by decide) ?_
            refine lv_icmp_ne (tgt := 108) hx hb dL_addresses_101 (by decide) (fun c139 => ?_) (fun c139 => ?_)
            · replace hw := hw.2 c139
              refine lv_iconst (v := 0) hx hb dL_addresses_108 (by decide) ?_
              exact J109 v9l2 v9l4 r18 v41l1 v41l3 v41l6 v41l7 v41l8 v41l9 v41l10 v41l11 r64 v88s1 false _ _ _ hd (lv_sub hl [1, 2, 3, 4, 5, 6, 7, 8, 9, 0, 11, 12] rfl) hw
            · replace hw := hw.1 c139
              refine lv_iconst (v := 1) hx hb dL_addresses_104 (by decide) ?_
              refine lv_goto (tgt := 109) hx hb dL_addresses_105 (by decide) ?_
              exact J109 v9l2 v9l4 r18 v41l1 v41l3 v41l6 v41l7 v41l8 v41l9 v41l10 v41l11 r64 v88s1 true _ _ _ hd (lv_sub hl [1, 2, 3, 4, 5, 6, 7, 8, 9, 0, 11, 12] rfl) hw
          refine lv_iload hx hb dL_addresses_41 (lv_at hl 11 rfl) ?_
          refine lv_bipush (v := 16) hx hb dL_addresses_43 (by decide) ?_
          refine lv_icmp_ge (tgt := 343) hx hb dL_addresses_45 (by decide) (fun c140 => ?_) (fun c140 => ?_)
          · replace hw := hw.1 c140
            refine lv_iload_n hx hb dL_addresses_343 rfl (lv_at hl 2 rfl) ?_
            refine lv_iload hx hb dL_addresses_344 (lv_at hl 6 rfl) ?_
            refine lv_iadd hx hb dL_addresses_346 ?_
            refine lv_istore_n (lv' := [(2, .int (v9l2 + v41l6)), (0, .ref (ad 9 0)), (1, .int v41l1), (3, .int v41l3), (4, .int v9l4), (5, .int r18), (6, .int v41l6), (7, .int v41l7), (8, .int v41l8), (9, .int v41l9), (10, .int v41l10), (11, .int v41l11)]) hx hb dL_addresses_347 rfl hl (by decide) rfl (fun ls hl => ?_)
            refine lv_aload_n hx hb dL_addresses_348 rfl (lv_at hl 1 rfl) ?_
            refine lv_iload hx hb dL_addresses_349 (lv_at hl 4 rfl) ?_
            refine lv_bipush (v := 6) hx hb dL_addresses_351 (by decide) ?_
            refine v_i C hd hl M_X3_head gL_addresses_X3_head (c_X3_head l B k ad χ v9l4 6 _ hw) ⟨rfl, rfl⟩ ⟨Nat.le_of_ble_eq_true rfl, Nat.le_of_ble_eq_true rfl⟩ (pm_all _) (fun _ => wX3 k ad χ) (fun _ => (pm_all _).symm) 0 3 rfl rfl rfl rfl rfl (Nat.le_of_ble_eq_true rfl) dL_addresses_353 ⟨Nat.le_of_ble_eq_true rfl, Nat.le_of_ble_eq_true rfl⟩ (fun r353 _ H locs hw hd => ?_)
            refine lv_iload hx hb dL_addresses_356 (lv_at hl 6 rfl) ?_
            refine lv_icmp_ne (tgt := 412) hx hb dL_addresses_358 (by decide) (fun c141 => ?_) (fun c141 => ?_)
            · replace hw := hw.2 c141
              refine lv_iconst (v := 0) hx hb dL_addresses_412 (by decide) ?_
              exact r_z false C hd dL_addresses_413 () rfl hw
            · replace hw := hw.1 c141
              refine lv_aload_n hx hb dL_addresses_361 rfl (lv_at hl 1 rfl) ?_
              refine lv_iload hx hb dL_addresses_362 (lv_at hl 4 rfl) ?_
              refine lv_iconst (v := 5) hx hb dL_addresses_364 (by decide) ?_
              refine v_i C hd hl M_X3_head gL_addresses_X3_head (c_X3_head l B k ad χ v9l4 5 _ hw) ⟨rfl, rfl⟩ ⟨Nat.le_of_ble_eq_true rfl, Nat.le_of_ble_eq_true rfl⟩ (pm_all _) (fun _ => wX3 k ad χ) (fun _ => (pm_all _).symm) 0 3 rfl rfl rfl rfl rfl (Nat.le_of_ble_eq_true rfl) dL_addresses_365 ⟨Nat.le_of_ble_eq_true rfl, Nat.le_of_ble_eq_true rfl⟩ (fun r365 _ H locs hw hd => ?_)
              refine lv_iload hx hb dL_addresses_368 (lv_at hl 7 rfl) ?_
              refine lv_icmp_ne (tgt := 412) hx hb dL_addresses_370 (by decide) (fun c142 => ?_) (fun c142 => ?_)
              · replace hw := hw.2 c142
                refine lv_iconst (v := 0) hx hb dL_addresses_412 (by decide) ?_
                exact r_z false C hd dL_addresses_413 () rfl hw
              · replace hw := hw.1 c142
                refine lv_aload_n hx hb dL_addresses_373 rfl (lv_at hl 1 rfl) ?_
                refine lv_iload hx hb dL_addresses_374 (lv_at hl 4 rfl) ?_
                refine lv_bipush (v := 7) hx hb dL_addresses_376 (by decide) ?_
                refine v_i C hd hl M_X3_head gL_addresses_X3_head (c_X3_head l B k ad χ v9l4 7 _ hw) ⟨rfl, rfl⟩ ⟨Nat.le_of_ble_eq_true rfl, Nat.le_of_ble_eq_true rfl⟩ (pm_all _) (fun _ => wX3 k ad χ) (fun _ => (pm_all _).symm) 0 3 rfl rfl rfl rfl rfl (Nat.le_of_ble_eq_true rfl) dL_addresses_378 ⟨Nat.le_of_ble_eq_true rfl, Nat.le_of_ble_eq_true rfl⟩ (fun r378 _ H locs hw hd => ?_)
                refine lv_iload hx hb dL_addresses_381 (lv_at hl 8 rfl) ?_
                refine lv_icmp_ne (tgt := 412) hx hb dL_addresses_383 (by decide) (fun c143 => ?_) (fun c143 => ?_)
                · replace hw := hw.2 c143
                  refine lv_iconst (v := 0) hx hb dL_addresses_412 (by decide) ?_
                  exact r_z false C hd dL_addresses_413 () rfl hw
                · replace hw := hw.1 c143
                  refine lv_aload_n hx hb dL_addresses_386 rfl (lv_at hl 1 rfl) ?_
                  refine lv_iload hx hb dL_addresses_387 (lv_at hl 4 rfl) ?_
                  refine lv_bipush (v := 8) hx hb dL_addresses_389 (by decide) ?_
                  refine v_i C hd hl M_X3_head gL_addresses_X3_head (c_X3_head l B k ad χ v9l4 8 _ hw) ⟨rfl, rfl⟩ ⟨Nat.le_of_ble_eq_true rfl, Nat.le_of_ble_eq_true rfl⟩ (pm_all _) (fun _ => wX3 k ad χ) (fun _ => (pm_all _).symm) 0 3 rfl rfl rfl rfl rfl (Nat.le_of_ble_eq_true rfl) dL_addresses_391 ⟨Nat.le_of_ble_eq_true rfl, Nat.le_of_ble_eq_true rfl⟩ (fun r391 _ H locs hw hd => ?_)
                  refine lv_iload hx hb dL_addresses_394 (lv_at hl 9 rfl) ?_
                  refine lv_icmp_ne (tgt := 412) hx hb dL_addresses_396 (by decide) (fun c144 => ?_) (fun c144 => ?_)
                  · replace hw := hw.2 c144
                    refine lv_iconst (v := 0) hx hb dL_addresses_412 (by decide) ?_
                    exact r_z false C hd dL_addresses_413 () rfl hw
                  · replace hw := hw.1 c144
                    refine lv_aload_n hx hb dL_addresses_399 rfl (lv_at hl 1 rfl) ?_
                    refine lv_iload hx hb dL_addresses_400 (lv_at hl 4 rfl) ?_
                    refine lv_bipush (v := 9) hx hb dL_addresses_402 (by decide) ?_
                    refine v_i C hd hl M_X3_head gL_addresses_X3_head (c_X3_head l B k ad χ v9l4 9 _ hw) ⟨rfl, rfl⟩ ⟨Nat.le_of_ble_eq_true rfl, Nat.le_of_ble_eq_true rfl⟩ (pm_all _) (fun _ => wX3 k ad χ) (fun _ => (pm_all _).symm) 0 3 rfl rfl rfl rfl rfl (Nat.le_of_ble_eq_true rfl) dL_addresses_404 ⟨Nat.le_of_ble_eq_true rfl, Nat.le_of_ble_eq_true rfl⟩ (fun r404 _ H locs hw hd => ?_)
                    refine lv_iload hx hb dL_addresses_407 (lv_at hl 10 rfl) ?_
                    refine lv_icmp_eq (tgt := 414) hx hb dL_addresses_409 (by decide) (fun c145 => ?_) (fun c145 => ?_)
                    · replace hw := hw.1 c145
                      refine lv_iinc (v := v9l4 + 1) (lv' := [(4, .int (v9l4 + 1)), (2, .int (v9l2 + v41l6)), (0, .ref (ad 9 0)), (1, .int v41l1), (3, .int v41l3), (5, .int r18), (6, .int v41l6), (7, .int v41l7), (8, .int v41l8), (9, .int v41l9), (10, .int v41l10), (11, .int v41l11)]) hx hb dL_addresses_414 hl (k := 4) rfl rfl (by decide) rfl (fun ls hl => ?_)
                      refine lv_goto (tgt := 9) hx hb dL_addresses_417 (by decide) ?_
                      exact ih9 v41l1 (v9l2 + v41l6) v41l3 (v9l4 + 1) _ _ _ hd (lv_sub hl [2, 3, 1, 4, 0] rfl) hw
                    · replace hw := hw.2 c145
                      refine lv_iconst (v := 0) hx hb dL_addresses_412 (by decide) ?_
                      exact r_z false C hd dL_addresses_413 () rfl hw
          · replace hw := hw.2 c140
            refine lv_bipush (v := 16) hx hb dL_addresses_48 (by decide) ?_
            refine lv_iload hx hb dL_addresses_50 (lv_at hl 4 rfl) ?_
            refine lv_imul hx hb dL_addresses_52 ?_
            refine lv_iload hx hb dL_addresses_53 (lv_at hl 11 rfl) ?_
            refine lv_iadd hx hb dL_addresses_55 ?_
            refine lv_istore (lv' := [(12, .int ((16 * v9l4) + v41l11)), (0, .ref (ad 9 0)), (1, .int v41l1), (2, .int v9l2), (3, .int v41l3), (4, .int v9l4), (5, .int r18), (6, .int v41l6), (7, .int v41l7), (8, .int v41l8), (9, .int v41l9), (10, .int v41l10), (11, .int v41l11)]) hx hb dL_addresses_56 hl (by decide) rfl (fun ls hl => ?_)
            refine lv_iload hx hb dL_addresses_58 (lv_at hl 9 rfl) ?_
            refine lv_aload_n hx hb dL_addresses_60 rfl (lv_at hl 1 rfl) ?_
            refine lv_iload hx hb dL_addresses_61 (lv_at hl 0 rfl) ?_
            refine lv_iconst (v := 0) hx hb dL_addresses_63 (by decide) ?_
            refine v_i C hd hl M_X3_sector gL_addresses_X3_sector (c_X3_sector l B k ad χ ((16 * v9l4) + v41l11) 0 _ hw) ⟨rfl, rfl⟩ ⟨Nat.le_of_ble_eq_true rfl, Nat.le_of_ble_eq_true rfl⟩ (pm_all _) (fun _ => wX3 k ad χ) (fun _ => (pm_all _).symm) 0 3 rfl rfl rfl rfl rfl (Nat.le_of_ble_eq_true rfl) dL_addresses_64 ⟨Nat.le_of_ble_eq_true rfl, Nat.le_of_ble_eq_true rfl⟩ (fun r64 _ H locs hw hd => ?_)
            refine lv_iadd hx hb dL_addresses_67 ?_
            refine lv_istore (lv' := [(8, .int (v41l8 + r64)), (12, .int ((16 * v9l4) + v41l11)), (0, .ref (ad 9 0)), (1, .int v41l1), (2, .int v9l2), (3, .int v41l3), (4, .int v9l4), (5, .int r18), (6, .int v41l6), (7, .int v41l7), (9, .int v41l9), (10, .int v41l10), (11, .int v41l11)]) hx hb dL_addresses_68 hl (by decide) rfl (fun ls hl => ?_)
            refine lv_iload hx hb dL_addresses_70 (lv_at hl 10 rfl) ?_
            refine lv_aload_n hx hb dL_addresses_72 rfl (lv_at hl 2 rfl) ?_
            refine lv_iload hx hb dL_addresses_73 (lv_at hl 1 rfl) ?_
            refine lv_iconst (v := 1) hx hb dL_addresses_75 (by decide) ?_
            refine v_i C hd hl M_X3_sector gL_addresses_X3_sector (c_X3_sector l B k ad χ ((16 * v9l4) + v41l11) 1 _ hw) ⟨rfl, rfl⟩ ⟨Nat.le_of_ble_eq_true rfl, Nat.le_of_ble_eq_true rfl⟩ (pm_all _) (fun _ => wX3 k ad χ) (fun _ => (pm_all _).symm) 0 3 rfl rfl rfl rfl rfl (Nat.le_of_ble_eq_true rfl) dL_addresses_76 ⟨Nat.le_of_ble_eq_true rfl, Nat.le_of_ble_eq_true rfl⟩ (fun r76 _ H locs hw hd => ?_)
            refine lv_iconst (v := 1) hx hb dL_addresses_79 (by decide) ?_
            refine lv_icmp_ne (tgt := 87) hx hb dL_addresses_80 (by decide) (fun c146 => ?_) (fun c146 => ?_)
            · replace hw := hw.2 c146
              refine lv_iconst (v := 0) hx hb dL_addresses_87 (by decide) ?_
              exact J88 v9l2 v9l4 r18 v41l1 v41l3 v41l6 v41l7 v41l8 v41l9 v41l10 v41l11 r64 false _ _ _ hd (lv_sub hl [2, 3, 4, 5, 6, 7, 8, 9, 0, 11, 12, 1] rfl) hw
            · replace hw := hw.1 c146
              refine lv_iconst (v := 1) hx hb dL_addresses_83 (by decide) ?_
              refine lv_goto (tgt := 88) hx hb dL_addresses_84 (by decide) ?_
              exact J88 v9l2 v9l4 r18 v41l1 v41l3 v41l6 v41l7 v41l8 v41l9 v41l10 v41l11 r64 true _ _ _ hd (lv_sub hl [2, 3, 4, 5, 6, 7, 8, 9, 0, 11, 12, 1] rfl) hw
      refine lv_iload hx hb dL_addresses_9 (lv_at hl 4 rfl) ?_
      refine lv_iconst (v := 4) hx hb dL_addresses_11 (by decide) ?_
      refine lv_icmp_ge (tgt := 420) hx hb dL_addresses_12 (by decide) (fun c147 => ?_) (fun c147 => ?_)
      · replace hw := hw.1 c147
        refine lv_aload_n hx hb dL_addresses_420 rfl (lv_at hl 0 rfl) ?_
        refine lv_iconst (v := 1) hx hb dL_addresses_421 (by decide) ?_
        refine v_i C hd hl M_X3_count gL_addresses_X3_count (c_X3_count l B k ad χ 1 _ hw) ⟨rfl, rfl⟩ ⟨Nat.le_of_ble_eq_true rfl, Nat.le_of_ble_eq_true rfl⟩ (pm_all _) (fun _ => wX3 k ad χ) (fun _ => (pm_all _).symm) 0 3 rfl rfl rfl rfl rfl (Nat.le_of_ble_eq_true rfl) dL_addresses_422 ⟨Nat.le_of_ble_eq_true rfl, Nat.le_of_ble_eq_true rfl⟩ (fun r422 _ H locs hw hd => ?_)
        refine lv_iload_n hx hb dL_addresses_425 rfl (lv_at hl 1 rfl) ?_
        refine lv_icmp_ne (tgt := 451) hx hb dL_addresses_426 (by decide) (fun c148 => ?_) (fun c148 => ?_)
        · replace hw := hw.2 c148
          refine lv_iconst (v := 0) hx hb dL_addresses_451 (by decide) ?_
          exact r_z false C hd dL_addresses_452 () rfl hw
        · replace hw := hw.1 c148
          refine lv_aload_n hx hb dL_addresses_429 rfl (lv_at hl 0 rfl) ?_
          refine lv_iconst (v := 2) hx hb dL_addresses_430 (by decide) ?_
          refine v_i C hd hl M_X3_count gL_addresses_X3_count (c_X3_count l B k ad χ 2 _ hw) ⟨rfl, rfl⟩ ⟨Nat.le_of_ble_eq_true rfl, Nat.le_of_ble_eq_true rfl⟩ (pm_all _) (fun _ => wX3 k ad χ) (fun _ => (pm_all _).symm) 0 3 rfl rfl rfl rfl rfl (Nat.le_of_ble_eq_true rfl) dL_addresses_431 ⟨Nat.le_of_ble_eq_true rfl, Nat.le_of_ble_eq_true rfl⟩ (fun r431 _ H locs hw hd => ?_)
          refine lv_iload_n hx hb dL_addresses_434 rfl (lv_at hl 2 rfl) ?_
          refine lv_icmp_ne (tgt := 451) hx hb dL_addresses_435 (by decide) (fun c149 => ?_) (fun c149 => ?_)
          · replace hw := hw.2 c149
            refine lv_iconst (v := 0) hx hb dL_addresses_451 (by decide) ?_
            exact r_z false C hd dL_addresses_452 () rfl hw
          · replace hw := hw.1 c149
            refine lv_aload_n hx hb dL_addresses_438 rfl (lv_at hl 0 rfl) ?_
            refine lv_iconst (v := 3) hx hb dL_addresses_439 (by decide) ?_
            refine v_i C hd hl M_X3_count gL_addresses_X3_count (c_X3_count l B k ad χ 3 _ hw) ⟨rfl, rfl⟩ ⟨Nat.le_of_ble_eq_true rfl, Nat.le_of_ble_eq_true rfl⟩ (pm_all _) (fun _ => wX3 k ad χ) (fun _ => (pm_all _).symm) 0 3 rfl rfl rfl rfl rfl (Nat.le_of_ble_eq_true rfl) dL_addresses_440 ⟨Nat.le_of_ble_eq_true rfl, Nat.le_of_ble_eq_true rfl⟩ (fun r440 _ H locs hw hd => ?_)
            refine lv_iload_n hx hb dL_addresses_443 rfl (lv_at hl 3 rfl) ?_
            refine lv_icmp_ne (tgt := 451) hx hb dL_addresses_444 (by decide) (fun c150 => ?_) (fun c150 => ?_)
            · replace hw := hw.2 c150
              refine lv_iconst (v := 0) hx hb dL_addresses_451 (by decide) ?_
              exact r_z false C hd dL_addresses_452 () rfl hw
            · replace hw := hw.1 c150
              refine lv_iconst (v := 1) hx hb dL_addresses_447 (by decide) ?_
              refine lv_goto (tgt := 452) hx hb dL_addresses_448 (by decide) ?_
              exact r_z true C hd dL_addresses_452 () rfl hw
      · replace hw := hw.2 c147
        refine lv_aload_n hx hb dL_addresses_15 rfl (lv_at hl 0 rfl) ?_
        refine lv_iload hx hb dL_addresses_16 (lv_at hl 4 rfl) ?_
        refine s_i C hd hl M_L_lends gL_addresses_L_lends rfl (c_L_lends l B k ad χ v9l4 _ hw) ⟨rfl, rfl⟩ ⟨Nat.le_of_ble_eq_true rfl, Nat.le_of_ble_eq_true rfl⟩ (pm_all _) (fun _ => wX3 k ad χ) (fun _ => (pm_all _).symm) rfl rfl (Nat.le_of_ble_eq_true rfl) dL_addresses_18 ⟨Nat.le_of_ble_eq_true rfl, Nat.le_of_ble_eq_true rfl⟩ (fun r18 _ H locs hw hd => ?_)
        refine lv_istore (lv' := [(5, .int r18), (0, .ref (ad 9 0)), (1, .int v9l1), (2, .int v9l2), (3, .int v9l3), (4, .int v9l4)]) hx hb dL_addresses_21 hl (by decide) rfl (fun ls hl => ?_)
        refine lv_iconst (v := 0) hx hb dL_addresses_23 (by decide) ?_
        refine lv_istore (lv' := [(6, .int 0), (5, .int r18), (0, .ref (ad 9 0)), (1, .int v9l1), (2, .int v9l2), (3, .int v9l3), (4, .int v9l4)]) hx hb dL_addresses_24 hl (by decide) rfl (fun ls hl => ?_)
        refine lv_iconst (v := 0) hx hb dL_addresses_26 (by decide) ?_
        refine lv_istore (lv' := [(7, .int 0), (6, .int 0), (5, .int r18), (0, .ref (ad 9 0)), (1, .int v9l1), (2, .int v9l2), (3, .int v9l3), (4, .int v9l4)]) hx hb dL_addresses_27 hl (by decide) rfl (fun ls hl => ?_)
        refine lv_iconst (v := 0) hx hb dL_addresses_29 (by decide) ?_
        refine lv_istore (lv' := [(8, .int 0), (7, .int 0), (6, .int 0), (5, .int r18), (0, .ref (ad 9 0)), (1, .int v9l1), (2, .int v9l2), (3, .int v9l3), (4, .int v9l4)]) hx hb dL_addresses_30 hl (by decide) rfl (fun ls hl => ?_)
        refine lv_iconst (v := 0) hx hb dL_addresses_32 (by decide) ?_
        refine lv_istore (lv' := [(9, .int 0), (8, .int 0), (7, .int 0), (6, .int 0), (5, .int r18), (0, .ref (ad 9 0)), (1, .int v9l1), (2, .int v9l2), (3, .int v9l3), (4, .int v9l4)]) hx hb dL_addresses_33 hl (by decide) rfl (fun ls hl => ?_)
        refine lv_iconst (v := 0) hx hb dL_addresses_35 (by decide) ?_
        refine lv_istore (lv' := [(10, .int 0), (9, .int 0), (8, .int 0), (7, .int 0), (6, .int 0), (5, .int r18), (0, .ref (ad 9 0)), (1, .int v9l1), (2, .int v9l2), (3, .int v9l3), (4, .int v9l4)]) hx hb dL_addresses_36 hl (by decide) rfl (fun ls hl => ?_)
        refine lv_iconst (v := 0) hx hb dL_addresses_38 (by decide) ?_
        refine lv_istore (lv' := [(11, .int 0), (10, .int 0), (9, .int 0), (8, .int 0), (7, .int 0), (6, .int 0), (5, .int r18), (0, .ref (ad 9 0)), (1, .int v9l1), (2, .int v9l2), (3, .int v9l3), (4, .int v9l4)]) hx hb dL_addresses_39 hl (by decide) rfl (fun ls hl => ?_)
        obtain ⟨n, hw⟩ := hw
        exact L41 n v9l2 v9l4 r18 v9l1 v9l3 0 0 0 0 0 0 _ _ _ hd (lv_sub hl [7, 8, 9, 10, 11, 6, 5, 4, 3, 2, 1, 0] rfl) hw
  rw [wpL_addresses] at hw
  refine lv_iconst (v := 0) hx hb dL_addresses_0 (by decide) ?_
  refine lv_istore_n (lv' := [(1, .int 0), (0, .ref (ad 9 0))]) hx hb dL_addresses_1 rfl hl (by decide) rfl (fun ls hl => ?_)
  refine lv_iconst (v := 0) hx hb dL_addresses_2 (by decide) ?_
  refine lv_istore_n (lv' := [(2, .int 0), (1, .int 0), (0, .ref (ad 9 0))]) hx hb dL_addresses_3 rfl hl (by decide) rfl (fun ls hl => ?_)
  refine lv_iconst (v := 0) hx hb dL_addresses_4 (by decide) ?_
  refine lv_istore_n (lv' := [(3, .int 0), (2, .int 0), (1, .int 0), (0, .ref (ad 9 0))]) hx hb dL_addresses_5 rfl hl (by decide) rfl (fun ls hl => ?_)
  refine lv_iconst (v := 0) hx hb dL_addresses_6 (by decide) ?_
  refine lv_istore (lv' := [(4, .int 0), (3, .int 0), (2, .int 0), (1, .int 0), (0, .ref (ad 9 0))]) hx hb dL_addresses_7 hl (by decide) rfl (fun ls hl => ?_)
  obtain ⟨n, hw⟩ := hw
  exact L9 n 0 0 0 0 _ _ _ hd (lv_sub hl [4, 3, 2, 1, 0] rfl) hw
abbrev rm_L_worst : Room := { frames := 7, cells := 0, slots := 0, locals := 154 }
theorem M_L_worst : MI yL_worst wsL_worst cL_worst 7 (some .boolean) 2 := ⟨⟨_, rfl⟩, by decide +kernel, by decide +kernel, by decide +kernel, by decide +kernel⟩
theorem iL_worst_X3 : ∀ w ∈ wsX30, w ∈ wsL_worst := fun _ h => List.mem_cons_of_mem _ (List.mem_append_left _ (List.mem_append_left _ (List.mem_append_left _ (List.mem_append_right _ h))))
theorem iL_worst_X1 : ∀ w ∈ wsX10, w ∈ wsL_worst := fun _ h => List.mem_cons_of_mem _ (List.mem_append_left _ (List.mem_append_left _ (List.mem_append_right _ h)))
theorem iL_worst_X2 : ∀ w ∈ wsX20, w ∈ wsL_worst := fun _ h => List.mem_cons_of_mem _ (List.mem_append_left _ (List.mem_append_right _ h))
theorem iL_worst_X0 : ∀ w ∈ wsX00, w ∈ wsL_worst := fun _ h => List.mem_cons_of_mem _ (List.mem_append_right _ h)
def wpL_worst_J83 (v8l4 : Int32) (r17 : Int32) (r58 : Int32) (post : Bool → Prop) (κ8 : Int32 → Int32 → Int32 → Prop)  : Prop := κ8 r58 r17 (v8l4 + 1)
def wpL_worst_L8 (χ : XS) (p1 : Int32) (post : Bool → Prop) : Nat → Int32 → Int32 → Int32 → Prop
  | 0, _, _, _ => False
  | n8 + 1, v8l2, v8l3, v8l4 => ((p1 ≤ v8l4 → post true) ∧ (¬ p1 ≤ v8l4 → wpX3_worst χ v8l4 (fun r17 => ((0 ≤ r17 → wpX3_address χ r17 1 (fun r54 => wpX3_sector χ r54 0 (fun r58 => ((v8l2 < r58 → post false) ∧ (¬ v8l2 < r58 → ((r58 = v8l2 → ((v8l3 < r17 → wpL_worst_J83 v8l4 r17 r58 post (wpL_worst_L8 χ p1 post n8) ) ∧ (¬ v8l3 < r17 → post false))) ∧ (¬ r58 = v8l2 → wpL_worst_J83 v8l4 r17 r58 post (wpL_worst_L8 χ p1 post n8) ))))))) ∧ (¬ 0 ≤ r17 → wpX3_count χ 1 (fun r29 => wpX3_count χ 2 (fun r34 => ((v8l4 < (r29 - r34) → post false) ∧ (¬ v8l4 < (r29 - r34) → post true)))))))))
def wpL_worst (χ : XS) (p1 : Int32) (post : Bool → Prop) : Prop := ∃ n8 : Nat, wpL_worst_L8 χ p1 post n8 1000000 (-1) 0
set_option maxHeartbeats 4000000 in
set_option maxRecDepth 100000 in
theorem c_L_worst (l : Launch) (B : va_G) (k : KT) (ad : Nat → Nat → Nat) (χ : XS) (p1 : Int32) (post : Bool → Prop) (hw : wpL_worst χ p1 post) : Cti l yL_worst wsL_worst rm_L_worst 0 0 B k [.ref (ad 9 0), .int p1] (wX3 k ad χ) (fun _ : Unit => wX3 k ad χ) (bpost fun b _ => post b) := by
  refine Cti.of M_L_worst (Nat.le_of_ble_eq_true rfl) ?_
  intro p e s m args below meth c A C hd ls hl
  have hx := C.1; have hb := C.2.1; have hml := C.2.2.1; have hts := C.2.2.2.2.1
  have hl : lv_has ls 7 [(0, .ref (ad 9 0)), (1, .int p1)] := hl
  have L8 : ∀ (n8 : Nat), ∀ (v8l2 : Int32) (v8l3 : Int32) (v8l4 : Int32) (H : Heap) (locs : List Loc) (ls : Array Slot), Wd B A s.heap (wX3 k ad χ) H locs → lv_has ls 7 [(0, .ref (ad 9 0)), (1, .int p1), (2, .int v8l2), (3, .int v8l3), (4, .int v8l4)] → wpL_worst_L8 χ p1 post n8 v8l2 v8l3 v8l4 → W p l e rm_L_worst s m args below meth c H locs 0 0 (Qi below args s B A (fun _ : Unit => wX3 k ad χ) (bpost fun b _ => post b) 0 0) (F0 m 8 ls []) := by
    intro n8
    induction n8 with
    | zero => intro v8l2 v8l3 v8l4 H locs ls hd hl hw; exact absurd hw (by simp [wpL_worst_L8])
    | succ n8 ih8 =>
      intro v8l2 v8l3 v8l4 H locs ls hd hl hw
      rw [wpL_worst_L8] at hw
      have J83 : ∀ (v8l4 : Int32) (r17 : Int32) (r58 : Int32) (H : Heap) (locs : List Loc) (ls : Array Slot), Wd B A s.heap (wX3 k ad χ) H locs → lv_has ls 7 [(0, .ref (ad 9 0)), (1, .int p1), (4, .int v8l4), (5, .int r17), (6, .int r58)] → wpL_worst_J83 v8l4 r17 r58 post (wpL_worst_L8 χ p1 post n8)  → W p l e rm_L_worst s m args below meth c H locs 0 0 (Qi below args s B A (fun _ : Unit => wX3 k ad χ) (bpost fun b _ => post b) 0 0) (F0 m 83 ls []) := by
        intro v8l4 r17 r58 H locs ls hd hl hw
        rw [wpL_worst_J83] at hw
        refine lv_iload hx hb dL_worst_83 (lv_at hl 4 rfl) ?_
        refine lv_istore_n (lv' := [(2, .int r58), (0, .ref (ad 9 0)), (1, .int p1), (4, .int v8l4), (5, .int r17), (6, .int r58)]) hx hb dL_worst_85 rfl hl (by decide) rfl (fun ls hl => ?_)
        refine lv_iload hx hb dL_worst_86 (lv_at hl 4 rfl) ?_
        refine lv_istore_n (lv' := [(3, .int r17), (2, .int r58), (0, .ref (ad 9 0)), (1, .int p1), (4, .int v8l4), (5, .int r17), (6, .int r58)]) hx hb dL_worst_88 rfl hl (by decide) rfl (fun ls hl => ?_)
        refine lv_iinc (v := v8l4 + 1) (lv' := [(4, .int (v8l4 + 1)), (3, .int r17), (2, .int r58), (0, .ref (ad 9 0)), (1, .int p1), (5, .int r17), (6, .int r58)]) hx hb dL_worst_89 hl (k := 4) rfl rfl (by decide) rfl (fun ls hl => ?_)
        refine lv_goto (tgt := 8) hx hb dL_worst_92 (by decide) ?_
        exact ih8 r58 r17 (v8l4 + 1) _ _ _ hd (lv_sub hl [3, 4, 2, 1, 0] rfl) hw
      refine lv_iload hx hb dL_worst_8 (lv_at hl 4 rfl) ?_
      refine lv_iload_n hx hb dL_worst_10 rfl (lv_at hl 1 rfl) ?_
      refine lv_icmp_ge (tgt := 95) hx hb dL_worst_11 (by decide) (fun c25 => ?_) (fun c25 => ?_)
      · replace hw := hw.1 c25
        refine lv_iconst (v := 1) hx hb dL_worst_95 (by decide) ?_
        exact r_z true C hd dL_worst_96 () rfl hw
      · replace hw := hw.2 c25
        refine lv_aload_n hx hb dL_worst_14 rfl (lv_at hl 0 rfl) ?_
        refine lv_iload hx hb dL_worst_15 (lv_at hl 4 rfl) ?_
        refine v_i C hd hl M_X3_worst gL_worst_X3_worst (c_X3_worst l B k ad χ v8l4 _ hw) ⟨rfl, rfl⟩ ⟨Nat.le_of_ble_eq_true rfl, Nat.le_of_ble_eq_true rfl⟩ (pm_all _) (fun _ => wX3 k ad χ) (fun _ => (pm_all _).symm) 0 3 rfl rfl rfl rfl rfl (Nat.le_of_ble_eq_true rfl) dL_worst_17 ⟨Nat.le_of_ble_eq_true rfl, Nat.le_of_ble_eq_true rfl⟩ (fun r17 _ H locs hw hd => ?_)
        refine lv_istore (lv' := [(5, .int r17), (0, .ref (ad 9 0)), (1, .int p1), (2, .int v8l2), (3, .int v8l3), (4, .int v8l4)]) hx hb dL_worst_20 hl (by decide) rfl (fun ls hl => ?_)
        refine lv_iload hx hb dL_worst_22 (lv_at hl 0 rfl) ?_
        refine lv_if_ge (tgt := 49) hx hb dL_worst_24 (by decide) (fun c26 => ?_) (fun c26 => ?_)
        · replace hw := hw.1 c26
          refine lv_aload_n hx hb dL_worst_49 rfl (lv_at hl 1 rfl) ?_
          refine lv_aload_n hx hb dL_worst_50 rfl (lv_at hl 1 rfl) ?_
          refine lv_iload hx hb dL_worst_51 (lv_at hl 0 rfl) ?_
          refine lv_iconst (v := 1) hx hb dL_worst_53 (by decide) ?_
          refine v_i C hd hl M_X3_address gL_worst_X3_address (c_X3_address l B k ad χ r17 1 _ hw) ⟨rfl, rfl⟩ ⟨Nat.le_of_ble_eq_true rfl, Nat.le_of_ble_eq_true rfl⟩ (pm_all _) (fun _ => wX3 k ad χ) (fun _ => (pm_all _).symm) 0 3 rfl rfl rfl rfl rfl (Nat.le_of_ble_eq_true rfl) dL_worst_54 ⟨Nat.le_of_ble_eq_true rfl, Nat.le_of_ble_eq_true rfl⟩ (fun r54 _ H locs hw hd => ?_)
          refine lv_iconst (v := 0) hx hb dL_worst_57 (by decide) ?_
          refine v_i C hd hl M_X3_sector gL_worst_X3_sector (c_X3_sector l B k ad χ r54 0 _ hw) ⟨rfl, rfl⟩ ⟨Nat.le_of_ble_eq_true rfl, Nat.le_of_ble_eq_true rfl⟩ (pm_all _) (fun _ => wX3 k ad χ) (fun _ => (pm_all _).symm) 0 3 rfl rfl rfl rfl rfl (Nat.le_of_ble_eq_true rfl) dL_worst_58 ⟨Nat.le_of_ble_eq_true rfl, Nat.le_of_ble_eq_true rfl⟩ (fun r58 _ H locs hw hd => ?_)
          refine lv_istore (lv' := [(6, .int r58), (5, .int r17), (0, .ref (ad 9 0)), (1, .int p1), (2, .int v8l2), (3, .int v8l3), (4, .int v8l4)]) hx hb dL_worst_61 hl (by decide) rfl (fun ls hl => ?_)
          refine lv_iload hx hb dL_worst_63 (lv_at hl 0 rfl) ?_
          refine lv_iload_n hx hb dL_worst_65 rfl (lv_at hl 4 rfl) ?_
          refine lv_icmp_gt (tgt := 81) hx hb dL_worst_66 (by decide) (fun c27 => ?_) (fun c27 => ?_)
          · replace hw := hw.1 c27
            refine lv_iconst (v := 0) hx hb dL_worst_81 (by decide) ?_
            exact r_z false C hd dL_worst_82 () rfl hw
          · replace hw := hw.2 c27
            refine lv_iload hx hb dL_worst_69 (lv_at hl 0 rfl) ?_
            refine lv_iload_n hx hb dL_worst_71 rfl (lv_at hl 4 rfl) ?_
            refine lv_icmp_ne (tgt := 83) hx hb dL_worst_72 (by decide) (fun c28 => ?_) (fun c28 => ?_)
            · replace hw := hw.2 c28
              exact J83 v8l4 r17 r58 _ _ _ hd (lv_sub hl [2, 3, 6, 1, 0] rfl) hw
            · replace hw := hw.1 c28
              refine lv_iload hx hb dL_worst_75 (lv_at hl 1 rfl) ?_
              refine lv_iload_n hx hb dL_worst_77 rfl (lv_at hl 5 rfl) ?_
              refine lv_icmp_gt (tgt := 83) hx hb dL_worst_78 (by decide) (fun c29 => ?_) (fun c29 => ?_)
              · replace hw := hw.1 c29
                exact J83 v8l4 r17 r58 _ _ _ hd (lv_sub hl [2, 3, 6, 1, 0] rfl) hw
              · replace hw := hw.2 c29
                refine lv_iconst (v := 0) hx hb dL_worst_81 (by decide) ?_
                exact r_z false C hd dL_worst_82 () rfl hw
        · replace hw := hw.2 c26
          refine lv_aload_n hx hb dL_worst_27 rfl (lv_at hl 1 rfl) ?_
          refine lv_iconst (v := 1) hx hb dL_worst_28 (by decide) ?_
          refine v_i C hd hl M_X3_count gL_worst_X3_count (c_X3_count l B k ad χ 1 _ hw) ⟨rfl, rfl⟩ ⟨Nat.le_of_ble_eq_true rfl, Nat.le_of_ble_eq_true rfl⟩ (pm_all _) (fun _ => wX3 k ad χ) (fun _ => (pm_all _).symm) 0 3 rfl rfl rfl rfl rfl (Nat.le_of_ble_eq_true rfl) dL_worst_29 ⟨Nat.le_of_ble_eq_true rfl, Nat.le_of_ble_eq_true rfl⟩ (fun r29 _ H locs hw hd => ?_)
          refine lv_aload_n hx hb dL_worst_32 rfl (lv_at hl 1 rfl) ?_
          refine lv_iconst (v := 2) hx hb dL_worst_33 (by decide) ?_
          refine v_i C hd hl M_X3_count gL_worst_X3_count (c_X3_count l B k ad χ 2 _ hw) ⟨rfl, rfl⟩ ⟨Nat.le_of_ble_eq_true rfl, Nat.le_of_ble_eq_true rfl⟩ (pm_all _) (fun _ => wX3 k ad χ) (fun _ => (pm_all _).symm) 0 3 rfl rfl rfl rfl rfl (Nat.le_of_ble_eq_true rfl) dL_worst_34 ⟨Nat.le_of_ble_eq_true rfl, Nat.le_of_ble_eq_true rfl⟩ (fun r34 _ H locs hw hd => ?_)
          refine lv_isub hx hb dL_worst_37 ?_
          refine lv_iload hx hb dL_worst_38 (lv_at hl 5 rfl) ?_
          refine lv_icmp_gt (tgt := 47) hx hb dL_worst_40 (by decide) (fun c30 => ?_) (fun c30 => ?_)
          · replace hw := hw.1 c30
            refine lv_iconst (v := 0) hx hb dL_worst_47 (by decide) ?_
            exact r_z false C hd dL_worst_48 () rfl hw
          · replace hw := hw.2 c30
            refine lv_iconst (v := 1) hx hb dL_worst_43 (by decide) ?_
            refine lv_goto (tgt := 48) hx hb dL_worst_44 (by decide) ?_
            exact r_z true C hd dL_worst_48 () rfl hw
  rw [wpL_worst] at hw
  refine lv_ldc (v := 1000000) hx hb C.2.2.2.1 (hts (.constant RL 47 (1000000)) (List.mem_of_getElem? (i := 1) rfl)) dL_worst_0 ?_
  refine lv_istore_n (lv' := [(2, .int 1000000), (0, .ref (ad 9 0)), (1, .int p1)]) hx hb dL_worst_2 rfl hl (by decide) rfl (fun ls hl => ?_)
  refine lv_iconst (v := (-1)) hx hb dL_worst_3 (by decide) ?_
  refine lv_istore_n (lv' := [(3, .int (-1)), (2, .int 1000000), (0, .ref (ad 9 0)), (1, .int p1)]) hx hb dL_worst_4 rfl hl (by decide) rfl (fun ls hl => ?_)
  refine lv_iconst (v := 0) hx hb dL_worst_5 (by decide) ?_
  refine lv_istore (lv' := [(4, .int 0), (3, .int (-1)), (2, .int 1000000), (0, .ref (ad 9 0)), (1, .int p1)]) hx hb dL_worst_6 hl (by decide) rfl (fun ls hl => ?_)
  obtain ⟨n, hw⟩ := hw
  exact L8 n 1000000 (-1) 0 _ _ _ hd (lv_sub hl [3, 4, 2, 1, 0] rfl) hw
