abbrev RK : Type := (Nat → Int32) × Int32
def rk_history (η : RK) : Nat → Int32 := η.1
def rk_kept (η : RK) : Int32 := η.2
def rk_setHistory (η : RK) (v : Nat → Int32) : RK := (v, η.2)
def rk_setKept (η : RK) (v : Int32) : RK := (η.1, v)
def wRK (k : KT) (a : Nat → Nat) (μ : MO) (x : Nat) (f : Nat → Int32) (η : RK) : va_W := [(a 0, .inr (4, fsX4 a (mo_setKept μ (rk_kept η)))), (a 5, .inl (k.1, 1104, .inl (rk_history η))), (x, .inl (k.1, 276, .inl f))]
theorem wRK_putKept (k : KT) (a : Nat → Nat) (μ : MO) (x : Nat) (f : Nat → Int32) (η : RK) (v : Int32) : (wRK k a μ x f η).set 0 (a 0, .inr (4, (fsX4 a (mo_setKept μ (rk_kept η))).set 6 (.int v))) = wRK k a μ x f (rk_setKept η v) := rfl
theorem wRK_stHistory (k : KT) (a : Nat → Nat) (μ : MO) (x : Nat) (f : Nat → Int32) (η : RK) (v : Nat → Int32) : (wRK k a μ x f η).set 1 (a 5, .inl (k.1, 1104, .inl v)) = wRK k a μ x f (rk_setHistory η v) := rfl
theorem pm_pick3 {ws : va_W} (i j n : Nat) {q r z : Nat × va_E} (h : ws[i]? = some q) (h2 : (ws.eraseIdx i)[j]? = some r) (h3 : ((ws.eraseIdx i).eraseIdx j)[n]? = some z) : ws.Perm ([q, r, z] ++ ((ws.eraseIdx i).eraseIdx j).eraseIdx n) :=
  (pm_pick i h).trans (List.Perm.cons q ((pm_pick j h2).trans (List.Perm.cons r (pm_pick n h3))))
abbrev rm_X4_in : Room := { frames := 0, cells := 0, slots := 0, locals := 0 }
theorem M_X4_in : MI yX4_in wsX4_in cX4_in 3 (some .boolean) 3 := ⟨⟨_, rfl⟩, by decide +kernel, by decide +kernel, by decide +kernel, by decide +kernel⟩
def wpX4_in (p0 : Int32) (p1 : Int32) (p2 : Int32) (post : Bool → Prop) : Prop := ((p0 < p1 → post false) ∧ (¬ p0 < p1 → ((p2 < p0 → post false) ∧ (¬ p2 < p0 → post true))))
set_option maxHeartbeats 4000000 in
set_option maxRecDepth 100000 in
theorem c_X4_in (l : Launch) (B : va_G) (k : KT) (p0 : Int32) (p1 : Int32) (p2 : Int32) (post : Bool → Prop) (hw : wpX4_in p0 p1 p2 post) : Cti l yX4_in wsX4_in rm_X4_in 0 0 B k [.int p0, .int p1, .int p2] ([]) (fun _ : Unit => []) (bpost fun b _ => post b) := by
  refine Cti.of M_X4_in (Nat.le_of_ble_eq_true rfl) ?_
  intro p e s m args below meth c A C hd ls hl
  have hx := C.1; have hb := C.2.1; have hml := C.2.2.1; have hts := C.2.2.2.2.1
  have hl : lv_has ls 3 [(0, .int p0), (1, .int p1), (2, .int p2)] := hl
  rw [wpX4_in] at hw
  refine lv_iload_n hx hb dX4_in_0 rfl (lv_at hl 0 rfl) ?_
  refine lv_iload_n hx hb dX4_in_1 rfl (lv_at hl 1 rfl) ?_
  refine lv_icmp_lt (tgt := 14) hx hb dX4_in_2 (by decide) (fun c3 => ?_) (fun c3 => ?_)
  · replace hw := hw.1 c3
    refine lv_iconst (v := 0) hx hb dX4_in_14 (by decide) ?_
    exact r_z false C hd dX4_in_15 () rfl hw
  · replace hw := hw.2 c3
    refine lv_iload_n hx hb dX4_in_5 rfl (lv_at hl 0 rfl) ?_
    refine lv_iload_n hx hb dX4_in_6 rfl (lv_at hl 2 rfl) ?_
    refine lv_icmp_gt (tgt := 14) hx hb dX4_in_7 (by decide) (fun c4 => ?_) (fun c4 => ?_)
    · replace hw := hw.1 c4
      refine lv_iconst (v := 0) hx hb dX4_in_14 (by decide) ?_
      exact r_z false C hd dX4_in_15 () rfl hw
    · replace hw := hw.2 c4
      refine lv_iconst (v := 1) hx hb dX4_in_10 (by decide) ?_
      refine lv_goto (tgt := 15) hx hb dX4_in_11 (by decide) ?_
      exact r_z true C hd dX4_in_15 () rfl hw
abbrev rm_X4_copies : Room := { frames := 0, cells := 0, slots := 0, locals := 0 }
theorem M_X4_copies : MI yX4_copies wsX4_copies cX4_copies 3 none 2 := ⟨⟨_, rfl⟩, by decide +kernel, by decide +kernel, by decide +kernel, by decide +kernel⟩
def wpX4_copies_L2 (f : (Nat → Int32)) (post : (Nat → Int32) → Prop) : Nat → Int32 → (Nat → Int32) → Prop
  | 0, _, _ => False
  | n + 1, v2l2, g2 => ((276 ≤ v2l2 → post g2) ∧ (¬ 276 ≤ v2l2 → (vp_in v2l2 276 ∧ wpX4_copies_L2 f post n (v2l2 + 1) (upd g2 v2l2.toNatClampNeg (f v2l2.toNatClampNeg)))))
def wpX4_copies (f : (Nat → Int32)) (g : (Nat → Int32)) (post : (Nat → Int32) → Prop) : Prop := ∃ n : Nat, wpX4_copies_L2 f post n 0 g
set_option maxHeartbeats 4000000 in
set_option maxRecDepth 100000 in
theorem c_X4_copies (l : Launch) (B : va_G) (k : KT) (x : Nat) (y : Nat) (f : (Nat → Int32)) (g : (Nat → Int32)) (post : (Nat → Int32) → Prop) (hw : wpX4_copies f g post) : Ctv l yX4_copies wsX4_copies rm_X4_copies 0 0 B k [.ref x, .ref y] ([(x, .inl (k.1, 276, .inl f)), (y, .inl (k.1, 276, .inl g))]) (fun u => [(x, .inl (k.1, 276, .inl f)), (y, .inl (k.1, 276, .inl u))]) post := by
  refine Ctv.of M_X4_copies (Nat.le_of_ble_eq_true rfl) ?_
  intro p e s m args below meth c A C hd ls hl
  have hx := C.1; have hb := C.2.1; have hml := C.2.2.1; have hts := C.2.2.2.2.1
  have hl : lv_has ls 3 [(0, .ref x), (1, .ref y)] := hl
  have L2 : ∀ (n : Nat), ∀ (v2l2 : Int32) (g2 : (Nat → Int32)) (H : Heap) (locs : List Loc) (ls : Array Slot), Wd B A s.heap ([(x, .inl (k.1, 276, .inl f)), (y, .inl (k.1, 276, .inl g2))]) H locs → lv_has ls 3 [(0, .ref x), (1, .ref y), (2, .int v2l2)] → wpX4_copies_L2 f post n v2l2 g2 → W p l e rm_X4_copies s m args below meth c H locs 0 0 (Qv below args s B A (fun u => [(x, .inl (k.1, 276, .inl f)), (y, .inl (k.1, 276, .inl u))]) post 0 0) (F0 m 2 ls []) := by
    intro n
    induction n with
    | zero => intro v2l2 g2 H locs ls hd hl hw; exact absurd hw (by simp [wpX4_copies_L2])
    | succ n ih =>
      intro v2l2 g2 H locs ls hd hl hw
      rw [wpX4_copies_L2] at hw
      refine lv_iload_n hx hb dX4_copies_2 rfl (lv_at hl 2 rfl) ?_
      refine lv_sipush (v := 276) hx hb dX4_copies_3 (by decide) ?_
      refine lv_icmp_ge (tgt := 21) hx hb dX4_copies_6 (by decide) (fun c5 => ?_) (fun c5 => ?_)
      · replace hw := hw.1 c5
        exact r_v C hd dX4_copies_21 g2 rfl hw
      · replace hw := hw.2 c5
        refine lv_aload_n hx hb dX4_copies_9 rfl (lv_at hl 1 rfl) ?_
        refine lv_iload_n hx hb dX4_copies_10 rfl (lv_at hl 2 rfl) ?_
        refine lv_aload_n hx hb dX4_copies_11 rfl (lv_at hl 0 rfl) ?_
        refine lv_iload_n hx hb dX4_copies_12 rfl (lv_at hl 2 rfl) ?_
        obtain ⟨h5, hw⟩ := hw
        refine g_ild (f := f) C hd 0 rfl h5 dX4_copies_13 ?_
        refine g_ist (f := g2) C hd 1 rfl h5 ([(x, .inl (k.1, 276, .inl f)), (y, .inl (k.1, 276, .inl (upd g2 v2l2.toNatClampNeg (f v2l2.toNatClampNeg))))]) rfl dX4_copies_14 (fun H locs hd => ?_)
        refine lv_iinc (v := v2l2 + 1) (lv' := [(2, .int (v2l2 + 1)), (0, .ref x), (1, .ref y)]) hx hb dX4_copies_15 hl (k := 2) rfl rfl (by decide) rfl (fun ls hl => ?_)
        refine lv_goto (tgt := 2) hx hb dX4_copies_18 (by decide) ?_
        exact ih (v2l2 + 1) (upd g2 v2l2.toNatClampNeg (f v2l2.toNatClampNeg)) _ _ _ hd (lv_sub hl [1, 2, 0] rfl) hw
  rw [wpX4_copies] at hw
  refine lv_iconst (v := 0) hx hb dX4_copies_0 (by decide) ?_
  refine lv_istore_n (lv' := [(2, .int 0), (0, .ref x), (1, .ref y)]) hx hb dX4_copies_1 rfl hl (by decide) rfl (fun ls hl => ?_)
  obtain ⟨n, hw⟩ := hw
  exact L2 n 0 g _ _ _ hd (lv_sub hl [1, 2, 0] rfl) hw
abbrev rm_X4_record : Room := { frames := 0, cells := 0, slots := 0, locals := 0 }
theorem M_X4_record : MI yX4_record wsX4_record cX4_record 3 none 1 := ⟨⟨_, rfl⟩, by decide +kernel, by decide +kernel, by decide +kernel, by decide +kernel⟩
theorem iX4_record_X4 : ∀ w ∈ wsX40, w ∈ wsX4_record := fun _ h => List.mem_cons_of_mem _ (List.mem_append_right _ h)
def wpX4_record_L51 (f : (Nat → Int32)) (post : RK → Prop) : Nat → Int32 → RK → Prop
  | 0, _, _ => False
  | n + 1, v51l2, η51 => ((276 ≤ v51l2 → post (rk_setKept η51 ((rk_kept η51) + 1))) ∧ (¬ 276 ≤ v51l2 → (vp_in v51l2 276 ∧ (vp_in ((276 * (rk_kept η51)) + v51l2) 1104 ∧ wpX4_record_L51 f post n (v51l2 + 1) (rk_setHistory η51 (upd (rk_history η51) ((276 * (rk_kept η51)) + v51l2).toNatClampNeg (f v51l2.toNatClampNeg)))))))
def wpX4_record_L10 (f : (Nat → Int32)) (post : RK → Prop) : Nat → Int32 → RK → Prop
  | 0, _, _ => False
  | n + 1, v10l2, η10 => ((828 ≤ v10l2 → ∃ n : Nat, wpX4_record_L51 f post n 0 (rk_setKept η10 ((rk_kept η10) - 1))) ∧ (¬ 828 ≤ v10l2 → (vp_in (v10l2 + 276) 1104 ∧ (vp_in v10l2 1104 ∧ wpX4_record_L10 f post n (v10l2 + 1) (rk_setHistory η10 (upd (rk_history η10) v10l2.toNatClampNeg ((rk_history η10) (v10l2 + 276).toNatClampNeg)))))))
def wpX4_record (f : (Nat → Int32)) (η : RK) (post : RK → Prop) : Prop := (((rk_kept η) = 4 → ∃ n : Nat, wpX4_record_L10 f post n 0 η) ∧ (¬ (rk_kept η) = 4 → ∃ n : Nat, wpX4_record_L51 f post n 0 η))
set_option maxHeartbeats 4000000 in
set_option maxRecDepth 100000 in
theorem c_X4_record (l : Launch) (B : va_G) (k : KT) (a : Nat → Nat) (μ : MO) (x : Nat) (f : (Nat → Int32)) (η : RK) (post : RK → Prop) (hw : wpX4_record f η post) : Ctv l yX4_record wsX4_record rm_X4_record 0 0 B k [.ref (a 0), .ref x] (wRK k a μ x f η) (fun u => wRK k a μ x f u) post := by
  refine Ctv.of M_X4_record (Nat.le_of_ble_eq_true rfl) ?_
  intro p e s m args below meth c A C hd ls hl
  have hx := C.1; have hb := C.2.1; have hml := C.2.2.1; have hts := C.2.2.2.2.1
  have hl : lv_has ls 3 [(0, .ref (a 0)), (1, .ref x)] := hl
  have L51 : ∀ (n : Nat), ∀ (v51l2 : Int32) (η51 : RK) (H : Heap) (locs : List Loc) (ls : Array Slot), Wd B A s.heap (wRK k a μ x f η51) H locs → lv_has ls 3 [(0, .ref (a 0)), (1, .ref x), (2, .int v51l2)] → wpX4_record_L51 f post n v51l2 η51 → W p l e rm_X4_record s m args below meth c H locs 0 0 (Qv below args s B A (fun u => wRK k a μ x f u) post 0 0) (F0 m 51 ls []) := by
    intro n
    induction n with
    | zero => intro v51l2 η51 H locs ls hd hl hw; exact absurd hw (by simp [wpX4_record_L51])
    | succ n ih =>
      intro v51l2 η51 H locs ls hd hl hw
      rw [wpX4_record_L51] at hw
      refine lv_iload_n hx hb dX4_record_51 rfl (lv_at hl 2 rfl) ?_
      refine lv_sipush (v := 276) hx hb dX4_record_52 (by decide) ?_
      refine lv_icmp_ge (tgt := 82) hx hb dX4_record_55 (by decide) (fun c10 => ?_) (fun c10 => ?_)
      · replace hw := hw.1 c10
        refine lv_aload_n hx hb dX4_record_82 rfl (lv_at hl 0 rfl) ?_
        refine lv_dup hx hb dX4_record_83 rfl ?_
        refine g_get (v := .int (rk_kept η51)) C hd iX4_record_X4 0 4 rfl rfl 6 (by decide) (List.mem_of_getElem? (i := 1) rfl) rfl dX4_record_84 ?_
        refine lv_iconst (v := 1) hx hb dX4_record_87 (by decide) ?_
        refine lv_iadd hx hb dX4_record_88 ?_
        refine g_put C hd iX4_record_X4 tyX4 tyX4_ok nmX4 0 4 rfl rfl 6 (by decide) (List.mem_of_getElem? (i := 1) rfl) rfl rfl rfl (Nat.le_of_ble_eq_true rfl) (wRK k a μ x f (rk_setKept η51 ((rk_kept η51) + 1))) (wRK_putKept k a μ x f _ _) dX4_record_89 (fun H locs hd => ?_)
        exact r_v C hd dX4_record_92 (rk_setKept η51 ((rk_kept η51) + 1)) rfl hw
      · replace hw := hw.2 c10
        refine lv_aload_n hx hb dX4_record_58 rfl (lv_at hl 0 rfl) ?_
        refine g_get (v := .ref (a 5)) C hd iX4_record_X4 0 4 rfl rfl 4 (by decide) (List.mem_of_getElem? (i := 2) rfl) rfl dX4_record_59 ?_
        refine lv_sipush (v := 276) hx hb dX4_record_62 (by decide) ?_
        refine lv_aload_n hx hb dX4_record_65 rfl (lv_at hl 0 rfl) ?_
        refine g_get (v := .int (rk_kept η51)) C hd iX4_record_X4 0 4 rfl rfl 6 (by decide) (List.mem_of_getElem? (i := 1) rfl) rfl dX4_record_66 ?_
        refine lv_imul hx hb dX4_record_69 ?_
        refine lv_iload_n hx hb dX4_record_70 rfl (lv_at hl 2 rfl) ?_
        refine lv_iadd hx hb dX4_record_71 ?_
        refine lv_aload_n hx hb dX4_record_72 rfl (lv_at hl 1 rfl) ?_
        refine lv_iload_n hx hb dX4_record_73 rfl (lv_at hl 2 rfl) ?_
        obtain ⟨h17, hw⟩ := hw
        refine g_ild (f := f) C hd 2 rfl h17 dX4_record_74 ?_
        obtain ⟨h18, hw⟩ := hw
        refine g_ist (f := rk_history η51) C hd 1 rfl h18 (wRK k a μ x f (rk_setHistory η51 (upd (rk_history η51) ((276 * (rk_kept η51)) + v51l2).toNatClampNeg (f v51l2.toNatClampNeg)))) (wRK_stHistory k a μ x f _ _) dX4_record_75 (fun H locs hd => ?_)
        refine lv_iinc (v := v51l2 + 1) (lv' := [(2, .int (v51l2 + 1)), (0, .ref (a 0)), (1, .ref x)]) hx hb dX4_record_76 hl (k := 2) rfl rfl (by decide) rfl (fun ls hl => ?_)
        refine lv_goto (tgt := 51) hx hb dX4_record_79 (by decide) ?_
        exact ih (v51l2 + 1) (rk_setHistory η51 (upd (rk_history η51) ((276 * (rk_kept η51)) + v51l2).toNatClampNeg (f v51l2.toNatClampNeg))) _ _ _ hd (lv_sub hl [1, 2, 0] rfl) hw
  have L10 : ∀ (n : Nat), ∀ (v10l2 : Int32) (η10 : RK) (H : Heap) (locs : List Loc) (ls : Array Slot), Wd B A s.heap (wRK k a μ x f η10) H locs → lv_has ls 3 [(0, .ref (a 0)), (1, .ref x), (2, .int v10l2)] → wpX4_record_L10 f post n v10l2 η10 → W p l e rm_X4_record s m args below meth c H locs 0 0 (Qv below args s B A (fun u => wRK k a μ x f u) post 0 0) (F0 m 10 ls []) := by
    intro n
    induction n with
    | zero => intro v10l2 η10 H locs ls hd hl hw; exact absurd hw (by simp [wpX4_record_L10])
    | succ n ih =>
      intro v10l2 η10 H locs ls hd hl hw
      rw [wpX4_record_L10] at hw
      refine lv_iload_n hx hb dX4_record_10 rfl (lv_at hl 2 rfl) ?_
      refine lv_sipush (v := 828) hx hb dX4_record_11 (by decide) ?_
      refine lv_icmp_ge (tgt := 39) hx hb dX4_record_14 (by decide) (fun c11 => ?_) (fun c11 => ?_)
      · replace hw := hw.1 c11
        refine lv_aload_n hx hb dX4_record_39 rfl (lv_at hl 0 rfl) ?_
        refine lv_dup hx hb dX4_record_40 rfl ?_
        refine g_get (v := .int (rk_kept η10)) C hd iX4_record_X4 0 4 rfl rfl 6 (by decide) (List.mem_of_getElem? (i := 1) rfl) rfl dX4_record_41 ?_
        refine lv_iconst (v := 1) hx hb dX4_record_44 (by decide) ?_
        refine lv_isub hx hb dX4_record_45 ?_
        refine g_put C hd iX4_record_X4 tyX4 tyX4_ok nmX4 0 4 rfl rfl 6 (by decide) (List.mem_of_getElem? (i := 1) rfl) rfl rfl rfl (Nat.le_of_ble_eq_true rfl) (wRK k a μ x f (rk_setKept η10 ((rk_kept η10) - 1))) (wRK_putKept k a μ x f _ _) dX4_record_46 (fun H locs hd => ?_)
        refine lv_iconst (v := 0) hx hb dX4_record_49 (by decide) ?_
        refine lv_istore_n (lv' := [(2, .int 0), (0, .ref (a 0)), (1, .ref x)]) hx hb dX4_record_50 rfl hl (by decide) rfl (fun ls hl => ?_)
        obtain ⟨n, hw⟩ := hw
        exact L51 n 0 (rk_setKept η10 ((rk_kept η10) - 1)) _ _ _ hd (lv_sub hl [1, 2, 0] rfl) hw
      · replace hw := hw.2 c11
        refine lv_aload_n hx hb dX4_record_17 rfl (lv_at hl 0 rfl) ?_
        refine g_get (v := .ref (a 5)) C hd iX4_record_X4 0 4 rfl rfl 4 (by decide) (List.mem_of_getElem? (i := 2) rfl) rfl dX4_record_18 ?_
        refine lv_iload_n hx hb dX4_record_21 rfl (lv_at hl 2 rfl) ?_
        refine lv_aload_n hx hb dX4_record_22 rfl (lv_at hl 0 rfl) ?_
        refine g_get (v := .ref (a 5)) C hd iX4_record_X4 0 4 rfl rfl 4 (by decide) (List.mem_of_getElem? (i := 2) rfl) rfl dX4_record_23 ?_
        refine lv_iload_n hx hb dX4_record_26 rfl (lv_at hl 2 rfl) ?_
        refine lv_sipush (v := 276) hx hb dX4_record_27 (by decide) ?_
        refine lv_iadd hx hb dX4_record_30 ?_
        obtain ⟨h19, hw⟩ := hw
        refine g_ild (f := rk_history η10) C hd 1 rfl h19 dX4_record_31 ?_
        obtain ⟨h20, hw⟩ := hw
        refine g_ist (f := rk_history η10) C hd 1 rfl h20 (wRK k a μ x f (rk_setHistory η10 (upd (rk_history η10) v10l2.toNatClampNeg ((rk_history η10) (v10l2 + 276).toNatClampNeg)))) (wRK_stHistory k a μ x f _ _) dX4_record_32 (fun H locs hd => ?_)
        refine lv_iinc (v := v10l2 + 1) (lv' := [(2, .int (v10l2 + 1)), (0, .ref (a 0)), (1, .ref x)]) hx hb dX4_record_33 hl (k := 2) rfl rfl (by decide) rfl (fun ls hl => ?_)
        refine lv_goto (tgt := 10) hx hb dX4_record_36 (by decide) ?_
        exact ih (v10l2 + 1) (rk_setHistory η10 (upd (rk_history η10) v10l2.toNatClampNeg ((rk_history η10) (v10l2 + 276).toNatClampNeg))) _ _ _ hd (lv_sub hl [1, 2, 0] rfl) hw
  rw [wpX4_record] at hw
  refine lv_aload_n hx hb dX4_record_0 rfl (lv_at hl 0 rfl) ?_
  refine g_get (v := .int (rk_kept η)) C hd iX4_record_X4 0 4 rfl rfl 6 (by decide) (List.mem_of_getElem? (i := 1) rfl) rfl dX4_record_1 ?_
  refine lv_iconst (v := 4) hx hb dX4_record_4 (by decide) ?_
  refine lv_icmp_ne (tgt := 49) hx hb dX4_record_5 (by decide) (fun c12 => ?_) (fun c12 => ?_)
  · replace hw := hw.2 c12
    refine lv_iconst (v := 0) hx hb dX4_record_49 (by decide) ?_
    refine lv_istore_n (lv' := [(2, .int 0), (0, .ref (a 0)), (1, .ref x)]) hx hb dX4_record_50 rfl hl (by decide) rfl (fun ls hl => ?_)
    obtain ⟨n, hw⟩ := hw
    exact L51 n 0 η _ _ _ hd (lv_sub hl [1, 2, 0] rfl) hw
  · replace hw := hw.1 c12
    refine lv_iconst (v := 0) hx hb dX4_record_8 (by decide) ?_
    refine lv_istore_n (lv' := [(2, .int 0), (0, .ref (a 0)), (1, .ref x)]) hx hb dX4_record_9 rfl hl (by decide) rfl (fun ls hl => ?_)
    obtain ⟨n, hw⟩ := hw
    exact L10 n 0 η _ _ _ hd (lv_sub hl [1, 2, 0] rfl) hw
abbrev rm_X4_isHead : Room := { frames := 1, cells := 0, slots := 0, locals := 22 }
theorem M_X4_isHead : MI yX4_isHead wsX4_isHead cX4_isHead 1 (some .boolean) 1 := ⟨⟨_, rfl⟩, by decide +kernel, by decide +kernel, by decide +kernel, by decide +kernel⟩
def wpX4_isHead (p0 : Int32) (post : Bool → Prop) : Prop := wpX4_in p0 0 3 (fun b3 => post b3)
set_option maxHeartbeats 4000000 in
set_option maxRecDepth 100000 in
theorem c_X4_isHead (l : Launch) (B : va_G) (k : KT) (p0 : Int32) (post : Bool → Prop) (hw : wpX4_isHead p0 post) : Cti l yX4_isHead wsX4_isHead rm_X4_isHead 0 0 B k [.int p0] ([]) (fun _ : Unit => []) (bpost fun b _ => post b) := by
  refine Cti.of M_X4_isHead (Nat.le_of_ble_eq_true rfl) ?_
  intro p e s m args below meth c A C hd ls hl
  have hx := C.1; have hb := C.2.1; have hml := C.2.2.1; have hts := C.2.2.2.2.1
  have hl : lv_has ls 1 [(0, .int p0)] := hl
  rw [wpX4_isHead] at hw
  refine lv_iload_n hx hb dX4_isHead_0 rfl (lv_at hl 0 rfl) ?_
  refine lv_iconst (v := 0) hx hb dX4_isHead_1 (by decide) ?_
  refine lv_iconst (v := 3) hx hb dX4_isHead_2 (by decide) ?_
  refine s_i C hd hl M_X4_in gX4_isHead_X4_in rfl (c_X4_in l B k p0 0 3 _ hw) ⟨rfl, rfl⟩ ⟨Nat.le_of_ble_eq_true rfl, Nat.le_of_ble_eq_true rfl⟩ (pm_non _) (fun _ => []) (fun _ => List.Perm.refl _) rfl rfl (Nat.le_of_ble_eq_true rfl) dX4_isHead_3 ⟨Nat.le_of_ble_eq_true rfl, Nat.le_of_ble_eq_true rfl⟩ (fun r _ H locs hp hd => ?_)
  obtain ⟨b3, rfl, hw⟩ := hp
  exact r_z b3 C hd dX4_isHead_6 () rfl hw
abbrev rm_X4_isSpare : Room := { frames := 0, cells := 0, slots := 0, locals := 0 }
theorem M_X4_isSpare : MI yX4_isSpare wsX4_isSpare cX4_isSpare 2 (some .boolean) 1 := ⟨⟨_, rfl⟩, by decide +kernel, by decide +kernel, by decide +kernel, by decide +kernel⟩
theorem iX4_isSpare_X4 : ∀ w ∈ wsX40, w ∈ wsX4_isSpare := fun _ h => List.mem_cons_of_mem _ (List.mem_append_right _ h)
def wpX4_isSpare (μ : MO) (p0 : Int32) (post : Bool → Prop) : Prop := (vp_in (12 + (p0 / 16)) 276 ∧ (((p0 - p0 / 16 * 16) < (16 - ((mo_now μ) (12 + (p0 / 16)).toNatClampNeg)) → post false) ∧ (¬ (p0 - p0 / 16 * 16) < (16 - ((mo_now μ) (12 + (p0 / 16)).toNatClampNeg)) → post true)))
set_option maxHeartbeats 4000000 in
set_option maxRecDepth 100000 in
theorem c_X4_isSpare (l : Launch) (B : va_G) (k : KT) (a : Nat → Nat) (μ : MO) (p0 : Int32) (post : Bool → Prop) (hw : wpX4_isSpare μ p0 post) : Cti l yX4_isSpare wsX4_isSpare rm_X4_isSpare 0 0 B k [.ref (a 0), .int p0] (wX4 k a μ) (fun _ : Unit => wX4 k a μ) (bpost fun b _ => post b) := by
  refine Cti.of M_X4_isSpare (Nat.le_of_ble_eq_true rfl) ?_
  intro p e s m args below meth c A C hd ls hl
  have hx := C.1; have hb := C.2.1; have hml := C.2.2.1; have hts := C.2.2.2.2.1
  have hl : lv_has ls 2 [(0, .ref (a 0)), (1, .int p0)] := hl
  rw [wpX4_isSpare] at hw
  refine lv_iload_n hx hb dX4_isSpare_0 rfl (lv_at hl 1 rfl) ?_
  refine lv_bipush (v := 16) hx hb dX4_isSpare_1 (by decide) ?_
  refine lv_irem hx hb dX4_isSpare_3 (by decide) ?_
  refine lv_bipush (v := 16) hx hb dX4_isSpare_4 (by decide) ?_
  refine lv_aload_n hx hb dX4_isSpare_6 rfl (lv_at hl 0 rfl) ?_
  refine g_get (v := .ref (a 1)) C hd iX4_isSpare_X4 0 4 rfl rfl 0 (by decide) (List.mem_of_getElem? (i := 1) rfl) rfl dX4_isSpare_7 ?_
  refine lv_bipush (v := 12) hx hb dX4_isSpare_10 (by decide) ?_
  refine lv_iload_n hx hb dX4_isSpare_12 rfl (lv_at hl 1 rfl) ?_
  refine lv_bipush (v := 16) hx hb dX4_isSpare_13 (by decide) ?_
  refine lv_idiv hx hb dX4_isSpare_15 (by decide) ?_
  refine lv_iadd hx hb dX4_isSpare_16 ?_
  obtain ⟨h2, hw⟩ := hw
  refine g_ild (f := mo_now μ) C hd 1 rfl h2 dX4_isSpare_17 ?_
  refine lv_isub hx hb dX4_isSpare_18 ?_
  refine lv_icmp_lt (tgt := 26) hx hb dX4_isSpare_19 (by decide) (fun c2 => ?_) (fun c2 => ?_)
  · replace hw := hw.1 c2
    refine lv_iconst (v := 0) hx hb dX4_isSpare_26 (by decide) ?_
    exact r_z false C hd dX4_isSpare_27 () rfl hw
  · replace hw := hw.2 c2
    refine lv_iconst (v := 1) hx hb dX4_isSpare_22 (by decide) ?_
    refine lv_goto (tgt := 27) hx hb dX4_isSpare_23 (by decide) ?_
    exact r_z true C hd dX4_isSpare_27 () rfl hw
abbrev rm_X4_isAddress : Room := { frames := 1, cells := 0, slots := 0, locals := 22 }
theorem M_X4_isAddress : MI yX4_isAddress wsX4_isAddress cX4_isAddress 2 (some .boolean) 1 := ⟨⟨_, rfl⟩, by decide +kernel, by decide +kernel, by decide +kernel, by decide +kernel⟩
theorem iX4_isAddress_X4 : ∀ w ∈ wsX40, w ∈ wsX4_isAddress := fun _ h => List.mem_cons_of_mem _ (List.mem_append_right _ h)
def wpX4_isAddress (μ : MO) (p0 : Int32) (post : Bool → Prop) : Prop := wpX4_in p0 0 63 (fun b4 => ((b4 = true → wpX4_isSpare μ p0 (fun b12 => ((b12 = true → post false) ∧ (b12 = false → post true)))) ∧ (b4 = false → post false)))
set_option maxHeartbeats 4000000 in
set_option maxRecDepth 100000 in
theorem c_X4_isAddress (l : Launch) (B : va_G) (k : KT) (a : Nat → Nat) (μ : MO) (p0 : Int32) (post : Bool → Prop) (hw : wpX4_isAddress μ p0 post) : Cti l yX4_isAddress wsX4_isAddress rm_X4_isAddress 0 0 B k [.ref (a 0), .int p0] (wX4 k a μ) (fun _ : Unit => wX4 k a μ) (bpost fun b _ => post b) := by
  refine Cti.of M_X4_isAddress (Nat.le_of_ble_eq_true rfl) ?_
  intro p e s m args below meth c A C hd ls hl
  have hx := C.1; have hb := C.2.1; have hml := C.2.2.1; have hts := C.2.2.2.2.1
  have hl : lv_has ls 2 [(0, .ref (a 0)), (1, .int p0)] := hl
  rw [wpX4_isAddress] at hw
  refine lv_iload_n hx hb dX4_isAddress_0 rfl (lv_at hl 1 rfl) ?_
  refine lv_iconst (v := 0) hx hb dX4_isAddress_1 (by decide) ?_
  refine lv_bipush (v := 63) hx hb dX4_isAddress_2 (by decide) ?_
  refine s_i C hd hl M_X4_in gX4_isAddress_X4_in rfl (c_X4_in l B k p0 0 63 _ hw) ⟨rfl, rfl⟩ ⟨Nat.le_of_ble_eq_true rfl, Nat.le_of_ble_eq_true rfl⟩ (pm_non _) (fun _ => wX4 k a μ) (fun _ => List.Perm.refl _) rfl rfl (Nat.le_of_ble_eq_true rfl) dX4_isAddress_4 ⟨Nat.le_of_ble_eq_true rfl, Nat.le_of_ble_eq_true rfl⟩ (fun r _ H locs hp hd => ?_)
  obtain ⟨b4, rfl, hw⟩ := hp
  refine lv_if_eq (tgt := 22) hx hb dX4_isAddress_7 (by decide) (fun c4 => ?_) (fun c4 => ?_)
  · replace hw := hw.2 ((bi_eq _).mp c4)
    refine lv_iconst (v := 0) hx hb dX4_isAddress_22 (by decide) ?_
    exact r_z false C hd dX4_isAddress_23 () rfl hw
  · replace hw := hw.1 ((bi_ne _).mp c4)
    refine lv_aload_n hx hb dX4_isAddress_10 rfl (lv_at hl 0 rfl) ?_
    refine lv_iload_n hx hb dX4_isAddress_11 rfl (lv_at hl 1 rfl) ?_
    refine v_i C hd hl M_X4_isSpare gX4_isAddress_X4_isSpare (c_X4_isSpare l B k a μ p0 _ hw) ⟨rfl, rfl⟩ ⟨Nat.le_of_ble_eq_true rfl, Nat.le_of_ble_eq_true rfl⟩ (pm_all _) (fun _ => wX4 k a μ) (fun _ => (pm_all _).symm) 0 4 rfl rfl rfl rfl rfl (Nat.le_of_ble_eq_true rfl) dX4_isAddress_12 ⟨Nat.le_of_ble_eq_true rfl, Nat.le_of_ble_eq_true rfl⟩ (fun r _ H locs hp hd => ?_)
    obtain ⟨b12, rfl, hw⟩ := hp
    refine lv_if_ne (tgt := 22) hx hb dX4_isAddress_15 (by decide) (fun c3 => ?_) (fun c3 => ?_)
    · replace hw := hw.1 ((bi_ne _).mp c3)
      refine lv_iconst (v := 0) hx hb dX4_isAddress_22 (by decide) ?_
      exact r_z false C hd dX4_isAddress_23 () rfl hw
    · replace hw := hw.2 ((bi_eq _).mp c3)
      refine lv_iconst (v := 1) hx hb dX4_isAddress_18 (by decide) ?_
      refine lv_goto (tgt := 23) hx hb dX4_isAddress_19 (by decide) ?_
      exact r_z true C hd dX4_isAddress_23 () rfl hw
abbrev rm_X4_isLost : Room := { frames := 0, cells := 0, slots := 0, locals := 0 }
theorem M_X4_isLost : MI yX4_isLost wsX4_isLost cX4_isLost 2 (some .boolean) 1 := ⟨⟨_, rfl⟩, by decide +kernel, by decide +kernel, by decide +kernel, by decide +kernel⟩
theorem iX4_isLost_X4 : ∀ w ∈ wsX40, w ∈ wsX4_isLost := fun _ h => List.mem_cons_of_mem _ (List.mem_append_right _ h)
def wpX4_isLost (μ : MO) (p0 : Int32) (post : Bool → Prop) : Prop := (vp_in (148 + p0) 276 ∧ ((0 ≤ ((mo_now μ) (148 + p0).toNatClampNeg) → post false) ∧ (¬ 0 ≤ ((mo_now μ) (148 + p0).toNatClampNeg) → post true)))
set_option maxHeartbeats 4000000 in
set_option maxRecDepth 100000 in
theorem c_X4_isLost (l : Launch) (B : va_G) (k : KT) (a : Nat → Nat) (μ : MO) (p0 : Int32) (post : Bool → Prop) (hw : wpX4_isLost μ p0 post) : Cti l yX4_isLost wsX4_isLost rm_X4_isLost 0 0 B k [.ref (a 0), .int p0] (wX4 k a μ) (fun _ : Unit => wX4 k a μ) (bpost fun b _ => post b) := by
  refine Cti.of M_X4_isLost (Nat.le_of_ble_eq_true rfl) ?_
  intro p e s m args below meth c A C hd ls hl
  have hx := C.1; have hb := C.2.1; have hml := C.2.2.1; have hts := C.2.2.2.2.1
  have hl : lv_has ls 2 [(0, .ref (a 0)), (1, .int p0)] := hl
  rw [wpX4_isLost] at hw
  refine lv_aload_n hx hb dX4_isLost_0 rfl (lv_at hl 0 rfl) ?_
  refine g_get (v := .ref (a 1)) C hd iX4_isLost_X4 0 4 rfl rfl 0 (by decide) (List.mem_of_getElem? (i := 1) rfl) rfl dX4_isLost_1 ?_
  refine lv_sipush (v := 148) hx hb dX4_isLost_4 (by decide) ?_
  refine lv_iload_n hx hb dX4_isLost_7 rfl (lv_at hl 1 rfl) ?_
  refine lv_iadd hx hb dX4_isLost_8 ?_
  obtain ⟨h2, hw⟩ := hw
  refine g_ild (f := mo_now μ) C hd 1 rfl h2 dX4_isLost_9 ?_
  refine lv_if_ge (tgt := 17) hx hb dX4_isLost_10 (by decide) (fun c2 => ?_) (fun c2 => ?_)
  · replace hw := hw.1 c2
    refine lv_iconst (v := 0) hx hb dX4_isLost_17 (by decide) ?_
    exact r_z false C hd dX4_isLost_18 () rfl hw
  · replace hw := hw.2 c2
    refine lv_iconst (v := 1) hx hb dX4_isLost_13 (by decide) ?_
    refine lv_goto (tgt := 18) hx hb dX4_isLost_14 (by decide) ?_
    exact r_z true C hd dX4_isLost_18 () rfl hw
abbrev rm_X4_state : Room := { frames := 0, cells := 0, slots := 0, locals := 0 }
theorem M_X4_state : MI yX4_state wsX4_state cX4_state 3 (some .int) 1 := ⟨⟨_, rfl⟩, by decide +kernel, by decide +kernel, by decide +kernel, by decide +kernel⟩
theorem iX4_state_X4 : ∀ w ∈ wsX40, w ∈ wsX4_state := fun _ h => List.mem_cons_of_mem _ (List.mem_append_right _ h)
def wpX4_state (μ : MO) (p0 : Int32) (post : Int32 → Prop) : Prop := (vp_in (20 + p0) 276 ∧ (vp_in 0 276 ∧ ((((mo_now μ) (0 : Int32).toNatClampNeg) ≤ ((mo_now μ) (20 + p0).toNatClampNeg) → (((2 * ((mo_now μ) (0 : Int32).toNatClampNeg)) ≤ ((mo_now μ) (20 + p0).toNatClampNeg) → post 2) ∧ (¬ (2 * ((mo_now μ) (0 : Int32).toNatClampNeg)) ≤ ((mo_now μ) (20 + p0).toNatClampNeg) → post 1))) ∧ (¬ ((mo_now μ) (0 : Int32).toNatClampNeg) ≤ ((mo_now μ) (20 + p0).toNatClampNeg) → post 0))))
set_option maxHeartbeats 4000000 in
set_option maxRecDepth 100000 in
theorem c_X4_state (l : Launch) (B : va_G) (k : KT) (a : Nat → Nat) (μ : MO) (p0 : Int32) (post : Int32 → Prop) (hw : wpX4_state μ p0 post) : Cti l yX4_state wsX4_state rm_X4_state 0 0 B k [.ref (a 0), .int p0] (wX4 k a μ) (fun _ : Unit => wX4 k a μ) (fun r _ => post r) := by
  refine Cti.of M_X4_state (Nat.le_of_ble_eq_true rfl) ?_
  intro p e s m args below meth c A C hd ls hl
  have hx := C.1; have hb := C.2.1; have hml := C.2.2.1; have hts := C.2.2.2.2.1
  have hl : lv_has ls 3 [(0, .ref (a 0)), (1, .int p0)] := hl
  rw [wpX4_state] at hw
  refine lv_aload_n hx hb dX4_state_0 rfl (lv_at hl 0 rfl) ?_
  refine g_get (v := .ref (a 1)) C hd iX4_state_X4 0 4 rfl rfl 0 (by decide) (List.mem_of_getElem? (i := 1) rfl) rfl dX4_state_1 ?_
  refine lv_bipush (v := 20) hx hb dX4_state_4 (by decide) ?_
  refine lv_iload_n hx hb dX4_state_6 rfl (lv_at hl 1 rfl) ?_
  refine lv_iadd hx hb dX4_state_7 ?_
  obtain ⟨h3, hw⟩ := hw
  refine g_ild (f := mo_now μ) C hd 1 rfl h3 dX4_state_8 ?_
  refine lv_istore_n (lv' := [(2, .int ((mo_now μ) (20 + p0).toNatClampNeg)), (0, .ref (a 0)), (1, .int p0)]) hx hb dX4_state_9 rfl hl (by decide) rfl (fun ls hl => ?_)
  refine lv_iload_n hx hb dX4_state_10 rfl (lv_at hl 0 rfl) ?_
  refine lv_aload_n hx hb dX4_state_11 rfl (lv_at hl 1 rfl) ?_
  refine g_get (v := .ref (a 1)) C hd iX4_state_X4 0 4 rfl rfl 0 (by decide) (List.mem_of_getElem? (i := 1) rfl) rfl dX4_state_12 ?_
  refine lv_iconst (v := 0) hx hb dX4_state_15 (by decide) ?_
  obtain ⟨h4, hw⟩ := hw
  refine g_ild (f := mo_now μ) C hd 1 rfl h4 dX4_state_16 ?_
  refine lv_icmp_ge (tgt := 24) hx hb dX4_state_17 (by decide) (fun c3 => ?_) (fun c3 => ?_)
  · replace hw := hw.1 c3
    refine lv_iload_n hx hb dX4_state_24 rfl (lv_at hl 0 rfl) ?_
    refine lv_iconst (v := 2) hx hb dX4_state_25 (by decide) ?_
    refine lv_aload_n hx hb dX4_state_26 rfl (lv_at hl 1 rfl) ?_
    refine g_get (v := .ref (a 1)) C hd iX4_state_X4 0 4 rfl rfl 0 (by decide) (List.mem_of_getElem? (i := 1) rfl) rfl dX4_state_27 ?_
    refine lv_iconst (v := 0) hx hb dX4_state_30 (by decide) ?_
    refine g_ild (f := mo_now μ) C hd 1 rfl h4 dX4_state_31 ?_
    refine lv_imul hx hb dX4_state_32 ?_
    refine lv_icmp_ge (tgt := 40) hx hb dX4_state_33 (by decide) (fun c4 => ?_) (fun c4 => ?_)
    · replace hw := hw.1 c4
      refine lv_iconst (v := 2) hx hb dX4_state_40 (by decide) ?_
      exact r_i C hd dX4_state_41 () rfl hw
    · replace hw := hw.2 c4
      refine lv_iconst (v := 1) hx hb dX4_state_36 (by decide) ?_
      refine lv_goto (tgt := 41) hx hb dX4_state_37 (by decide) ?_
      exact r_i C hd dX4_state_41 () rfl hw
  · replace hw := hw.2 c3
    refine lv_iconst (v := 0) hx hb dX4_state_20 (by decide) ?_
    refine lv_goto (tgt := 41) hx hb dX4_state_21 (by decide) ?_
    exact r_i C hd dX4_state_41 () rfl hw
abbrev rm_X4_serves : Room := { frames := 2, cells := 0, slots := 0, locals := 43 }
theorem M_X4_serves : MI yX4_serves wsX4_serves cX4_serves 3 (some .int) 1 := ⟨⟨_, rfl⟩, by decide +kernel, by decide +kernel, by decide +kernel, by decide +kernel⟩
theorem iX4_serves_X4 : ∀ w ∈ wsX40, w ∈ wsX4_serves := fun _ h => List.mem_cons_of_mem _ (List.mem_append_right _ h)
def wpX4_serves_L2 (μ : MO) (p0 : Int32) (post : Int32 → Prop) : Nat → Int32 → Prop
  | 0, _ => False
  | n + 1, v2l2 => ((64 ≤ v2l2 → post (-5)) ∧ (¬ 64 ≤ v2l2 → wpX4_isAddress μ v2l2 (fun b10 => ((b10 = true → (vp_in (148 + v2l2) 276 ∧ ((((mo_now μ) (148 + v2l2).toNatClampNeg) = p0 → post v2l2) ∧ (¬ ((mo_now μ) (148 + v2l2).toNatClampNeg) = p0 → wpX4_serves_L2 μ p0 post n (v2l2 + 1))))) ∧ (b10 = false → wpX4_serves_L2 μ p0 post n (v2l2 + 1))))))
def wpX4_serves (μ : MO) (p0 : Int32) (post : Int32 → Prop) : Prop := ∃ n : Nat, wpX4_serves_L2 μ p0 post n 0
set_option maxHeartbeats 4000000 in
set_option maxRecDepth 100000 in
theorem c_X4_serves (l : Launch) (B : va_G) (k : KT) (a : Nat → Nat) (μ : MO) (p0 : Int32) (post : Int32 → Prop) (hw : wpX4_serves μ p0 post) : Cti l yX4_serves wsX4_serves rm_X4_serves 0 0 B k [.ref (a 0), .int p0] (wX4 k a μ) (fun _ : Unit => wX4 k a μ) (fun r _ => post r) := by
  refine Cti.of M_X4_serves (Nat.le_of_ble_eq_true rfl) ?_
  intro p e s m args below meth c A C hd ls hl
  have hx := C.1; have hb := C.2.1; have hml := C.2.2.1; have hts := C.2.2.2.2.1
  have hl : lv_has ls 3 [(0, .ref (a 0)), (1, .int p0)] := hl
  have L2 : ∀ (n : Nat), ∀ (v2l2 : Int32) (H : Heap) (locs : List Loc) (ls : Array Slot), Wd B A s.heap (wX4 k a μ) H locs → lv_has ls 3 [(0, .ref (a 0)), (1, .int p0), (2, .int v2l2)] → wpX4_serves_L2 μ p0 post n v2l2 → W p l e rm_X4_serves s m args below meth c H locs 0 0 (Qi below args s B A (fun _ : Unit => wX4 k a μ) (fun r _ => post r) 0 0) (F0 m 2 ls []) := by
    intro n
    induction n with
    | zero => intro v2l2 H locs ls hd hl hw; exact absurd hw (by simp [wpX4_serves_L2])
    | succ n ih =>
      intro v2l2 H locs ls hd hl hw
      rw [wpX4_serves_L2] at hw
      refine lv_iload_n hx hb dX4_serves_2 rfl (lv_at hl 2 rfl) ?_
      refine lv_bipush (v := 64) hx hb dX4_serves_3 (by decide) ?_
      refine lv_icmp_ge (tgt := 38) hx hb dX4_serves_5 (by decide) (fun c13 => ?_) (fun c13 => ?_)
      · replace hw := hw.1 c13
        refine lv_bipush (v := (-5)) hx hb dX4_serves_38 (by decide) ?_
        exact r_i C hd dX4_serves_40 () rfl hw
      · replace hw := hw.2 c13
        refine lv_aload_n hx hb dX4_serves_8 rfl (lv_at hl 0 rfl) ?_
        refine lv_iload_n hx hb dX4_serves_9 rfl (lv_at hl 2 rfl) ?_
        refine v_i C hd hl M_X4_isAddress gX4_serves_X4_isAddress (c_X4_isAddress l B k a μ v2l2 _ hw) ⟨rfl, rfl⟩ ⟨Nat.le_of_ble_eq_true rfl, Nat.le_of_ble_eq_true rfl⟩ (pm_all _) (fun _ => wX4 k a μ) (fun _ => (pm_all _).symm) 0 4 rfl rfl rfl rfl rfl (Nat.le_of_ble_eq_true rfl) dX4_serves_10 ⟨Nat.le_of_ble_eq_true rfl, Nat.le_of_ble_eq_true rfl⟩ (fun r _ H locs hp hd => ?_)
        obtain ⟨b10, rfl, hw⟩ := hp
        refine lv_if_eq (tgt := 32) hx hb dX4_serves_13 (by decide) (fun c15 => ?_) (fun c15 => ?_)
        · replace hw := hw.2 ((bi_eq _).mp c15)
          refine lv_iinc (v := v2l2 + 1) (lv' := [(2, .int (v2l2 + 1)), (0, .ref (a 0)), (1, .int p0)]) hx hb dX4_serves_32 hl (k := 2) rfl rfl (by decide) rfl (fun ls hl => ?_)
          refine lv_goto (tgt := 2) hx hb dX4_serves_35 (by decide) ?_
          exact ih (v2l2 + 1) _ _ _ hd (lv_sub hl [1, 2, 0] rfl) hw
        · replace hw := hw.1 ((bi_ne _).mp c15)
          refine lv_aload_n hx hb dX4_serves_16 rfl (lv_at hl 0 rfl) ?_
          refine g_get (v := .ref (a 1)) C hd iX4_serves_X4 0 4 rfl rfl 0 (by decide) (List.mem_of_getElem? (i := 1) rfl) rfl dX4_serves_17 ?_
          refine lv_sipush (v := 148) hx hb dX4_serves_20 (by decide) ?_
          refine lv_iload_n hx hb dX4_serves_23 rfl (lv_at hl 2 rfl) ?_
          refine lv_iadd hx hb dX4_serves_24 ?_
          obtain ⟨h5, hw⟩ := hw
          refine g_ild (f := mo_now μ) C hd 1 rfl h5 dX4_serves_25 ?_
          refine lv_iload_n hx hb dX4_serves_26 rfl (lv_at hl 1 rfl) ?_
          refine lv_icmp_ne (tgt := 32) hx hb dX4_serves_27 (by decide) (fun c14 => ?_) (fun c14 => ?_)
          · replace hw := hw.2 c14
            refine lv_iinc (v := v2l2 + 1) (lv' := [(2, .int (v2l2 + 1)), (0, .ref (a 0)), (1, .int p0)]) hx hb dX4_serves_32 hl (k := 2) rfl rfl (by decide) rfl (fun ls hl => ?_)
            refine lv_goto (tgt := 2) hx hb dX4_serves_35 (by decide) ?_
            exact ih (v2l2 + 1) _ _ _ hd (lv_sub hl [1, 2, 0] rfl) hw
          · replace hw := hw.1 c14
            refine lv_iload_n hx hb dX4_serves_30 rfl (lv_at hl 2 rfl) ?_
            exact r_i C hd dX4_serves_31 () rfl hw
  rw [wpX4_serves] at hw
  refine lv_iconst (v := 0) hx hb dX4_serves_0 (by decide) ?_
  refine lv_istore_n (lv' := [(2, .int 0), (0, .ref (a 0)), (1, .int p0)]) hx hb dX4_serves_1 rfl hl (by decide) rfl (fun ls hl => ?_)
  obtain ⟨n, hw⟩ := hw
  exact L2 n 0 _ _ _ hd (lv_sub hl [1, 2, 0] rfl) hw
abbrev rm_X4_isFree : Room := { frames := 3, cells := 0, slots := 0, locals := 65 }
theorem M_X4_isFree : MI yX4_isFree wsX4_isFree cX4_isFree 2 (some .boolean) 1 := ⟨⟨_, rfl⟩, by decide +kernel, by decide +kernel, by decide +kernel, by decide +kernel⟩
theorem iX4_isFree_X4 : ∀ w ∈ wsX40, w ∈ wsX4_isFree := fun _ h => List.mem_cons_of_mem _ (List.mem_append_right _ h)
def wpX4_isFree (μ : MO) (p0 : Int32) (post : Bool → Prop) : Prop := wpX4_isSpare μ p0 (fun b2 => ((b2 = true → (vp_in (16 + (p0 / 16)) 276 ∧ ((((mo_now μ) (16 + (p0 / 16)).toNatClampNeg) = 0 → wpX4_state μ p0 (fun r25 => ((r25 = 0 → wpX4_serves μ p0 (fun r33 => ((r33 = (-5) → post true) ∧ (¬ r33 = (-5) → post false)))) ∧ (¬ r25 = 0 → post false)))) ∧ (¬ ((mo_now μ) (16 + (p0 / 16)).toNatClampNeg) = 0 → post false)))) ∧ (b2 = false → post false)))
set_option maxHeartbeats 4000000 in
set_option maxRecDepth 100000 in
theorem c_X4_isFree (l : Launch) (B : va_G) (k : KT) (a : Nat → Nat) (μ : MO) (p0 : Int32) (post : Bool → Prop) (hw : wpX4_isFree μ p0 post) : Cti l yX4_isFree wsX4_isFree rm_X4_isFree 0 0 B k [.ref (a 0), .int p0] (wX4 k a μ) (fun _ : Unit => wX4 k a μ) (bpost fun b _ => post b) := by
  refine Cti.of M_X4_isFree (Nat.le_of_ble_eq_true rfl) ?_
  intro p e s m args below meth c A C hd ls hl
  have hx := C.1; have hb := C.2.1; have hml := C.2.2.1; have hts := C.2.2.2.2.1
  have hl : lv_has ls 2 [(0, .ref (a 0)), (1, .int p0)] := hl
  rw [wpX4_isFree] at hw
  refine lv_aload_n hx hb dX4_isFree_0 rfl (lv_at hl 0 rfl) ?_
  refine lv_iload_n hx hb dX4_isFree_1 rfl (lv_at hl 1 rfl) ?_
  refine v_i C hd hl M_X4_isSpare gX4_isFree_X4_isSpare (c_X4_isSpare l B k a μ p0 _ hw) ⟨rfl, rfl⟩ ⟨Nat.le_of_ble_eq_true rfl, Nat.le_of_ble_eq_true rfl⟩ (pm_all _) (fun _ => wX4 k a μ) (fun _ => (pm_all _).symm) 0 4 rfl rfl rfl rfl rfl (Nat.le_of_ble_eq_true rfl) dX4_isFree_2 ⟨Nat.le_of_ble_eq_true rfl, Nat.le_of_ble_eq_true rfl⟩ (fun r _ H locs hp hd => ?_)
  obtain ⟨b2, rfl, hw⟩ := hp
  refine lv_if_eq (tgt := 45) hx hb dX4_isFree_5 (by decide) (fun c8 => ?_) (fun c8 => ?_)
  · replace hw := hw.2 ((bi_eq _).mp c8)
    refine lv_iconst (v := 0) hx hb dX4_isFree_45 (by decide) ?_
    exact r_z false C hd dX4_isFree_46 () rfl hw
  · replace hw := hw.1 ((bi_ne _).mp c8)
    refine lv_aload_n hx hb dX4_isFree_8 rfl (lv_at hl 0 rfl) ?_
    refine g_get (v := .ref (a 1)) C hd iX4_isFree_X4 0 4 rfl rfl 0 (by decide) (List.mem_of_getElem? (i := 1) rfl) rfl dX4_isFree_9 ?_
    refine lv_bipush (v := 16) hx hb dX4_isFree_12 (by decide) ?_
    refine lv_iload_n hx hb dX4_isFree_14 rfl (lv_at hl 1 rfl) ?_
    refine lv_bipush (v := 16) hx hb dX4_isFree_15 (by decide) ?_
    refine lv_idiv hx hb dX4_isFree_17 (by decide) ?_
    refine lv_iadd hx hb dX4_isFree_18 ?_
    obtain ⟨h2, hw⟩ := hw
    refine g_ild (f := mo_now μ) C hd 1 rfl h2 dX4_isFree_19 ?_
    refine lv_if_ne (tgt := 45) hx hb dX4_isFree_20 (by decide) (fun c5 => ?_) (fun c5 => ?_)
    · replace hw := hw.2 c5
      refine lv_iconst (v := 0) hx hb dX4_isFree_45 (by decide) ?_
      exact r_z false C hd dX4_isFree_46 () rfl hw
    · replace hw := hw.1 c5
      refine lv_aload_n hx hb dX4_isFree_23 rfl (lv_at hl 0 rfl) ?_
      refine lv_iload_n hx hb dX4_isFree_24 rfl (lv_at hl 1 rfl) ?_
      refine v_i C hd hl M_X4_state gX4_isFree_X4_state (c_X4_state l B k a μ p0 _ hw) ⟨rfl, rfl⟩ ⟨Nat.le_of_ble_eq_true rfl, Nat.le_of_ble_eq_true rfl⟩ (pm_all _) (fun _ => wX4 k a μ) (fun _ => (pm_all _).symm) 0 4 rfl rfl rfl rfl rfl (Nat.le_of_ble_eq_true rfl) dX4_isFree_25 ⟨Nat.le_of_ble_eq_true rfl, Nat.le_of_ble_eq_true rfl⟩ (fun r25 _ H locs hw hd => ?_)
      refine lv_if_ne (tgt := 45) hx hb dX4_isFree_28 (by decide) (fun c6 => ?_) (fun c6 => ?_)
      · replace hw := hw.2 c6
        refine lv_iconst (v := 0) hx hb dX4_isFree_45 (by decide) ?_
        exact r_z false C hd dX4_isFree_46 () rfl hw
      · replace hw := hw.1 c6
        refine lv_aload_n hx hb dX4_isFree_31 rfl (lv_at hl 0 rfl) ?_
        refine lv_iload_n hx hb dX4_isFree_32 rfl (lv_at hl 1 rfl) ?_
        refine v_i C hd hl M_X4_serves gX4_isFree_X4_serves (c_X4_serves l B k a μ p0 _ hw) ⟨rfl, rfl⟩ ⟨Nat.le_of_ble_eq_true rfl, Nat.le_of_ble_eq_true rfl⟩ (pm_all _) (fun _ => wX4 k a μ) (fun _ => (pm_all _).symm) 0 4 rfl rfl rfl rfl rfl (Nat.le_of_ble_eq_true rfl) dX4_isFree_33 ⟨Nat.le_of_ble_eq_true rfl, Nat.le_of_ble_eq_true rfl⟩ (fun r33 _ H locs hw hd => ?_)
        refine lv_bipush (v := (-5)) hx hb dX4_isFree_36 (by decide) ?_
        refine lv_icmp_ne (tgt := 45) hx hb dX4_isFree_38 (by decide) (fun c7 => ?_) (fun c7 => ?_)
        · replace hw := hw.2 c7
          refine lv_iconst (v := 0) hx hb dX4_isFree_45 (by decide) ?_
          exact r_z false C hd dX4_isFree_46 () rfl hw
        · replace hw := hw.1 c7
          refine lv_iconst (v := 1) hx hb dX4_isFree_41 (by decide) ?_
          refine lv_goto (tgt := 46) hx hb dX4_isFree_42 (by decide) ?_
          exact r_z true C hd dX4_isFree_46 () rfl hw
abbrev rm_X4_frees : Room := { frames := 4, cells := 0, slots := 0, locals := 86 }
theorem M_X4_frees : MI yX4_frees wsX4_frees cX4_frees 4 (some .int) 1 := ⟨⟨_, rfl⟩, by decide +kernel, by decide +kernel, by decide +kernel, by decide +kernel⟩
theorem iX4_frees_X4 : ∀ w ∈ wsX40, w ∈ wsX4_frees := fun _ h => List.mem_cons_of_mem _ (List.mem_append_right _ h)
def wpX4_frees_J29 (v4l2 : Int32) (v4l3 : Int32) (post : Int32 → Prop) (κ : Int32 → Int32 → Prop) (v29s1 : Bool) : Prop := κ (v4l2 + (bi v29s1)) (v4l3 + 1)
def wpX4_frees_L4 (μ : MO) (p0 : Int32) (post : Int32 → Prop) : Nat → Int32 → Int32 → Prop
  | 0, _, _ => False
  | n + 1, v4l2, v4l3 => ((16 ≤ v4l3 → post v4l2) ∧ (¬ 16 ≤ v4l3 → wpX4_isFree μ ((16 * p0) + v4l3) (fun b18 => ((b18 = true → wpX4_frees_J29 v4l2 v4l3 post (wpX4_frees_L4 μ p0 post n) true) ∧ (b18 = false → wpX4_frees_J29 v4l2 v4l3 post (wpX4_frees_L4 μ p0 post n) false)))))
def wpX4_frees (μ : MO) (p0 : Int32) (post : Int32 → Prop) : Prop := ∃ n : Nat, wpX4_frees_L4 μ p0 post n 0 0
set_option maxHeartbeats 4000000 in
set_option maxRecDepth 100000 in
theorem c_X4_frees (l : Launch) (B : va_G) (k : KT) (a : Nat → Nat) (μ : MO) (p0 : Int32) (post : Int32 → Prop) (hw : wpX4_frees μ p0 post) : Cti l yX4_frees wsX4_frees rm_X4_frees 0 0 B k [.ref (a 0), .int p0] (wX4 k a μ) (fun _ : Unit => wX4 k a μ) (fun r _ => post r) := by
  refine Cti.of M_X4_frees (Nat.le_of_ble_eq_true rfl) ?_
  intro p e s m args below meth c A C hd ls hl
  have hx := C.1; have hb := C.2.1; have hml := C.2.2.1; have hts := C.2.2.2.2.1
  have hl : lv_has ls 4 [(0, .ref (a 0)), (1, .int p0)] := hl
  have L4 : ∀ (n : Nat), ∀ (v4l2 : Int32) (v4l3 : Int32) (H : Heap) (locs : List Loc) (ls : Array Slot), Wd B A s.heap (wX4 k a μ) H locs → lv_has ls 4 [(0, .ref (a 0)), (1, .int p0), (2, .int v4l2), (3, .int v4l3)] → wpX4_frees_L4 μ p0 post n v4l2 v4l3 → W p l e rm_X4_frees s m args below meth c H locs 0 0 (Qi below args s B A (fun _ : Unit => wX4 k a μ) (fun r _ => post r) 0 0) (F0 m 4 ls []) := by
    intro n
    induction n with
    | zero => intro v4l2 v4l3 H locs ls hd hl hw; exact absurd hw (by simp [wpX4_frees_L4])
    | succ n ih =>
      intro v4l2 v4l3 H locs ls hd hl hw
      rw [wpX4_frees_L4] at hw
      have J29 : ∀ (v4l2 : Int32) (v4l3 : Int32) (v29s1 : Bool) (H : Heap) (locs : List Loc) (ls : Array Slot), Wd B A s.heap (wX4 k a μ) H locs → lv_has ls 4 [(0, .ref (a 0)), (1, .int p0), (3, .int v4l3)] → wpX4_frees_J29 v4l2 v4l3 post (wpX4_frees_L4 μ p0 post n) v29s1 → W p l e rm_X4_frees s m args below meth c H locs 0 0 (Qi below args s B A (fun _ : Unit => wX4 k a μ) (fun r _ => post r) 0 0) (F0 m 29 ls [.int (bi v29s1), .int v4l2]) := by
        intro v4l2 v4l3 v29s1 H locs ls hd hl hw
        rw [wpX4_frees_J29] at hw
        refine lv_iadd hx hb dX4_frees_29 ?_
        refine lv_istore_n (lv' := [(2, .int (v4l2 + (bi v29s1))), (0, .ref (a 0)), (1, .int p0), (3, .int v4l3)]) hx hb dX4_frees_30 rfl hl (by decide) rfl (fun ls hl => ?_)
        refine lv_iinc (v := v4l3 + 1) (lv' := [(3, .int (v4l3 + 1)), (2, .int (v4l2 + (bi v29s1))), (0, .ref (a 0)), (1, .int p0)]) hx hb dX4_frees_31 hl (k := 3) rfl rfl (by decide) rfl (fun ls hl => ?_)
        refine lv_goto (tgt := 4) hx hb dX4_frees_34 (by decide) ?_
        exact ih (v4l2 + (bi v29s1)) (v4l3 + 1) _ _ _ hd (lv_sub hl [2, 3, 1, 0] rfl) hw
      refine lv_iload_n hx hb dX4_frees_4 rfl (lv_at hl 3 rfl) ?_
      refine lv_bipush (v := 16) hx hb dX4_frees_5 (by decide) ?_
      refine lv_icmp_ge (tgt := 37) hx hb dX4_frees_7 (by decide) (fun c9 => ?_) (fun c9 => ?_)
      · replace hw := hw.1 c9
        refine lv_iload_n hx hb dX4_frees_37 rfl (lv_at hl 2 rfl) ?_
        exact r_i C hd dX4_frees_38 () rfl hw
      · replace hw := hw.2 c9
        refine lv_iload_n hx hb dX4_frees_10 rfl (lv_at hl 2 rfl) ?_
        refine lv_aload_n hx hb dX4_frees_11 rfl (lv_at hl 0 rfl) ?_
        refine lv_bipush (v := 16) hx hb dX4_frees_12 (by decide) ?_
        refine lv_iload_n hx hb dX4_frees_14 rfl (lv_at hl 1 rfl) ?_
        refine lv_imul hx hb dX4_frees_15 ?_
        refine lv_iload_n hx hb dX4_frees_16 rfl (lv_at hl 3 rfl) ?_
        refine lv_iadd hx hb dX4_frees_17 ?_
        refine v_i C hd hl M_X4_isFree gX4_frees_X4_isFree (c_X4_isFree l B k a μ ((16 * p0) + v4l3) _ hw) ⟨rfl, rfl⟩ ⟨Nat.le_of_ble_eq_true rfl, Nat.le_of_ble_eq_true rfl⟩ (pm_all _) (fun _ => wX4 k a μ) (fun _ => (pm_all _).symm) 0 4 rfl rfl rfl rfl rfl (Nat.le_of_ble_eq_true rfl) dX4_frees_18 ⟨Nat.le_of_ble_eq_true rfl, Nat.le_of_ble_eq_true rfl⟩ (fun r _ H locs hp hd => ?_)
        obtain ⟨b18, rfl, hw⟩ := hp
        refine lv_if_eq (tgt := 28) hx hb dX4_frees_21 (by decide) (fun c10 => ?_) (fun c10 => ?_)
        · replace hw := hw.2 ((bi_eq _).mp c10)
          refine lv_iconst (v := 0) hx hb dX4_frees_28 (by decide) ?_
          exact J29 v4l2 v4l3 false _ _ _ hd (lv_sub hl [0, 1, 3] rfl) hw
        · replace hw := hw.1 ((bi_ne _).mp c10)
          refine lv_iconst (v := 1) hx hb dX4_frees_24 (by decide) ?_
          refine lv_goto (tgt := 29) hx hb dX4_frees_25 (by decide) ?_
          exact J29 v4l2 v4l3 true _ _ _ hd (lv_sub hl [0, 1, 3] rfl) hw
  rw [wpX4_frees] at hw
  refine lv_iconst (v := 0) hx hb dX4_frees_0 (by decide) ?_
  refine lv_istore_n (lv' := [(2, .int 0), (0, .ref (a 0)), (1, .int p0)]) hx hb dX4_frees_1 rfl hl (by decide) rfl (fun ls hl => ?_)
  refine lv_iconst (v := 0) hx hb dX4_frees_2 (by decide) ?_
  refine lv_istore_n (lv' := [(3, .int 0), (2, .int 0), (0, .ref (a 0)), (1, .int p0)]) hx hb dX4_frees_3 rfl hl (by decide) rfl (fun ls hl => ?_)
  obtain ⟨n, hw⟩ := hw
  exact L4 n 0 0 _ _ _ hd (lv_sub hl [2, 3, 1, 0] rfl) hw
abbrev rm_X4_firstFree : Room := { frames := 4, cells := 0, slots := 0, locals := 86 }
theorem M_X4_firstFree : MI yX4_firstFree wsX4_firstFree cX4_firstFree 3 (some .int) 1 := ⟨⟨_, rfl⟩, by decide +kernel, by decide +kernel, by decide +kernel, by decide +kernel⟩
theorem iX4_firstFree_X4 : ∀ w ∈ wsX40, w ∈ wsX4_firstFree := fun _ h => List.mem_cons_of_mem _ (List.mem_append_right _ h)
def wpX4_firstFree_L2 (μ : MO) (p0 : Int32) (post : Int32 → Prop) : Nat → Int32 → Prop
  | 0, _ => False
  | n + 1, v2l2 => ((16 ≤ v2l2 → post (-5)) ∧ (¬ 16 ≤ v2l2 → wpX4_isFree μ ((16 * p0) + v2l2) (fun b15 => ((b15 = true → post ((16 * p0) + v2l2)) ∧ (b15 = false → wpX4_firstFree_L2 μ p0 post n (v2l2 + 1))))))
def wpX4_firstFree (μ : MO) (p0 : Int32) (post : Int32 → Prop) : Prop := ∃ n : Nat, wpX4_firstFree_L2 μ p0 post n 0
set_option maxHeartbeats 4000000 in
set_option maxRecDepth 100000 in
theorem c_X4_firstFree (l : Launch) (B : va_G) (k : KT) (a : Nat → Nat) (μ : MO) (p0 : Int32) (post : Int32 → Prop) (hw : wpX4_firstFree μ p0 post) : Cti l yX4_firstFree wsX4_firstFree rm_X4_firstFree 0 0 B k [.ref (a 0), .int p0] (wX4 k a μ) (fun _ : Unit => wX4 k a μ) (fun r _ => post r) := by
  refine Cti.of M_X4_firstFree (Nat.le_of_ble_eq_true rfl) ?_
  intro p e s m args below meth c A C hd ls hl
  have hx := C.1; have hb := C.2.1; have hml := C.2.2.1; have hts := C.2.2.2.2.1
  have hl : lv_has ls 3 [(0, .ref (a 0)), (1, .int p0)] := hl
  have L2 : ∀ (n : Nat), ∀ (v2l2 : Int32) (H : Heap) (locs : List Loc) (ls : Array Slot), Wd B A s.heap (wX4 k a μ) H locs → lv_has ls 3 [(0, .ref (a 0)), (1, .int p0), (2, .int v2l2)] → wpX4_firstFree_L2 μ p0 post n v2l2 → W p l e rm_X4_firstFree s m args below meth c H locs 0 0 (Qi below args s B A (fun _ : Unit => wX4 k a μ) (fun r _ => post r) 0 0) (F0 m 2 ls []) := by
    intro n
    induction n with
    | zero => intro v2l2 H locs ls hd hl hw; exact absurd hw (by simp [wpX4_firstFree_L2])
    | succ n ih =>
      intro v2l2 H locs ls hd hl hw
      rw [wpX4_firstFree_L2] at hw
      refine lv_iload_n hx hb dX4_firstFree_2 rfl (lv_at hl 2 rfl) ?_
      refine lv_bipush (v := 16) hx hb dX4_firstFree_3 (by decide) ?_
      refine lv_icmp_ge (tgt := 34) hx hb dX4_firstFree_5 (by decide) (fun c9 => ?_) (fun c9 => ?_)
      · replace hw := hw.1 c9
        refine lv_bipush (v := (-5)) hx hb dX4_firstFree_34 (by decide) ?_
        exact r_i C hd dX4_firstFree_36 () rfl hw
      · replace hw := hw.2 c9
        refine lv_aload_n hx hb dX4_firstFree_8 rfl (lv_at hl 0 rfl) ?_
        refine lv_bipush (v := 16) hx hb dX4_firstFree_9 (by decide) ?_
        refine lv_iload_n hx hb dX4_firstFree_11 rfl (lv_at hl 1 rfl) ?_
        refine lv_imul hx hb dX4_firstFree_12 ?_
        refine lv_iload_n hx hb dX4_firstFree_13 rfl (lv_at hl 2 rfl) ?_
        refine lv_iadd hx hb dX4_firstFree_14 ?_
        refine v_i C hd hl M_X4_isFree gX4_firstFree_X4_isFree (c_X4_isFree l B k a μ ((16 * p0) + v2l2) _ hw) ⟨rfl, rfl⟩ ⟨Nat.le_of_ble_eq_true rfl, Nat.le_of_ble_eq_true rfl⟩ (pm_all _) (fun _ => wX4 k a μ) (fun _ => (pm_all _).symm) 0 4 rfl rfl rfl rfl rfl (Nat.le_of_ble_eq_true rfl) dX4_firstFree_15 ⟨Nat.le_of_ble_eq_true rfl, Nat.le_of_ble_eq_true rfl⟩ (fun r _ H locs hp hd => ?_)
        obtain ⟨b15, rfl, hw⟩ := hp
        refine lv_if_eq (tgt := 28) hx hb dX4_firstFree_18 (by decide) (fun c10 => ?_) (fun c10 => ?_)
        · replace hw := hw.2 ((bi_eq _).mp c10)
          refine lv_iinc (v := v2l2 + 1) (lv' := [(2, .int (v2l2 + 1)), (0, .ref (a 0)), (1, .int p0)]) hx hb dX4_firstFree_28 hl (k := 2) rfl rfl (by decide) rfl (fun ls hl => ?_)
          refine lv_goto (tgt := 2) hx hb dX4_firstFree_31 (by decide) ?_
          exact ih (v2l2 + 1) _ _ _ hd (lv_sub hl [1, 2, 0] rfl) hw
        · replace hw := hw.1 ((bi_ne _).mp c10)
          refine lv_bipush (v := 16) hx hb dX4_firstFree_21 (by decide) ?_
          refine lv_iload_n hx hb dX4_firstFree_23 rfl (lv_at hl 1 rfl) ?_
          refine lv_imul hx hb dX4_firstFree_24 ?_
          refine lv_iload_n hx hb dX4_firstFree_25 rfl (lv_at hl 2 rfl) ?_
          refine lv_iadd hx hb dX4_firstFree_26 ?_
          exact r_i C hd dX4_firstFree_27 () rfl hw
  rw [wpX4_firstFree] at hw
  refine lv_iconst (v := 0) hx hb dX4_firstFree_0 (by decide) ?_
  refine lv_istore_n (lv' := [(2, .int 0), (0, .ref (a 0)), (1, .int p0)]) hx hb dX4_firstFree_1 rfl hl (by decide) rfl (fun ls hl => ?_)
  obtain ⟨n, hw⟩ := hw
  exact L2 n 0 _ _ _ hd (lv_sub hl [1, 2, 0] rfl) hw
abbrev rm_X4_lends : Room := { frames := 5, cells := 0, slots := 0, locals := 109 }
theorem M_X4_lends : MI yX4_lends wsX4_lends cX4_lends 5 (some .int) 1 := ⟨⟨_, rfl⟩, by decide +kernel, by decide +kernel, by decide +kernel, by decide +kernel⟩
theorem iX4_lends_X4 : ∀ w ∈ wsX40, w ∈ wsX4_lends := fun _ h => List.mem_cons_of_mem _ (List.mem_append_right _ h)
def wpX4_lends_L22 (μ : MO) (post : Int32 → Prop) : Nat → Int32 → Int32 → Prop
  | 0, _, _ => False
  | n + 1, v22l3, v22l4 => ((4 ≤ v22l4 → wpX4_firstFree μ v22l3 (fun r57 => post r57)) ∧ (¬ 4 ≤ v22l4 → wpX4_frees μ v22l4 (fun r31 => wpX4_frees μ v22l3 (fun r36 => ((r31 ≤ r36 → wpX4_lends_L22 μ post n v22l3 (v22l4 + 1)) ∧ (¬ r31 ≤ r36 → wpX4_lends_L22 μ post n v22l4 (v22l4 + 1)))))))
def wpX4_lends (μ : MO) (p0 : Int32) (post : Int32 → Prop) : Prop := wpX4_firstFree μ (p0 / 16) (fun r5 => ((r5 = (-5) → ∃ n : Nat, wpX4_lends_L22 μ post n 0 1) ∧ (¬ r5 = (-5) → post r5)))
set_option maxHeartbeats 4000000 in
set_option maxRecDepth 100000 in
theorem c_X4_lends (l : Launch) (B : va_G) (k : KT) (a : Nat → Nat) (μ : MO) (p0 : Int32) (post : Int32 → Prop) (hw : wpX4_lends μ p0 post) : Cti l yX4_lends wsX4_lends rm_X4_lends 0 0 B k [.ref (a 0), .int p0] (wX4 k a μ) (fun _ : Unit => wX4 k a μ) (fun r _ => post r) := by
  refine Cti.of M_X4_lends (Nat.le_of_ble_eq_true rfl) ?_
  intro p e s m args below meth c A C hd ls hl
  have hx := C.1; have hb := C.2.1; have hml := C.2.2.1; have hts := C.2.2.2.2.1
  have hl : lv_has ls 5 [(0, .ref (a 0)), (1, .int p0)] := hl
  have L22 : ∀ (n : Nat), ∀ (v22l3 : Int32) (v22l4 : Int32) (H : Heap) (locs : List Loc) (ls : Array Slot), Wd B A s.heap (wX4 k a μ) H locs → lv_has ls 5 [(0, .ref (a 0)), (3, .int v22l3), (4, .int v22l4)] → wpX4_lends_L22 μ post n v22l3 v22l4 → W p l e rm_X4_lends s m args below meth c H locs 0 0 (Qi below args s B A (fun _ : Unit => wX4 k a μ) (fun r _ => post r) 0 0) (F0 m 22 ls []) := by
    intro n
    induction n with
    | zero => intro v22l3 v22l4 H locs ls hd hl hw; exact absurd hw (by simp [wpX4_lends_L22])
    | succ n ih =>
      intro v22l3 v22l4 H locs ls hd hl hw
      rw [wpX4_lends_L22] at hw
      refine lv_iload hx hb dX4_lends_22 (lv_at hl 2 rfl) ?_
      refine lv_iconst (v := 4) hx hb dX4_lends_24 (by decide) ?_
      refine lv_icmp_ge (tgt := 55) hx hb dX4_lends_25 (by decide) (fun c10 => ?_) (fun c10 => ?_)
      · replace hw := hw.1 c10
        refine lv_aload_n hx hb dX4_lends_55 rfl (lv_at hl 0 rfl) ?_
        refine lv_iload_n hx hb dX4_lends_56 rfl (lv_at hl 1 rfl) ?_
        refine v_i C hd hl M_X4_firstFree gX4_lends_X4_firstFree (c_X4_firstFree l B k a μ v22l3 _ hw) ⟨rfl, rfl⟩ ⟨Nat.le_of_ble_eq_true rfl, Nat.le_of_ble_eq_true rfl⟩ (pm_all _) (fun _ => wX4 k a μ) (fun _ => (pm_all _).symm) 0 4 rfl rfl rfl rfl rfl (Nat.le_of_ble_eq_true rfl) dX4_lends_57 ⟨Nat.le_of_ble_eq_true rfl, Nat.le_of_ble_eq_true rfl⟩ (fun r57 _ H locs hw hd => ?_)
        exact r_i C hd dX4_lends_60 () rfl hw
      · replace hw := hw.2 c10
        refine lv_aload_n hx hb dX4_lends_28 rfl (lv_at hl 0 rfl) ?_
        refine lv_iload hx hb dX4_lends_29 (lv_at hl 2 rfl) ?_
        refine v_i C hd hl M_X4_frees gX4_lends_X4_frees (c_X4_frees l B k a μ v22l4 _ hw) ⟨rfl, rfl⟩ ⟨Nat.le_of_ble_eq_true rfl, Nat.le_of_ble_eq_true rfl⟩ (pm_all _) (fun _ => wX4 k a μ) (fun _ => (pm_all _).symm) 0 4 rfl rfl rfl rfl rfl (Nat.le_of_ble_eq_true rfl) dX4_lends_31 ⟨Nat.le_of_ble_eq_true rfl, Nat.le_of_ble_eq_true rfl⟩ (fun r31 _ H locs hw hd => ?_)
        refine lv_aload_n hx hb dX4_lends_34 rfl (lv_at hl 0 rfl) ?_
        refine lv_iload_n hx hb dX4_lends_35 rfl (lv_at hl 1 rfl) ?_
        refine v_i C hd hl M_X4_frees gX4_lends_X4_frees (c_X4_frees l B k a μ v22l3 _ hw) ⟨rfl, rfl⟩ ⟨Nat.le_of_ble_eq_true rfl, Nat.le_of_ble_eq_true rfl⟩ (pm_all _) (fun _ => wX4 k a μ) (fun _ => (pm_all _).symm) 0 4 rfl rfl rfl rfl rfl (Nat.le_of_ble_eq_true rfl) dX4_lends_36 ⟨Nat.le_of_ble_eq_true rfl, Nat.le_of_ble_eq_true rfl⟩ (fun r36 _ H locs hw hd => ?_)
        refine lv_icmp_le (tgt := 47) hx hb dX4_lends_39 (by decide) (fun c11 => ?_) (fun c11 => ?_)
        · replace hw := hw.1 c11
          refine lv_iload_n hx hb dX4_lends_47 rfl (lv_at hl 1 rfl) ?_
          refine lv_istore_n (lv' := [(3, .int v22l3), (0, .ref (a 0)), (4, .int v22l4)]) hx hb dX4_lends_48 rfl hl (by decide) rfl (fun ls hl => ?_)
          refine lv_iinc (v := v22l4 + 1) (lv' := [(4, .int (v22l4 + 1)), (3, .int v22l3), (0, .ref (a 0))]) hx hb dX4_lends_49 hl (k := 2) rfl rfl (by decide) rfl (fun ls hl => ?_)
          refine lv_goto (tgt := 22) hx hb dX4_lends_52 (by decide) ?_
          exact ih v22l3 (v22l4 + 1) _ _ _ hd (lv_sub hl [2, 1, 0] rfl) hw
        · replace hw := hw.2 c11
          refine lv_iload hx hb dX4_lends_42 (lv_at hl 2 rfl) ?_
          refine lv_goto (tgt := 48) hx hb dX4_lends_44 (by decide) ?_
          refine lv_istore_n (lv' := [(3, .int v22l4), (0, .ref (a 0)), (4, .int v22l4)]) hx hb dX4_lends_48 rfl hl (by decide) rfl (fun ls hl => ?_)
          refine lv_iinc (v := v22l4 + 1) (lv' := [(4, .int (v22l4 + 1)), (3, .int v22l4), (0, .ref (a 0))]) hx hb dX4_lends_49 hl (k := 2) rfl rfl (by decide) rfl (fun ls hl => ?_)
          refine lv_goto (tgt := 22) hx hb dX4_lends_52 (by decide) ?_
          exact ih v22l4 (v22l4 + 1) _ _ _ hd (lv_sub hl [2, 1, 0] rfl) hw
  rw [wpX4_lends] at hw
  refine lv_aload_n hx hb dX4_lends_0 rfl (lv_at hl 0 rfl) ?_
  refine lv_iload_n hx hb dX4_lends_1 rfl (lv_at hl 1 rfl) ?_
  refine lv_bipush (v := 16) hx hb dX4_lends_2 (by decide) ?_
  refine lv_idiv hx hb dX4_lends_4 (by decide) ?_
  refine v_i C hd hl M_X4_firstFree gX4_lends_X4_firstFree (c_X4_firstFree l B k a μ (p0 / 16) _ hw) ⟨rfl, rfl⟩ ⟨Nat.le_of_ble_eq_true rfl, Nat.le_of_ble_eq_true rfl⟩ (pm_all _) (fun _ => wX4 k a μ) (fun _ => (pm_all _).symm) 0 4 rfl rfl rfl rfl rfl (Nat.le_of_ble_eq_true rfl) dX4_lends_5 ⟨Nat.le_of_ble_eq_true rfl, Nat.le_of_ble_eq_true rfl⟩ (fun r5 _ H locs hw hd => ?_)
  refine lv_istore_n (lv' := [(2, .int r5), (0, .ref (a 0)), (1, .int p0)]) hx hb dX4_lends_8 rfl hl (by decide) rfl (fun ls hl => ?_)
  refine lv_iload_n hx hb dX4_lends_9 rfl (lv_at hl 0 rfl) ?_
  refine lv_bipush (v := (-5)) hx hb dX4_lends_10 (by decide) ?_
  refine lv_icmp_eq (tgt := 17) hx hb dX4_lends_12 (by decide) (fun c12 => ?_) (fun c12 => ?_)
  · replace hw := hw.1 c12
    refine lv_iconst (v := 0) hx hb dX4_lends_17 (by decide) ?_
    refine lv_istore_n (lv' := [(3, .int 0), (2, .int r5), (0, .ref (a 0)), (1, .int p0)]) hx hb dX4_lends_18 rfl hl (by decide) rfl (fun ls hl => ?_)
    refine lv_iconst (v := 1) hx hb dX4_lends_19 (by decide) ?_
    refine lv_istore (lv' := [(4, .int 1), (3, .int 0), (2, .int r5), (0, .ref (a 0)), (1, .int p0)]) hx hb dX4_lends_20 hl (by decide) rfl (fun ls hl => ?_)
    obtain ⟨n, hw⟩ := hw
    exact L22 n 0 1 _ _ _ hd (lv_sub hl [3, 1, 0] rfl) hw
  · replace hw := hw.2 c12
    refine lv_iload_n hx hb dX4_lends_15 rfl (lv_at hl 0 rfl) ?_
    exact r_i C hd dX4_lends_16 () rfl hw
abbrev rm_X4_wears : Room := { frames := 0, cells := 0, slots := 0, locals := 0 }
theorem M_X4_wears : MI yX4_wears wsX4_wears cX4_wears 4 none 2 := ⟨⟨_, rfl⟩, by decide +kernel, by decide +kernel, by decide +kernel, by decide +kernel⟩
theorem iX4_wears_X4 : ∀ w ∈ wsX40, w ∈ wsX4_wears := fun _ h => List.mem_cons_of_mem _ (List.mem_append_right _ h)
def wpX4_wears_J53 (μ : MO) (p0 : Int32) (post : MO → Prop) (v53s2 : Int32) : Prop := (vp_in (20 + p0) 276 ∧ post (mo_setNow μ (upd (mo_now μ) (20 + p0).toNatClampNeg v53s2)))
def wpX4_wears_J30 (μ : MO) (p0 : Int32) (post : MO → Prop) (v30s2 : Int32) : Prop := (((((mo_now μ) (20 + p0).toNatClampNeg) + (((mo_now μ) (8 + (p0 / 16)).toNatClampNeg) * v30s2)) ≤ 99999 → wpX4_wears_J53 μ p0 post (((mo_now μ) (20 + p0).toNatClampNeg) + (((mo_now μ) (8 + (p0 / 16)).toNatClampNeg) * v30s2))) ∧ (¬ (((mo_now μ) (20 + p0).toNatClampNeg) + (((mo_now μ) (8 + (p0 / 16)).toNatClampNeg) * v30s2)) ≤ 99999 → wpX4_wears_J53 μ p0 post 99999))
def wpX4_wears (μ : MO) (p0 : Int32) (p1 : Int32) (post : MO → Prop) : Prop := (vp_in (20 + p0) 276 ∧ (vp_in (8 + (p0 / 16)) 276 ∧ ((p1 = 0 → wpX4_wears_J30 μ p0 post 1) ∧ (¬ p1 = 0 → wpX4_wears_J30 μ p0 post 2))))
set_option maxHeartbeats 4000000 in
set_option maxRecDepth 100000 in
theorem c_X4_wears (l : Launch) (B : va_G) (k : KT) (a : Nat → Nat) (μ : MO) (p0 : Int32) (p1 : Int32) (post : MO → Prop) (hw : wpX4_wears μ p0 p1 post) : Ctv l yX4_wears wsX4_wears rm_X4_wears 0 0 B k [.ref (a 0), .int p0, .int p1] (wX4 k a μ) (fun u => wX4 k a u) post := by
  refine Ctv.of M_X4_wears (Nat.le_of_ble_eq_true rfl) ?_
  intro p e s m args below meth c A C hd ls hl
  have hx := C.1; have hb := C.2.1; have hml := C.2.2.1; have hts := C.2.2.2.2.1
  have hl : lv_has ls 4 [(0, .ref (a 0)), (1, .int p0), (2, .int p1)] := hl
  have J53 : ∀ (v53s2 : Int32) (H : Heap) (locs : List Loc) (ls : Array Slot), Wd B A s.heap (wX4 k a μ) H locs → lv_has ls 4 [] → wpX4_wears_J53 μ p0 post v53s2 → W p l e rm_X4_wears s m args below meth c H locs 0 0 (Qv below args s B A (fun u => wX4 k a u) post 0 0) (F0 m 53 ls [.int v53s2, .int (20 + p0), .ref (a 1)]) := by
    intro v53s2 H locs ls hd hl hw
    rw [wpX4_wears_J53] at hw
    obtain ⟨h7, hw⟩ := hw
    refine g_ist (f := mo_now μ) C hd 1 rfl h7 (wX4 k a (mo_setNow μ (upd (mo_now μ) (20 + p0).toNatClampNeg v53s2))) (wX4_stNow k a _ _) dX4_wears_53 (fun H locs hd => ?_)
    exact r_v C hd dX4_wears_54 (mo_setNow μ (upd (mo_now μ) (20 + p0).toNatClampNeg v53s2)) rfl hw
  have J30 : ∀ (v30s2 : Int32) (H : Heap) (locs : List Loc) (ls : Array Slot), Wd B A s.heap (wX4 k a μ) H locs → lv_has ls 4 [(0, .ref (a 0)), (1, .int p0)] → wpX4_wears_J30 μ p0 post v30s2 → W p l e rm_X4_wears s m args below meth c H locs 0 0 (Qv below args s B A (fun u => wX4 k a u) post 0 0) (F0 m 30 ls [.int v30s2, .int ((mo_now μ) (8 + (p0 / 16)).toNatClampNeg), .int ((mo_now μ) (20 + p0).toNatClampNeg)]) := by
    intro v30s2 H locs ls hd hl hw
    rw [wpX4_wears_J30] at hw
    refine lv_imul hx hb dX4_wears_30 ?_
    refine lv_iadd hx hb dX4_wears_31 ?_
    refine lv_istore_n (lv' := [(3, .int (((mo_now μ) (20 + p0).toNatClampNeg) + (((mo_now μ) (8 + (p0 / 16)).toNatClampNeg) * v30s2))), (0, .ref (a 0)), (1, .int p0)]) hx hb dX4_wears_32 rfl hl (by decide) rfl (fun ls hl => ?_)
    refine lv_aload_n hx hb dX4_wears_33 rfl (lv_at hl 1 rfl) ?_
    refine g_get (v := .ref (a 1)) C hd iX4_wears_X4 0 4 rfl rfl 0 (by decide) (List.mem_of_getElem? (i := 1) rfl) rfl dX4_wears_34 ?_
    refine lv_bipush (v := 20) hx hb dX4_wears_37 (by decide) ?_
    refine lv_iload_n hx hb dX4_wears_39 rfl (lv_at hl 2 rfl) ?_
    refine lv_iadd hx hb dX4_wears_40 ?_
    refine lv_iload_n hx hb dX4_wears_41 rfl (lv_at hl 0 rfl) ?_
    refine lv_ldc (v := 99999) hx hb C.2.2.2.1 (hts (.constant RX4 59 (99999)) (List.mem_of_getElem? (i := 2) rfl)) dX4_wears_42 ?_
    refine lv_icmp_le (tgt := 52) hx hb dX4_wears_44 (by decide) (fun c6 => ?_) (fun c6 => ?_)
    · replace hw := hw.1 c6
      refine lv_iload_n hx hb dX4_wears_52 rfl (lv_at hl 0 rfl) ?_
      exact J53 (((mo_now μ) (20 + p0).toNatClampNeg) + (((mo_now μ) (8 + (p0 / 16)).toNatClampNeg) * v30s2)) _ _ _ hd (lv_sub hl [] rfl) hw
    · replace hw := hw.2 c6
      refine lv_ldc (v := 99999) hx hb C.2.2.2.1 (hts (.constant RX4 59 (99999)) (List.mem_of_getElem? (i := 2) rfl)) dX4_wears_47 ?_
      refine lv_goto (tgt := 53) hx hb dX4_wears_49 (by decide) ?_
      exact J53 99999 _ _ _ hd (lv_sub hl [] rfl) hw
  rw [wpX4_wears] at hw
  refine lv_aload_n hx hb dX4_wears_0 rfl (lv_at hl 0 rfl) ?_
  refine g_get (v := .ref (a 1)) C hd iX4_wears_X4 0 4 rfl rfl 0 (by decide) (List.mem_of_getElem? (i := 1) rfl) rfl dX4_wears_1 ?_
  refine lv_bipush (v := 20) hx hb dX4_wears_4 (by decide) ?_
  refine lv_iload_n hx hb dX4_wears_6 rfl (lv_at hl 1 rfl) ?_
  refine lv_iadd hx hb dX4_wears_7 ?_
  obtain ⟨h8, hw⟩ := hw
  refine g_ild (f := mo_now μ) C hd 1 rfl h8 dX4_wears_8 ?_
  refine lv_aload_n hx hb dX4_wears_9 rfl (lv_at hl 0 rfl) ?_
  refine g_get (v := .ref (a 1)) C hd iX4_wears_X4 0 4 rfl rfl 0 (by decide) (List.mem_of_getElem? (i := 1) rfl) rfl dX4_wears_10 ?_
  refine lv_bipush (v := 8) hx hb dX4_wears_13 (by decide) ?_
  refine lv_iload_n hx hb dX4_wears_15 rfl (lv_at hl 1 rfl) ?_
  refine lv_bipush (v := 16) hx hb dX4_wears_16 (by decide) ?_
  refine lv_idiv hx hb dX4_wears_18 (by decide) ?_
  refine lv_iadd hx hb dX4_wears_19 ?_
  obtain ⟨h9, hw⟩ := hw
  refine g_ild (f := mo_now μ) C hd 1 rfl h9 dX4_wears_20 ?_
  refine lv_iload_n hx hb dX4_wears_21 rfl (lv_at hl 2 rfl) ?_
  refine lv_if_eq (tgt := 29) hx hb dX4_wears_22 (by decide) (fun c7 => ?_) (fun c7 => ?_)
  · replace hw := hw.1 c7
    refine lv_iconst (v := 1) hx hb dX4_wears_29 (by decide) ?_
    exact J30 1 _ _ _ hd (lv_sub hl [0, 1] rfl) hw
  · replace hw := hw.2 c7
    refine lv_iconst (v := 2) hx hb dX4_wears_25 (by decide) ?_
    refine lv_goto (tgt := 30) hx hb dX4_wears_26 (by decide) ?_
    exact J30 2 _ _ _ hd (lv_sub hl [0, 1] rfl) hw
abbrev rm_X4_apart : Room := { frames := 0, cells := 0, slots := 0, locals := 0 }
theorem M_X4_apart : MI yX4_apart wsX4_apart cX4_apart 4 (some .int) 3 := ⟨⟨_, rfl⟩, by decide +kernel, by decide +kernel, by decide +kernel, by decide +kernel⟩
def wpX4_apart_J17 (p1 : Int32) (p2 : Int32) (post : Int32 → Prop) (v17s0 : Int32) : Prop := ((p1 = (p2 / 16) → post (v17s0 + 0)) ∧ (¬ p1 = (p2 / 16) → post (v17s0 + 2)))
def wpX4_apart (p0 : Int32) (p1 : Int32) (p2 : Int32) (post : Int32 → Prop) : Prop := ((0 ≤ (p0 - (p2 - p2 / 16 * 16)) → wpX4_apart_J17 p1 p2 post (p0 - (p2 - p2 / 16 * 16))) ∧ (¬ 0 ≤ (p0 - (p2 - p2 / 16 * 16)) → wpX4_apart_J17 p1 p2 post (-(p0 - (p2 - p2 / 16 * 16)))))
set_option maxHeartbeats 4000000 in
set_option maxRecDepth 100000 in
theorem c_X4_apart (l : Launch) (B : va_G) (k : KT) (p0 : Int32) (p1 : Int32) (p2 : Int32) (post : Int32 → Prop) (hw : wpX4_apart p0 p1 p2 post) : Cti l yX4_apart wsX4_apart rm_X4_apart 0 0 B k [.int p0, .int p1, .int p2] ([]) (fun _ : Unit => []) (fun r _ => post r) := by
  refine Cti.of M_X4_apart (Nat.le_of_ble_eq_true rfl) ?_
  intro p e s m args below meth c A C hd ls hl
  have hx := C.1; have hb := C.2.1; have hml := C.2.2.1; have hts := C.2.2.2.2.1
  have hl : lv_has ls 4 [(0, .int p0), (1, .int p1), (2, .int p2)] := hl
  have J17 : ∀ (v17s0 : Int32) (H : Heap) (locs : List Loc) (ls : Array Slot), Wd B A s.heap ([]) H locs → lv_has ls 4 [(1, .int p1), (2, .int p2)] → wpX4_apart_J17 p1 p2 post v17s0 → W p l e rm_X4_apart s m args below meth c H locs 0 0 (Qi below args s B A (fun _ : Unit => []) (fun r _ => post r) 0 0) (F0 m 17 ls [.int v17s0]) := by
    intro v17s0 H locs ls hd hl hw
    rw [wpX4_apart_J17] at hw
    refine lv_iload_n hx hb dX4_apart_17 rfl (lv_at hl 0 rfl) ?_
    refine lv_iload_n hx hb dX4_apart_18 rfl (lv_at hl 1 rfl) ?_
    refine lv_bipush (v := 16) hx hb dX4_apart_19 (by decide) ?_
    refine lv_idiv hx hb dX4_apart_21 (by decide) ?_
    refine lv_icmp_ne (tgt := 29) hx hb dX4_apart_22 (by decide) (fun c6 => ?_) (fun c6 => ?_)
    · replace hw := hw.2 c6
      refine lv_iconst (v := 2) hx hb dX4_apart_29 (by decide) ?_
      refine lv_iadd hx hb dX4_apart_30 ?_
      exact r_i C hd dX4_apart_31 () rfl hw
    · replace hw := hw.1 c6
      refine lv_iconst (v := 0) hx hb dX4_apart_25 (by decide) ?_
      refine lv_goto (tgt := 30) hx hb dX4_apart_26 (by decide) ?_
      refine lv_iadd hx hb dX4_apart_30 ?_
      exact r_i C hd dX4_apart_31 () rfl hw
  rw [wpX4_apart] at hw
  refine lv_iload_n hx hb dX4_apart_0 rfl (lv_at hl 0 rfl) ?_
  refine lv_iload_n hx hb dX4_apart_1 rfl (lv_at hl 2 rfl) ?_
  refine lv_bipush (v := 16) hx hb dX4_apart_2 (by decide) ?_
  refine lv_irem hx hb dX4_apart_4 (by decide) ?_
  refine lv_isub hx hb dX4_apart_5 ?_
  refine lv_istore_n (lv' := [(3, .int (p0 - (p2 - p2 / 16 * 16))), (0, .int p0), (1, .int p1), (2, .int p2)]) hx hb dX4_apart_6 rfl hl (by decide) rfl (fun ls hl => ?_)
  refine lv_iload_n hx hb dX4_apart_7 rfl (lv_at hl 0 rfl) ?_
  refine lv_if_ge (tgt := 16) hx hb dX4_apart_8 (by decide) (fun c7 => ?_) (fun c7 => ?_)
  · replace hw := hw.1 c7
    refine lv_iload_n hx hb dX4_apart_16 rfl (lv_at hl 0 rfl) ?_
    exact J17 (p0 - (p2 - p2 / 16 * 16)) _ _ _ hd (lv_sub hl [2, 3] rfl) hw
  · replace hw := hw.2 c7
    refine lv_iload_n hx hb dX4_apart_11 rfl (lv_at hl 0 rfl) ?_
    refine lv_ineg hx hb dX4_apart_12 ?_
    refine lv_goto (tgt := 17) hx hb dX4_apart_13 (by decide) ?_
    exact J17 (-(p0 - (p2 - p2 / 16 * 16))) _ _ _ hd (lv_sub hl [2, 3] rfl) hw
abbrev rm_X4_goes : Room := { frames := 1, cells := 0, slots := 0, locals := 23 }
theorem M_X4_goes : MI yX4_goes wsX4_goes cX4_goes 2 none 1 := ⟨⟨_, rfl⟩, by decide +kernel, by decide +kernel, by decide +kernel, by decide +kernel⟩
theorem iX4_goes_X4 : ∀ w ∈ wsX40, w ∈ wsX4_goes := fun _ h => List.mem_cons_of_mem _ (List.mem_append_right _ h)
def wpX4_goes (μ : MO) (p0 : Int32) (post : MO → Prop) : Prop := (vp_in 3 276 ∧ (vp_in 1 276 ∧ (vp_in 2 276 ∧ wpX4_apart ((mo_now μ) (1 : Int32).toNatClampNeg) ((mo_now μ) (2 : Int32).toNatClampNeg) p0 (fun r20 => post (mo_setNow (mo_setNow (mo_setNow μ (upd (mo_now μ) (3 : Int32).toNatClampNeg (((mo_now μ) (3 : Int32).toNatClampNeg) + r20))) (upd (upd (mo_now μ) (3 : Int32).toNatClampNeg (((mo_now μ) (3 : Int32).toNatClampNeg) + r20)) (1 : Int32).toNatClampNeg (p0 - p0 / 16 * 16))) (upd (upd (upd (mo_now μ) (3 : Int32).toNatClampNeg (((mo_now μ) (3 : Int32).toNatClampNeg) + r20)) (1 : Int32).toNatClampNeg (p0 - p0 / 16 * 16)) (2 : Int32).toNatClampNeg (p0 / 16)))))))
set_option maxHeartbeats 4000000 in
set_option maxRecDepth 100000 in
theorem c_X4_goes (l : Launch) (B : va_G) (k : KT) (a : Nat → Nat) (μ : MO) (p0 : Int32) (post : MO → Prop) (hw : wpX4_goes μ p0 post) : Ctv l yX4_goes wsX4_goes rm_X4_goes 0 0 B k [.ref (a 0), .int p0] (wX4 k a μ) (fun u => wX4 k a u) post := by
  refine Ctv.of M_X4_goes (Nat.le_of_ble_eq_true rfl) ?_
  intro p e s m args below meth c A C hd ls hl
  have hx := C.1; have hb := C.2.1; have hml := C.2.2.1; have hts := C.2.2.2.2.1
  have hl : lv_has ls 2 [(0, .ref (a 0)), (1, .int p0)] := hl
  rw [wpX4_goes] at hw
  refine lv_aload_n hx hb dX4_goes_0 rfl (lv_at hl 0 rfl) ?_
  refine g_get (v := .ref (a 1)) C hd iX4_goes_X4 0 4 rfl rfl 0 (by decide) (List.mem_of_getElem? (i := 1) rfl) rfl dX4_goes_1 ?_
  refine lv_iconst (v := 3) hx hb dX4_goes_4 (by decide) ?_
  refine lv_dup2_11 hx hb dX4_goes_5 rfl rfl ?_
  obtain ⟨h4, hw⟩ := hw
  refine g_ild (f := mo_now μ) C hd 1 rfl h4 dX4_goes_6 ?_
  refine lv_aload_n hx hb dX4_goes_7 rfl (lv_at hl 0 rfl) ?_
  refine g_get (v := .ref (a 1)) C hd iX4_goes_X4 0 4 rfl rfl 0 (by decide) (List.mem_of_getElem? (i := 1) rfl) rfl dX4_goes_8 ?_
  refine lv_iconst (v := 1) hx hb dX4_goes_11 (by decide) ?_
  obtain ⟨h5, hw⟩ := hw
  refine g_ild (f := mo_now μ) C hd 1 rfl h5 dX4_goes_12 ?_
  refine lv_aload_n hx hb dX4_goes_13 rfl (lv_at hl 0 rfl) ?_
  refine g_get (v := .ref (a 1)) C hd iX4_goes_X4 0 4 rfl rfl 0 (by decide) (List.mem_of_getElem? (i := 1) rfl) rfl dX4_goes_14 ?_
  refine lv_iconst (v := 2) hx hb dX4_goes_17 (by decide) ?_
  obtain ⟨h6, hw⟩ := hw
  refine g_ild (f := mo_now μ) C hd 1 rfl h6 dX4_goes_18 ?_
  refine lv_iload_n hx hb dX4_goes_19 rfl (lv_at hl 1 rfl) ?_
  refine s_i C hd hl M_X4_apart gX4_goes_X4_apart rfl (c_X4_apart l B k ((mo_now μ) (1 : Int32).toNatClampNeg) ((mo_now μ) (2 : Int32).toNatClampNeg) p0 _ hw) ⟨rfl, rfl⟩ ⟨Nat.le_of_ble_eq_true rfl, Nat.le_of_ble_eq_true rfl⟩ (pm_non _) (fun _ => wX4 k a μ) (fun _ => List.Perm.refl _) rfl rfl (Nat.le_of_ble_eq_true rfl) dX4_goes_20 ⟨Nat.le_of_ble_eq_true rfl, Nat.le_of_ble_eq_true rfl⟩ (fun r20 _ H locs hw hd => ?_)
  refine lv_iadd hx hb dX4_goes_23 ?_
  refine g_ist (f := mo_now μ) C hd 1 rfl h4 (wX4 k a (mo_setNow μ (upd (mo_now μ) (3 : Int32).toNatClampNeg (((mo_now μ) (3 : Int32).toNatClampNeg) + r20)))) (wX4_stNow k a _ _) dX4_goes_24 (fun H locs hd => ?_)
  refine lv_aload_n hx hb dX4_goes_25 rfl (lv_at hl 0 rfl) ?_
  refine g_get (v := .ref (a 1)) C hd iX4_goes_X4 0 4 rfl rfl 0 (by decide) (List.mem_of_getElem? (i := 1) rfl) rfl dX4_goes_26 ?_
  refine lv_iconst (v := 1) hx hb dX4_goes_29 (by decide) ?_
  refine lv_iload_n hx hb dX4_goes_30 rfl (lv_at hl 1 rfl) ?_
  refine lv_bipush (v := 16) hx hb dX4_goes_31 (by decide) ?_
  refine lv_irem hx hb dX4_goes_33 (by decide) ?_
  refine g_ist (f := upd (mo_now μ) (3 : Int32).toNatClampNeg (((mo_now μ) (3 : Int32).toNatClampNeg) + r20)) C hd 1 rfl h5 (wX4 k a (mo_setNow (mo_setNow μ (upd (mo_now μ) (3 : Int32).toNatClampNeg (((mo_now μ) (3 : Int32).toNatClampNeg) + r20))) (upd (upd (mo_now μ) (3 : Int32).toNatClampNeg (((mo_now μ) (3 : Int32).toNatClampNeg) + r20)) (1 : Int32).toNatClampNeg (p0 - p0 / 16 * 16)))) (wX4_stNow k a _ _) dX4_goes_34 (fun H locs hd => ?_)
  refine lv_aload_n hx hb dX4_goes_35 rfl (lv_at hl 0 rfl) ?_
  refine g_get (v := .ref (a 1)) C hd iX4_goes_X4 0 4 rfl rfl 0 (by decide) (List.mem_of_getElem? (i := 1) rfl) rfl dX4_goes_36 ?_
  refine lv_iconst (v := 2) hx hb dX4_goes_39 (by decide) ?_
  refine lv_iload_n hx hb dX4_goes_40 rfl (lv_at hl 1 rfl) ?_
  refine lv_bipush (v := 16) hx hb dX4_goes_41 (by decide) ?_
  refine lv_idiv hx hb dX4_goes_43 (by decide) ?_
  refine g_ist (f := upd (upd (mo_now μ) (3 : Int32).toNatClampNeg (((mo_now μ) (3 : Int32).toNatClampNeg) + r20)) (1 : Int32).toNatClampNeg (p0 - p0 / 16 * 16)) C hd 1 rfl h6 (wX4 k a (mo_setNow (mo_setNow (mo_setNow μ (upd (mo_now μ) (3 : Int32).toNatClampNeg (((mo_now μ) (3 : Int32).toNatClampNeg) + r20))) (upd (upd (mo_now μ) (3 : Int32).toNatClampNeg (((mo_now μ) (3 : Int32).toNatClampNeg) + r20)) (1 : Int32).toNatClampNeg (p0 - p0 / 16 * 16))) (upd (upd (upd (mo_now μ) (3 : Int32).toNatClampNeg (((mo_now μ) (3 : Int32).toNatClampNeg) + r20)) (1 : Int32).toNatClampNeg (p0 - p0 / 16 * 16)) (2 : Int32).toNatClampNeg (p0 / 16)))) (wX4_stNow k a _ _) dX4_goes_44 (fun H locs hd => ?_)
  exact r_v C hd dX4_goes_45 (mo_setNow (mo_setNow (mo_setNow μ (upd (mo_now μ) (3 : Int32).toNatClampNeg (((mo_now μ) (3 : Int32).toNatClampNeg) + r20))) (upd (upd (mo_now μ) (3 : Int32).toNatClampNeg (((mo_now μ) (3 : Int32).toNatClampNeg) + r20)) (1 : Int32).toNatClampNeg (p0 - p0 / 16 * 16))) (upd (upd (upd (mo_now μ) (3 : Int32).toNatClampNeg (((mo_now μ) (3 : Int32).toNatClampNeg) + r20)) (1 : Int32).toNatClampNeg (p0 - p0 / 16 * 16)) (2 : Int32).toNatClampNeg (p0 / 16))) rfl hw
abbrev rm_X4_goesTo : Room := { frames := 2, cells := 0, slots := 0, locals := 44 }
theorem M_X4_goesTo : MI yX4_goesTo wsX4_goesTo cX4_goesTo 2 none 1 := ⟨⟨_, rfl⟩, by decide +kernel, by decide +kernel, by decide +kernel, by decide +kernel⟩
theorem iX4_goesTo_X4 : ∀ w ∈ wsX40, w ∈ wsX4_goesTo := fun _ h => List.mem_cons_of_mem _ (List.mem_append_right _ h)
def wpX4_goesTo_J20 (p0 : Int32) (post : MO → Prop) (μ20 : MO) : Prop := (vp_in (148 + p0) 276 ∧ ((((mo_now μ20) (148 + p0).toNatClampNeg) = p0 → post μ20) ∧ (¬ ((mo_now μ20) (148 + p0).toNatClampNeg) = p0 → wpX4_goes μ20 ((mo_now μ20) (148 + p0).toNatClampNeg) (fun μ45 => post μ45))))
def wpX4_goesTo (μ : MO) (p0 : Int32) (post : MO → Prop) : Prop := (vp_in (16 + (p0 / 16)) 276 ∧ ((((mo_now μ) (16 + (p0 / 16)).toNatClampNeg) = 0 → wpX4_goes μ p0 (fun μ17 => wpX4_goesTo_J20 p0 post μ17)) ∧ (¬ ((mo_now μ) (16 + (p0 / 16)).toNatClampNeg) = 0 → wpX4_goesTo_J20 p0 post μ)))
set_option maxHeartbeats 4000000 in
set_option maxRecDepth 100000 in
theorem c_X4_goesTo (l : Launch) (B : va_G) (k : KT) (a : Nat → Nat) (μ : MO) (p0 : Int32) (post : MO → Prop) (hw : wpX4_goesTo μ p0 post) : Ctv l yX4_goesTo wsX4_goesTo rm_X4_goesTo 0 0 B k [.ref (a 0), .int p0] (wX4 k a μ) (fun u => wX4 k a u) post := by
  refine Ctv.of M_X4_goesTo (Nat.le_of_ble_eq_true rfl) ?_
  intro p e s m args below meth c A C hd ls hl
  have hx := C.1; have hb := C.2.1; have hml := C.2.2.1; have hts := C.2.2.2.2.1
  have hl : lv_has ls 2 [(0, .ref (a 0)), (1, .int p0)] := hl
  have J20 : ∀ (μ20 : MO) (H : Heap) (locs : List Loc) (ls : Array Slot), Wd B A s.heap (wX4 k a μ20) H locs → lv_has ls 2 [(0, .ref (a 0)), (1, .int p0)] → wpX4_goesTo_J20 p0 post μ20 → W p l e rm_X4_goesTo s m args below meth c H locs 0 0 (Qv below args s B A (fun u => wX4 k a u) post 0 0) (F0 m 20 ls []) := by
    intro μ20 H locs ls hd hl hw
    rw [wpX4_goesTo_J20] at hw
    refine lv_aload_n hx hb dX4_goesTo_20 rfl (lv_at hl 0 rfl) ?_
    refine g_get (v := .ref (a 1)) C hd iX4_goesTo_X4 0 4 rfl rfl 0 (by decide) (List.mem_of_getElem? (i := 1) rfl) rfl dX4_goesTo_21 ?_
    refine lv_sipush (v := 148) hx hb dX4_goesTo_24 (by decide) ?_
    refine lv_iload_n hx hb dX4_goesTo_27 rfl (lv_at hl 1 rfl) ?_
    refine lv_iadd hx hb dX4_goesTo_28 ?_
    obtain ⟨h6, hw⟩ := hw
    refine g_ild (f := mo_now μ20) C hd 1 rfl h6 dX4_goesTo_29 ?_
    refine lv_iload_n hx hb dX4_goesTo_30 rfl (lv_at hl 1 rfl) ?_
    refine lv_icmp_eq (tgt := 48) hx hb dX4_goesTo_31 (by decide) (fun c6 => ?_) (fun c6 => ?_)
    · replace hw := hw.1 c6
      exact r_v C hd dX4_goesTo_48 μ20 rfl hw
    · replace hw := hw.2 c6
      refine lv_aload_n hx hb dX4_goesTo_34 rfl (lv_at hl 0 rfl) ?_
      refine lv_aload_n hx hb dX4_goesTo_35 rfl (lv_at hl 0 rfl) ?_
      refine g_get (v := .ref (a 1)) C hd iX4_goesTo_X4 0 4 rfl rfl 0 (by decide) (List.mem_of_getElem? (i := 1) rfl) rfl dX4_goesTo_36 ?_
      refine lv_sipush (v := 148) hx hb dX4_goesTo_39 (by decide) ?_
      refine lv_iload_n hx hb dX4_goesTo_42 rfl (lv_at hl 1 rfl) ?_
      refine lv_iadd hx hb dX4_goesTo_43 ?_
      refine g_ild (f := mo_now μ20) C hd 1 rfl h6 dX4_goesTo_44 ?_
      refine v_v C hd hl M_X4_goes gX4_goesTo_X4_goes (c_X4_goes l B k a μ20 ((mo_now μ20) (148 + p0).toNatClampNeg) _ hw) ⟨rfl, rfl⟩ ⟨Nat.le_of_ble_eq_true rfl, Nat.le_of_ble_eq_true rfl⟩ (pm_all _) (fun u => wX4 k a u) (fun _ => (pm_all _).symm) 0 4 rfl rfl rfl rfl rfl (Nat.le_of_ble_eq_true rfl) dX4_goesTo_45 ⟨Nat.le_of_ble_eq_true rfl, Nat.le_of_ble_eq_true rfl⟩ (fun μ45 H locs hw hd => ?_)
      exact r_v C hd dX4_goesTo_48 μ45 rfl hw
  rw [wpX4_goesTo] at hw
  refine lv_aload_n hx hb dX4_goesTo_0 rfl (lv_at hl 0 rfl) ?_
  refine g_get (v := .ref (a 1)) C hd iX4_goesTo_X4 0 4 rfl rfl 0 (by decide) (List.mem_of_getElem? (i := 1) rfl) rfl dX4_goesTo_1 ?_
  refine lv_bipush (v := 16) hx hb dX4_goesTo_4 (by decide) ?_
  refine lv_iload_n hx hb dX4_goesTo_6 rfl (lv_at hl 1 rfl) ?_
  refine lv_bipush (v := 16) hx hb dX4_goesTo_7 (by decide) ?_
  refine lv_idiv hx hb dX4_goesTo_9 (by decide) ?_
  refine lv_iadd hx hb dX4_goesTo_10 ?_
  obtain ⟨h7, hw⟩ := hw
  refine g_ild (f := mo_now μ) C hd 1 rfl h7 dX4_goesTo_11 ?_
  refine lv_if_ne (tgt := 20) hx hb dX4_goesTo_12 (by decide) (fun c7 => ?_) (fun c7 => ?_)
  · replace hw := hw.2 c7
    exact J20 μ _ _ _ hd (lv_sub hl [0, 1] rfl) hw
  · replace hw := hw.1 c7
    refine lv_aload_n hx hb dX4_goesTo_15 rfl (lv_at hl 0 rfl) ?_
    refine lv_iload_n hx hb dX4_goesTo_16 rfl (lv_at hl 1 rfl) ?_
    refine v_v C hd hl M_X4_goes gX4_goesTo_X4_goes (c_X4_goes l B k a μ p0 _ hw) ⟨rfl, rfl⟩ ⟨Nat.le_of_ble_eq_true rfl, Nat.le_of_ble_eq_true rfl⟩ (pm_all _) (fun u => wX4 k a u) (fun _ => (pm_all _).symm) 0 4 rfl rfl rfl rfl rfl (Nat.le_of_ble_eq_true rfl) dX4_goesTo_17 ⟨Nat.le_of_ble_eq_true rfl, Nat.le_of_ble_eq_true rfl⟩ (fun μ17 H locs hw hd => ?_)
    exact J20 μ17 _ _ _ hd (lv_sub hl [0, 1] rfl) hw
abbrev rm_X4_steps : Room := { frames := 1, cells := 0, slots := 0, locals := 23 }
theorem M_X4_steps : MI yX4_steps wsX4_steps cX4_steps 5 (some .int) 1 := ⟨⟨_, rfl⟩, by decide +kernel, by decide +kernel, by decide +kernel, by decide +kernel⟩
theorem iX4_steps_X4 : ∀ w ∈ wsX40, w ∈ wsX4_steps := fun _ h => List.mem_cons_of_mem _ (List.mem_append_right _ h)
def wpX4_steps_J71 (μ : MO) (p0 : Int32) (v31s0 : Bool) (post : Int32 → Prop) (v71s0 : Int32) : Prop := ((v31s0 = true → ((((mo_now μ) (148 + p0).toNatClampNeg) = p0 → post v71s0) ∧ (¬ ((mo_now μ) (148 + p0).toNatClampNeg) = p0 → wpX4_apart (p0 - p0 / 16 * 16) (p0 / 16) ((mo_now μ) (148 + p0).toNatClampNeg) (fun r93 => post (v71s0 + r93))))) ∧ (v31s0 = false → post v71s0))
def wpX4_steps_J31 (μ : MO) (p0 : Int32) (post : Int32 → Prop) (v31s0 : Bool) : Prop := ((v31s0 = true → (vp_in 1 276 ∧ (vp_in 2 276 ∧ wpX4_apart ((mo_now μ) (1 : Int32).toNatClampNeg) ((mo_now μ) (2 : Int32).toNatClampNeg) p0 (fun r49 => wpX4_steps_J71 μ p0 v31s0 post r49)))) ∧ (v31s0 = false → (vp_in 1 276 ∧ (vp_in 2 276 ∧ wpX4_apart ((mo_now μ) (1 : Int32).toNatClampNeg) ((mo_now μ) (2 : Int32).toNatClampNeg) ((mo_now μ) (148 + p0).toNatClampNeg) (fun r68 => wpX4_steps_J71 μ p0 v31s0 post r68)))))
def wpX4_steps (μ : MO) (p0 : Int32) (post : Int32 → Prop) : Prop := (vp_in (148 + p0) 276 ∧ (vp_in (16 + (p0 / 16)) 276 ∧ ((((mo_now μ) (16 + (p0 / 16)).toNatClampNeg) = 0 → wpX4_steps_J31 μ p0 post true) ∧ (¬ ((mo_now μ) (16 + (p0 / 16)).toNatClampNeg) = 0 → wpX4_steps_J31 μ p0 post false))))
set_option maxHeartbeats 4000000 in
set_option maxRecDepth 100000 in
theorem c_X4_steps (l : Launch) (B : va_G) (k : KT) (a : Nat → Nat) (μ : MO) (p0 : Int32) (post : Int32 → Prop) (hw : wpX4_steps μ p0 post) : Cti l yX4_steps wsX4_steps rm_X4_steps 0 0 B k [.ref (a 0), .int p0] (wX4 k a μ) (fun _ : Unit => wX4 k a μ) (fun r _ => post r) := by
  refine Cti.of M_X4_steps (Nat.le_of_ble_eq_true rfl) ?_
  intro p e s m args below meth c A C hd ls hl
  have hx := C.1; have hb := C.2.1; have hml := C.2.2.1; have hts := C.2.2.2.2.1
  have hl : lv_has ls 5 [(0, .ref (a 0)), (1, .int p0)] := hl
  have J71 : ∀ (v31s0 : Bool) (v71s0 : Int32) (H : Heap) (locs : List Loc) (ls : Array Slot), Wd B A s.heap (wX4 k a μ) H locs → lv_has ls 5 [(1, .int p0), (2, .int ((mo_now μ) (148 + p0).toNatClampNeg)), (3, .int (bi v31s0))] → wpX4_steps_J71 μ p0 v31s0 post v71s0 → W p l e rm_X4_steps s m args below meth c H locs 0 0 (Qi below args s B A (fun _ : Unit => wX4 k a μ) (fun r _ => post r) 0 0) (F0 m 71 ls [.int v71s0]) := by
    intro v31s0 v71s0 H locs ls hd hl hw
    rw [wpX4_steps_J71] at hw
    refine lv_istore (lv' := [(4, .int v71s0), (1, .int p0), (2, .int ((mo_now μ) (148 + p0).toNatClampNeg)), (3, .int (bi v31s0))]) hx hb dX4_steps_71 hl (by decide) rfl (fun ls hl => ?_)
    refine lv_iload_n hx hb dX4_steps_73 rfl (lv_at hl 3 rfl) ?_
    refine lv_if_eq (tgt := 100) hx hb dX4_steps_74 (by decide) (fun c15 => ?_) (fun c15 => ?_)
    · replace hw := hw.2 ((bi_eq _).mp c15)
      refine lv_iload hx hb dX4_steps_100 (lv_at hl 0 rfl) ?_
      exact r_i C hd dX4_steps_102 () rfl hw
    · replace hw := hw.1 ((bi_ne _).mp c15)
      refine lv_iload_n hx hb dX4_steps_77 rfl (lv_at hl 2 rfl) ?_
      refine lv_iload_n hx hb dX4_steps_78 rfl (lv_at hl 1 rfl) ?_
      refine lv_icmp_eq (tgt := 100) hx hb dX4_steps_79 (by decide) (fun c14 => ?_) (fun c14 => ?_)
      · replace hw := hw.1 c14
        refine lv_iload hx hb dX4_steps_100 (lv_at hl 0 rfl) ?_
        exact r_i C hd dX4_steps_102 () rfl hw
      · replace hw := hw.2 c14
        refine lv_iload hx hb dX4_steps_82 (lv_at hl 0 rfl) ?_
        refine lv_iload_n hx hb dX4_steps_84 rfl (lv_at hl 1 rfl) ?_
        refine lv_bipush (v := 16) hx hb dX4_steps_85 (by decide) ?_
        refine lv_irem hx hb dX4_steps_87 (by decide) ?_
        refine lv_iload_n hx hb dX4_steps_88 rfl (lv_at hl 1 rfl) ?_
        refine lv_bipush (v := 16) hx hb dX4_steps_89 (by decide) ?_
        refine lv_idiv hx hb dX4_steps_91 (by decide) ?_
        refine lv_iload_n hx hb dX4_steps_92 rfl (lv_at hl 2 rfl) ?_
        refine s_i C hd hl M_X4_apart gX4_steps_X4_apart rfl (c_X4_apart l B k (p0 - p0 / 16 * 16) (p0 / 16) ((mo_now μ) (148 + p0).toNatClampNeg) _ hw) ⟨rfl, rfl⟩ ⟨Nat.le_of_ble_eq_true rfl, Nat.le_of_ble_eq_true rfl⟩ (pm_non _) (fun _ => wX4 k a μ) (fun _ => List.Perm.refl _) rfl rfl (Nat.le_of_ble_eq_true rfl) dX4_steps_93 ⟨Nat.le_of_ble_eq_true rfl, Nat.le_of_ble_eq_true rfl⟩ (fun r93 _ H locs hw hd => ?_)
        refine lv_iadd hx hb dX4_steps_96 ?_
        refine lv_goto (tgt := 102) hx hb dX4_steps_97 (by decide) ?_
        exact r_i C hd dX4_steps_102 () rfl hw
  have J31 : ∀ (v31s0 : Bool) (H : Heap) (locs : List Loc) (ls : Array Slot), Wd B A s.heap (wX4 k a μ) H locs → lv_has ls 5 [(0, .ref (a 0)), (1, .int p0), (2, .int ((mo_now μ) (148 + p0).toNatClampNeg))] → wpX4_steps_J31 μ p0 post v31s0 → W p l e rm_X4_steps s m args below meth c H locs 0 0 (Qi below args s B A (fun _ : Unit => wX4 k a μ) (fun r _ => post r) 0 0) (F0 m 31 ls [.int (bi v31s0)]) := by
    intro v31s0 H locs ls hd hl hw
    rw [wpX4_steps_J31] at hw
    refine lv_istore_n (lv' := [(3, .int (bi v31s0)), (0, .ref (a 0)), (1, .int p0), (2, .int ((mo_now μ) (148 + p0).toNatClampNeg))]) hx hb dX4_steps_31 rfl hl (by decide) rfl (fun ls hl => ?_)
    refine lv_iload_n hx hb dX4_steps_32 rfl (lv_at hl 0 rfl) ?_
    refine lv_if_eq (tgt := 55) hx hb dX4_steps_33 (by decide) (fun c16 => ?_) (fun c16 => ?_)
    · replace hw := hw.2 ((bi_eq _).mp c16)
      refine lv_aload_n hx hb dX4_steps_55 rfl (lv_at hl 1 rfl) ?_
      refine g_get (v := .ref (a 1)) C hd iX4_steps_X4 0 4 rfl rfl 0 (by decide) (List.mem_of_getElem? (i := 1) rfl) rfl dX4_steps_56 ?_
      refine lv_iconst (v := 1) hx hb dX4_steps_59 (by decide) ?_
      obtain ⟨h19, hw⟩ := hw
      refine g_ild (f := mo_now μ) C hd 1 rfl h19 dX4_steps_60 ?_
      refine lv_aload_n hx hb dX4_steps_61 rfl (lv_at hl 1 rfl) ?_
      refine g_get (v := .ref (a 1)) C hd iX4_steps_X4 0 4 rfl rfl 0 (by decide) (List.mem_of_getElem? (i := 1) rfl) rfl dX4_steps_62 ?_
      refine lv_iconst (v := 2) hx hb dX4_steps_65 (by decide) ?_
      obtain ⟨h20, hw⟩ := hw
      refine g_ild (f := mo_now μ) C hd 1 rfl h20 dX4_steps_66 ?_
      refine lv_iload_n hx hb dX4_steps_67 rfl (lv_at hl 3 rfl) ?_
      refine s_i C hd hl M_X4_apart gX4_steps_X4_apart rfl (c_X4_apart l B k ((mo_now μ) (1 : Int32).toNatClampNeg) ((mo_now μ) (2 : Int32).toNatClampNeg) ((mo_now μ) (148 + p0).toNatClampNeg) _ hw) ⟨rfl, rfl⟩ ⟨Nat.le_of_ble_eq_true rfl, Nat.le_of_ble_eq_true rfl⟩ (pm_non _) (fun _ => wX4 k a μ) (fun _ => List.Perm.refl _) rfl rfl (Nat.le_of_ble_eq_true rfl) dX4_steps_68 ⟨Nat.le_of_ble_eq_true rfl, Nat.le_of_ble_eq_true rfl⟩ (fun r68 _ H locs hw hd => ?_)
      exact J71 v31s0 r68 _ _ _ hd (lv_sub hl [2, 3, 0] rfl) hw
    · replace hw := hw.1 ((bi_ne _).mp c16)
      refine lv_aload_n hx hb dX4_steps_36 rfl (lv_at hl 1 rfl) ?_
      refine g_get (v := .ref (a 1)) C hd iX4_steps_X4 0 4 rfl rfl 0 (by decide) (List.mem_of_getElem? (i := 1) rfl) rfl dX4_steps_37 ?_
      refine lv_iconst (v := 1) hx hb dX4_steps_40 (by decide) ?_
      obtain ⟨h21, hw⟩ := hw
      refine g_ild (f := mo_now μ) C hd 1 rfl h21 dX4_steps_41 ?_
      refine lv_aload_n hx hb dX4_steps_42 rfl (lv_at hl 1 rfl) ?_
      refine g_get (v := .ref (a 1)) C hd iX4_steps_X4 0 4 rfl rfl 0 (by decide) (List.mem_of_getElem? (i := 1) rfl) rfl dX4_steps_43 ?_
      refine lv_iconst (v := 2) hx hb dX4_steps_46 (by decide) ?_
      obtain ⟨h22, hw⟩ := hw
      refine g_ild (f := mo_now μ) C hd 1 rfl h22 dX4_steps_47 ?_
      refine lv_iload_n hx hb dX4_steps_48 rfl (lv_at hl 2 rfl) ?_
      refine s_i C hd hl M_X4_apart gX4_steps_X4_apart rfl (c_X4_apart l B k ((mo_now μ) (1 : Int32).toNatClampNeg) ((mo_now μ) (2 : Int32).toNatClampNeg) p0 _ hw) ⟨rfl, rfl⟩ ⟨Nat.le_of_ble_eq_true rfl, Nat.le_of_ble_eq_true rfl⟩ (pm_non _) (fun _ => wX4 k a μ) (fun _ => List.Perm.refl _) rfl rfl (Nat.le_of_ble_eq_true rfl) dX4_steps_49 ⟨Nat.le_of_ble_eq_true rfl, Nat.le_of_ble_eq_true rfl⟩ (fun r49 _ H locs hw hd => ?_)
      refine lv_goto (tgt := 71) hx hb dX4_steps_52 (by decide) ?_
      exact J71 v31s0 r49 _ _ _ hd (lv_sub hl [2, 3, 0] rfl) hw
  rw [wpX4_steps] at hw
  refine lv_aload_n hx hb dX4_steps_0 rfl (lv_at hl 0 rfl) ?_
  refine g_get (v := .ref (a 1)) C hd iX4_steps_X4 0 4 rfl rfl 0 (by decide) (List.mem_of_getElem? (i := 1) rfl) rfl dX4_steps_1 ?_
  refine lv_sipush (v := 148) hx hb dX4_steps_4 (by decide) ?_
  refine lv_iload_n hx hb dX4_steps_7 rfl (lv_at hl 1 rfl) ?_
  refine lv_iadd hx hb dX4_steps_8 ?_
  obtain ⟨h23, hw⟩ := hw
  refine g_ild (f := mo_now μ) C hd 1 rfl h23 dX4_steps_9 ?_
  refine lv_istore_n (lv' := [(2, .int ((mo_now μ) (148 + p0).toNatClampNeg)), (0, .ref (a 0)), (1, .int p0)]) hx hb dX4_steps_10 rfl hl (by decide) rfl (fun ls hl => ?_)
  refine lv_aload_n hx hb dX4_steps_11 rfl (lv_at hl 1 rfl) ?_
  refine g_get (v := .ref (a 1)) C hd iX4_steps_X4 0 4 rfl rfl 0 (by decide) (List.mem_of_getElem? (i := 1) rfl) rfl dX4_steps_12 ?_
  refine lv_bipush (v := 16) hx hb dX4_steps_15 (by decide) ?_
  refine lv_iload_n hx hb dX4_steps_17 rfl (lv_at hl 2 rfl) ?_
  refine lv_bipush (v := 16) hx hb dX4_steps_18 (by decide) ?_
  refine lv_idiv hx hb dX4_steps_20 (by decide) ?_
  refine lv_iadd hx hb dX4_steps_21 ?_
  obtain ⟨h24, hw⟩ := hw
  refine g_ild (f := mo_now μ) C hd 1 rfl h24 dX4_steps_22 ?_
  refine lv_if_ne (tgt := 30) hx hb dX4_steps_23 (by decide) (fun c17 => ?_) (fun c17 => ?_)
  · replace hw := hw.2 c17
    refine lv_iconst (v := 0) hx hb dX4_steps_30 (by decide) ?_
    exact J31 false _ _ _ hd (lv_sub hl [1, 2, 0] rfl) hw
  · replace hw := hw.1 c17
    refine lv_iconst (v := 1) hx hb dX4_steps_26 (by decide) ?_
    refine lv_goto (tgt := 31) hx hb dX4_steps_27 (by decide) ?_
    exact J31 true _ _ _ hd (lv_sub hl [1, 2, 0] rfl) hw
abbrev rm_X4_looks : Room := { frames := 6, cells := 0, slots := 0, locals := 133 }
theorem M_X4_looks : MI yX4_looks wsX4_looks cX4_looks 4 none 1 := ⟨⟨_, rfl⟩, by decide +kernel, by decide +kernel, by decide +kernel, by decide +kernel⟩
theorem iX4_looks_X4 : ∀ w ∈ wsX40, w ∈ wsX4_looks := fun _ h => List.mem_cons_of_mem _ (List.mem_append_right _ h)
def wpX4_looks (μ : MO) (p0 : Int32) (post : MO → Prop) : Prop := (vp_in (148 + p0) 276 ∧ wpX4_state μ ((mo_now μ) (148 + p0).toNatClampNeg) (fun r13 => ((r13 = 0 → post μ) ∧ (¬ r13 = 0 → wpX4_lends μ p0 (fun r22 => ((r22 = (-5) → wpX4_state μ ((mo_now μ) (148 + p0).toNatClampNeg) (fun r83 => ((r83 = 2 → (vp_in 5 276 ∧ post (mo_setNow (mo_setNow μ (upd (mo_now μ) (148 + p0).toNatClampNeg (-1))) (upd (upd (mo_now μ) (148 + p0).toNatClampNeg (-1)) (5 : Int32).toNatClampNeg (((upd (mo_now μ) (148 + p0).toNatClampNeg (-1)) (5 : Int32).toNatClampNeg) + 1))))) ∧ (¬ r83 = 2 → post μ)))) ∧ (¬ r22 = (-5) → (vp_in 4 276 ∧ (vp_in (212 + p0) 276 ∧ wpX4_goes (mo_setNow (mo_setNow (mo_setNow μ (upd (mo_now μ) (148 + p0).toNatClampNeg r22)) (upd (upd (mo_now μ) (148 + p0).toNatClampNeg r22) (4 : Int32).toNatClampNeg (((upd (mo_now μ) (148 + p0).toNatClampNeg r22) (4 : Int32).toNatClampNeg) + 1))) (upd (upd (upd (mo_now μ) (148 + p0).toNatClampNeg r22) (4 : Int32).toNatClampNeg (((upd (mo_now μ) (148 + p0).toNatClampNeg r22) (4 : Int32).toNatClampNeg) + 1)) (212 + p0).toNatClampNeg (((upd (upd (mo_now μ) (148 + p0).toNatClampNeg r22) (4 : Int32).toNatClampNeg (((upd (mo_now μ) (148 + p0).toNatClampNeg r22) (4 : Int32).toNatClampNeg) + 1)) (212 + p0).toNatClampNeg) + 1))) r22 (fun μ69 => wpX4_wears μ69 r22 1 (fun μ75 => post μ75)))))))))))
set_option maxHeartbeats 4000000 in
set_option maxRecDepth 100000 in
theorem c_X4_looks (l : Launch) (B : va_G) (k : KT) (a : Nat → Nat) (μ : MO) (p0 : Int32) (post : MO → Prop) (hw : wpX4_looks μ p0 post) : Ctv l yX4_looks wsX4_looks rm_X4_looks 0 0 B k [.ref (a 0), .int p0] (wX4 k a μ) (fun u => wX4 k a u) post := by
  refine Ctv.of M_X4_looks (Nat.le_of_ble_eq_true rfl) ?_
  intro p e s m args below meth c A C hd ls hl
  have hx := C.1; have hb := C.2.1; have hml := C.2.2.1; have hts := C.2.2.2.2.1
  have hl : lv_has ls 4 [(0, .ref (a 0)), (1, .int p0)] := hl
  rw [wpX4_looks] at hw
  refine lv_aload_n hx hb dX4_looks_0 rfl (lv_at hl 0 rfl) ?_
  refine g_get (v := .ref (a 1)) C hd iX4_looks_X4 0 4 rfl rfl 0 (by decide) (List.mem_of_getElem? (i := 1) rfl) rfl dX4_looks_1 ?_
  refine lv_sipush (v := 148) hx hb dX4_looks_4 (by decide) ?_
  refine lv_iload_n hx hb dX4_looks_7 rfl (lv_at hl 1 rfl) ?_
  refine lv_iadd hx hb dX4_looks_8 ?_
  obtain ⟨h5, hw⟩ := hw
  refine g_ild (f := mo_now μ) C hd 1 rfl h5 dX4_looks_9 ?_
  refine lv_istore_n (lv' := [(2, .int ((mo_now μ) (148 + p0).toNatClampNeg)), (0, .ref (a 0)), (1, .int p0)]) hx hb dX4_looks_10 rfl hl (by decide) rfl (fun ls hl => ?_)
  refine lv_aload_n hx hb dX4_looks_11 rfl (lv_at hl 1 rfl) ?_
  refine lv_iload_n hx hb dX4_looks_12 rfl (lv_at hl 0 rfl) ?_
  refine v_i C hd hl M_X4_state gX4_looks_X4_state (c_X4_state l B k a μ ((mo_now μ) (148 + p0).toNatClampNeg) _ hw) ⟨rfl, rfl⟩ ⟨Nat.le_of_ble_eq_true rfl, Nat.le_of_ble_eq_true rfl⟩ (pm_all _) (fun _ => wX4 k a μ) (fun _ => (pm_all _).symm) 0 4 rfl rfl rfl rfl rfl (Nat.le_of_ble_eq_true rfl) dX4_looks_13 ⟨Nat.le_of_ble_eq_true rfl, Nat.le_of_ble_eq_true rfl⟩ (fun r13 _ H locs hw hd => ?_)
  refine lv_if_ne (tgt := 20) hx hb dX4_looks_16 (by decide) (fun c4 => ?_) (fun c4 => ?_)
  · replace hw := hw.2 c4
    refine lv_aload_n hx hb dX4_looks_20 rfl (lv_at hl 1 rfl) ?_
    refine lv_iload_n hx hb dX4_looks_21 rfl (lv_at hl 2 rfl) ?_
    refine v_i C hd hl M_X4_lends gX4_looks_X4_lends (c_X4_lends l B k a μ p0 _ hw) ⟨rfl, rfl⟩ ⟨Nat.le_of_ble_eq_true rfl, Nat.le_of_ble_eq_true rfl⟩ (pm_all _) (fun _ => wX4 k a μ) (fun _ => (pm_all _).symm) 0 4 rfl rfl rfl rfl rfl (Nat.le_of_ble_eq_true rfl) dX4_looks_22 ⟨Nat.le_of_ble_eq_true rfl, Nat.le_of_ble_eq_true rfl⟩ (fun r22 _ H locs hw hd => ?_)
    refine lv_istore_n (lv' := [(3, .int r22), (2, .int ((mo_now μ) (148 + p0).toNatClampNeg)), (0, .ref (a 0)), (1, .int p0)]) hx hb dX4_looks_25 rfl hl (by decide) rfl (fun ls hl => ?_)
    refine lv_iload_n hx hb dX4_looks_26 rfl (lv_at hl 0 rfl) ?_
    refine lv_bipush (v := (-5)) hx hb dX4_looks_27 (by decide) ?_
    refine lv_icmp_eq (tgt := 81) hx hb dX4_looks_29 (by decide) (fun c5 => ?_) (fun c5 => ?_)
    · replace hw := hw.1 c5
      refine lv_aload_n hx hb dX4_looks_81 rfl (lv_at hl 2 rfl) ?_
      refine lv_iload_n hx hb dX4_looks_82 rfl (lv_at hl 1 rfl) ?_
      refine v_i C hd hl M_X4_state gX4_looks_X4_state (c_X4_state l B k a μ ((mo_now μ) (148 + p0).toNatClampNeg) _ hw) ⟨rfl, rfl⟩ ⟨Nat.le_of_ble_eq_true rfl, Nat.le_of_ble_eq_true rfl⟩ (pm_all _) (fun _ => wX4 k a μ) (fun _ => (pm_all _).symm) 0 4 rfl rfl rfl rfl rfl (Nat.le_of_ble_eq_true rfl) dX4_looks_83 ⟨Nat.le_of_ble_eq_true rfl, Nat.le_of_ble_eq_true rfl⟩ (fun r83 _ H locs hw hd => ?_)
      refine lv_iconst (v := 2) hx hb dX4_looks_86 (by decide) ?_
      refine lv_icmp_ne (tgt := 111) hx hb dX4_looks_87 (by decide) (fun c6 => ?_) (fun c6 => ?_)
      · replace hw := hw.2 c6
        exact r_v C hd dX4_looks_111 μ rfl hw
      · replace hw := hw.1 c6
        refine lv_aload_n hx hb dX4_looks_90 rfl (lv_at hl 2 rfl) ?_
        refine g_get (v := .ref (a 1)) C hd iX4_looks_X4 0 4 rfl rfl 0 (by decide) (List.mem_of_getElem? (i := 1) rfl) rfl dX4_looks_91 ?_
        refine lv_sipush (v := 148) hx hb dX4_looks_94 (by decide) ?_
        refine lv_iload_n hx hb dX4_looks_97 rfl (lv_at hl 3 rfl) ?_
        refine lv_iadd hx hb dX4_looks_98 ?_
        refine lv_iconst (v := (-1)) hx hb dX4_looks_99 (by decide) ?_
        refine g_ist (f := mo_now μ) C hd 1 rfl h5 (wX4 k a (mo_setNow μ (upd (mo_now μ) (148 + p0).toNatClampNeg (-1)))) (wX4_stNow k a _ _) dX4_looks_100 (fun H locs hd => ?_)
        refine lv_aload_n hx hb dX4_looks_101 rfl (lv_at hl 2 rfl) ?_
        refine g_get (v := .ref (a 1)) C hd iX4_looks_X4 0 4 rfl rfl 0 (by decide) (List.mem_of_getElem? (i := 1) rfl) rfl dX4_looks_102 ?_
        refine lv_iconst (v := 5) hx hb dX4_looks_105 (by decide) ?_
        refine lv_dup2_11 hx hb dX4_looks_106 rfl rfl ?_
        obtain ⟨h6, hw⟩ := hw
        refine g_ild (f := upd (mo_now μ) (148 + p0).toNatClampNeg (-1)) C hd 1 rfl h6 dX4_looks_107 ?_
        refine lv_iconst (v := 1) hx hb dX4_looks_108 (by decide) ?_
        refine lv_iadd hx hb dX4_looks_109 ?_
        refine g_ist (f := upd (mo_now μ) (148 + p0).toNatClampNeg (-1)) C hd 1 rfl h6 (wX4 k a (mo_setNow (mo_setNow μ (upd (mo_now μ) (148 + p0).toNatClampNeg (-1))) (upd (upd (mo_now μ) (148 + p0).toNatClampNeg (-1)) (5 : Int32).toNatClampNeg (((upd (mo_now μ) (148 + p0).toNatClampNeg (-1)) (5 : Int32).toNatClampNeg) + 1)))) (wX4_stNow k a _ _) dX4_looks_110 (fun H locs hd => ?_)
        exact r_v C hd dX4_looks_111 (mo_setNow (mo_setNow μ (upd (mo_now μ) (148 + p0).toNatClampNeg (-1))) (upd (upd (mo_now μ) (148 + p0).toNatClampNeg (-1)) (5 : Int32).toNatClampNeg (((upd (mo_now μ) (148 + p0).toNatClampNeg (-1)) (5 : Int32).toNatClampNeg) + 1))) rfl hw
    · replace hw := hw.2 c5
      refine lv_aload_n hx hb dX4_looks_32 rfl (lv_at hl 2 rfl) ?_
      refine g_get (v := .ref (a 1)) C hd iX4_looks_X4 0 4 rfl rfl 0 (by decide) (List.mem_of_getElem? (i := 1) rfl) rfl dX4_looks_33 ?_
      refine lv_sipush (v := 148) hx hb dX4_looks_36 (by decide) ?_
      refine lv_iload_n hx hb dX4_looks_39 rfl (lv_at hl 3 rfl) ?_
      refine lv_iadd hx hb dX4_looks_40 ?_
      refine lv_iload_n hx hb dX4_looks_41 rfl (lv_at hl 0 rfl) ?_
      refine g_ist (f := mo_now μ) C hd 1 rfl h5 (wX4 k a (mo_setNow μ (upd (mo_now μ) (148 + p0).toNatClampNeg r22))) (wX4_stNow k a _ _) dX4_looks_42 (fun H locs hd => ?_)
      refine lv_aload_n hx hb dX4_looks_43 rfl (lv_at hl 2 rfl) ?_
      refine g_get (v := .ref (a 1)) C hd iX4_looks_X4 0 4 rfl rfl 0 (by decide) (List.mem_of_getElem? (i := 1) rfl) rfl dX4_looks_44 ?_
      refine lv_iconst (v := 4) hx hb dX4_looks_47 (by decide) ?_
      refine lv_dup2_11 hx hb dX4_looks_48 rfl rfl ?_
      obtain ⟨h7, hw⟩ := hw
      refine g_ild (f := upd (mo_now μ) (148 + p0).toNatClampNeg r22) C hd 1 rfl h7 dX4_looks_49 ?_
      refine lv_iconst (v := 1) hx hb dX4_looks_50 (by decide) ?_
      refine lv_iadd hx hb dX4_looks_51 ?_
      refine g_ist (f := upd (mo_now μ) (148 + p0).toNatClampNeg r22) C hd 1 rfl h7 (wX4 k a (mo_setNow (mo_setNow μ (upd (mo_now μ) (148 + p0).toNatClampNeg r22)) (upd (upd (mo_now μ) (148 + p0).toNatClampNeg r22) (4 : Int32).toNatClampNeg (((upd (mo_now μ) (148 + p0).toNatClampNeg r22) (4 : Int32).toNatClampNeg) + 1)))) (wX4_stNow k a _ _) dX4_looks_52 (fun H locs hd => ?_)
      refine lv_aload_n hx hb dX4_looks_53 rfl (lv_at hl 2 rfl) ?_
      refine g_get (v := .ref (a 1)) C hd iX4_looks_X4 0 4 rfl rfl 0 (by decide) (List.mem_of_getElem? (i := 1) rfl) rfl dX4_looks_54 ?_
      refine lv_sipush (v := 212) hx hb dX4_looks_57 (by decide) ?_
      refine lv_iload_n hx hb dX4_looks_60 rfl (lv_at hl 3 rfl) ?_
      refine lv_iadd hx hb dX4_looks_61 ?_
      refine lv_dup2_11 hx hb dX4_looks_62 rfl rfl ?_
      obtain ⟨h8, hw⟩ := hw
      refine g_ild (f := upd (upd (mo_now μ) (148 + p0).toNatClampNeg r22) (4 : Int32).toNatClampNeg (((upd (mo_now μ) (148 + p0).toNatClampNeg r22) (4 : Int32).toNatClampNeg) + 1)) C hd 1 rfl h8 dX4_looks_63 ?_
      refine lv_iconst (v := 1) hx hb dX4_looks_64 (by decide) ?_
      refine lv_iadd hx hb dX4_looks_65 ?_
      refine g_ist (f := upd (upd (mo_now μ) (148 + p0).toNatClampNeg r22) (4 : Int32).toNatClampNeg (((upd (mo_now μ) (148 + p0).toNatClampNeg r22) (4 : Int32).toNatClampNeg) + 1)) C hd 1 rfl h8 (wX4 k a (mo_setNow (mo_setNow (mo_setNow μ (upd (mo_now μ) (148 + p0).toNatClampNeg r22)) (upd (upd (mo_now μ) (148 + p0).toNatClampNeg r22) (4 : Int32).toNatClampNeg (((upd (mo_now μ) (148 + p0).toNatClampNeg r22) (4 : Int32).toNatClampNeg) + 1))) (upd (upd (upd (mo_now μ) (148 + p0).toNatClampNeg r22) (4 : Int32).toNatClampNeg (((upd (mo_now μ) (148 + p0).toNatClampNeg r22) (4 : Int32).toNatClampNeg) + 1)) (212 + p0).toNatClampNeg (((upd (upd (mo_now μ) (148 + p0).toNatClampNeg r22) (4 : Int32).toNatClampNeg (((upd (mo_now μ) (148 + p0).toNatClampNeg r22) (4 : Int32).toNatClampNeg) + 1)) (212 + p0).toNatClampNeg) + 1)))) (wX4_stNow k a _ _) dX4_looks_66 (fun H locs hd => ?_)
      refine lv_aload_n hx hb dX4_looks_67 rfl (lv_at hl 2 rfl) ?_
      refine lv_iload_n hx hb dX4_looks_68 rfl (lv_at hl 0 rfl) ?_
      refine v_v C hd hl M_X4_goes gX4_looks_X4_goes (c_X4_goes l B k a (mo_setNow (mo_setNow (mo_setNow μ (upd (mo_now μ) (148 + p0).toNatClampNeg r22)) (upd (upd (mo_now μ) (148 + p0).toNatClampNeg r22) (4 : Int32).toNatClampNeg (((upd (mo_now μ) (148 + p0).toNatClampNeg r22) (4 : Int32).toNatClampNeg) + 1))) (upd (upd (upd (mo_now μ) (148 + p0).toNatClampNeg r22) (4 : Int32).toNatClampNeg (((upd (mo_now μ) (148 + p0).toNatClampNeg r22) (4 : Int32).toNatClampNeg) + 1)) (212 + p0).toNatClampNeg (((upd (upd (mo_now μ) (148 + p0).toNatClampNeg r22) (4 : Int32).toNatClampNeg (((upd (mo_now μ) (148 + p0).toNatClampNeg r22) (4 : Int32).toNatClampNeg) + 1)) (212 + p0).toNatClampNeg) + 1))) r22 _ hw) ⟨rfl, rfl⟩ ⟨Nat.le_of_ble_eq_true rfl, Nat.le_of_ble_eq_true rfl⟩ (pm_all _) (fun u => wX4 k a u) (fun _ => (pm_all _).symm) 0 4 rfl rfl rfl rfl rfl (Nat.le_of_ble_eq_true rfl) dX4_looks_69 ⟨Nat.le_of_ble_eq_true rfl, Nat.le_of_ble_eq_true rfl⟩ (fun μ69 H locs hw hd => ?_)
      refine lv_aload_n hx hb dX4_looks_72 rfl (lv_at hl 2 rfl) ?_
      refine lv_iload_n hx hb dX4_looks_73 rfl (lv_at hl 0 rfl) ?_
      refine lv_iconst (v := 1) hx hb dX4_looks_74 (by decide) ?_
      refine v_v C hd hl M_X4_wears gX4_looks_X4_wears (c_X4_wears l B k a μ69 r22 1 _ hw) ⟨rfl, rfl⟩ ⟨Nat.le_of_ble_eq_true rfl, Nat.le_of_ble_eq_true rfl⟩ (pm_all _) (fun u => wX4 k a u) (fun _ => (pm_all _).symm) 0 4 rfl rfl rfl rfl rfl (Nat.le_of_ble_eq_true rfl) dX4_looks_75 ⟨Nat.le_of_ble_eq_true rfl, Nat.le_of_ble_eq_true rfl⟩ (fun μ75 H locs hw hd => ?_)
      refine lv_goto (tgt := 111) hx hb dX4_looks_78 (by decide) ?_
      exact r_v C hd dX4_looks_111 μ75 rfl hw
  · replace hw := hw.1 c4
    exact r_v C hd dX4_looks_19 μ rfl hw
abbrev rm_X4_reads : Room := { frames := 7, cells := 0, slots := 0, locals := 156 }
theorem M_X4_reads : MI yX4_reads wsX4_reads cX4_reads 3 (some .int) 1 := ⟨⟨_, rfl⟩, by decide +kernel, by decide +kernel, by decide +kernel, by decide +kernel⟩
theorem iX4_reads_X4 : ∀ w ∈ wsX40, w ∈ wsX4_reads := fun _ h => List.mem_cons_of_mem _ (List.mem_append_right _ h)
def wpX4_reads (μ : MO) (p0 : Int32) (post : Int32 → MO → Prop) : Prop := wpX4_isAddress μ p0 (fun b2 => ((b2 = true → wpX4_isLost μ p0 (fun b12 => ((b12 = true → post (-4) μ) ∧ (b12 = false → (vp_in 6 276 ∧ wpX4_goesTo (mo_setNow μ (upd (mo_now μ) (6 : Int32).toNatClampNeg (((mo_now μ) (6 : Int32).toNatClampNeg) + 1))) p0 (fun μ34 => (vp_in (148 + p0) 276 ∧ wpX4_wears μ34 ((mo_now μ34) (148 + p0).toNatClampNeg) 0 (fun μ49 => (vp_in (84 + p0) 276 ∧ wpX4_looks μ49 p0 (fun μ64 => post ((mo_now μ49) (84 + p0).toNatClampNeg) μ64)))))))))) ∧ (b2 = false → post (-1) μ)))
set_option maxHeartbeats 4000000 in
set_option maxRecDepth 100000 in
theorem c_X4_reads (l : Launch) (B : va_G) (k : KT) (a : Nat → Nat) (μ : MO) (p0 : Int32) (post : Int32 → MO → Prop) (hw : wpX4_reads μ p0 post) : Cti l yX4_reads wsX4_reads rm_X4_reads 0 0 B k [.ref (a 0), .int p0] (wX4 k a μ) (fun u => wX4 k a u) post := by
  refine Cti.of M_X4_reads (Nat.le_of_ble_eq_true rfl) ?_
  intro p e s m args below meth c A C hd ls hl
  have hx := C.1; have hb := C.2.1; have hml := C.2.2.1; have hts := C.2.2.2.2.1
  have hl : lv_has ls 3 [(0, .ref (a 0)), (1, .int p0)] := hl
  rw [wpX4_reads] at hw
  refine lv_aload_n hx hb dX4_reads_0 rfl (lv_at hl 0 rfl) ?_
  refine lv_iload_n hx hb dX4_reads_1 rfl (lv_at hl 1 rfl) ?_
  refine v_i C hd hl M_X4_isAddress gX4_reads_X4_isAddress (c_X4_isAddress l B k a μ p0 _ hw) ⟨rfl, rfl⟩ ⟨Nat.le_of_ble_eq_true rfl, Nat.le_of_ble_eq_true rfl⟩ (pm_all _) (fun _ => wX4 k a μ) (fun _ => (pm_all _).symm) 0 4 rfl rfl rfl rfl rfl (Nat.le_of_ble_eq_true rfl) dX4_reads_2 ⟨Nat.le_of_ble_eq_true rfl, Nat.le_of_ble_eq_true rfl⟩ (fun r _ H locs hp hd => ?_)
  obtain ⟨b2, rfl, hw⟩ := hp
  refine lv_if_ne (tgt := 10) hx hb dX4_reads_5 (by decide) (fun c4 => ?_) (fun c4 => ?_)
  · replace hw := hw.1 ((bi_ne _).mp c4)
    refine lv_aload_n hx hb dX4_reads_10 rfl (lv_at hl 0 rfl) ?_
    refine lv_iload_n hx hb dX4_reads_11 rfl (lv_at hl 1 rfl) ?_
    refine v_i C hd hl M_X4_isLost gX4_reads_X4_isLost (c_X4_isLost l B k a μ p0 _ hw) ⟨rfl, rfl⟩ ⟨Nat.le_of_ble_eq_true rfl, Nat.le_of_ble_eq_true rfl⟩ (pm_all _) (fun _ => wX4 k a μ) (fun _ => (pm_all _).symm) 0 4 rfl rfl rfl rfl rfl (Nat.le_of_ble_eq_true rfl) dX4_reads_12 ⟨Nat.le_of_ble_eq_true rfl, Nat.le_of_ble_eq_true rfl⟩ (fun r _ H locs hp hd => ?_)
    obtain ⟨b12, rfl, hw⟩ := hp
    refine lv_if_eq (tgt := 21) hx hb dX4_reads_15 (by decide) (fun c3 => ?_) (fun c3 => ?_)
    · replace hw := hw.2 ((bi_eq _).mp c3)
      refine lv_aload_n hx hb dX4_reads_21 rfl (lv_at hl 0 rfl) ?_
      refine g_get (v := .ref (a 1)) C hd iX4_reads_X4 0 4 rfl rfl 0 (by decide) (List.mem_of_getElem? (i := 1) rfl) rfl dX4_reads_22 ?_
      refine lv_bipush (v := 6) hx hb dX4_reads_25 (by decide) ?_
      refine lv_dup2_11 hx hb dX4_reads_27 rfl rfl ?_
      obtain ⟨h4, hw⟩ := hw
      refine g_ild (f := mo_now μ) C hd 1 rfl h4 dX4_reads_28 ?_
      refine lv_iconst (v := 1) hx hb dX4_reads_29 (by decide) ?_
      refine lv_iadd hx hb dX4_reads_30 ?_
      refine g_ist (f := mo_now μ) C hd 1 rfl h4 (wX4 k a (mo_setNow μ (upd (mo_now μ) (6 : Int32).toNatClampNeg (((mo_now μ) (6 : Int32).toNatClampNeg) + 1)))) (wX4_stNow k a _ _) dX4_reads_31 (fun H locs hd => ?_)
      refine lv_aload_n hx hb dX4_reads_32 rfl (lv_at hl 0 rfl) ?_
      refine lv_iload_n hx hb dX4_reads_33 rfl (lv_at hl 1 rfl) ?_
      refine v_v C hd hl M_X4_goesTo gX4_reads_X4_goesTo (c_X4_goesTo l B k a (mo_setNow μ (upd (mo_now μ) (6 : Int32).toNatClampNeg (((mo_now μ) (6 : Int32).toNatClampNeg) + 1))) p0 _ hw) ⟨rfl, rfl⟩ ⟨Nat.le_of_ble_eq_true rfl, Nat.le_of_ble_eq_true rfl⟩ (pm_all _) (fun u => wX4 k a u) (fun _ => (pm_all _).symm) 0 4 rfl rfl rfl rfl rfl (Nat.le_of_ble_eq_true rfl) dX4_reads_34 ⟨Nat.le_of_ble_eq_true rfl, Nat.le_of_ble_eq_true rfl⟩ (fun μ34 H locs hw hd => ?_)
      refine lv_aload_n hx hb dX4_reads_37 rfl (lv_at hl 0 rfl) ?_
      refine lv_aload_n hx hb dX4_reads_38 rfl (lv_at hl 0 rfl) ?_
      refine g_get (v := .ref (a 1)) C hd iX4_reads_X4 0 4 rfl rfl 0 (by decide) (List.mem_of_getElem? (i := 1) rfl) rfl dX4_reads_39 ?_
      refine lv_sipush (v := 148) hx hb dX4_reads_42 (by decide) ?_
      refine lv_iload_n hx hb dX4_reads_45 rfl (lv_at hl 1 rfl) ?_
      refine lv_iadd hx hb dX4_reads_46 ?_
      obtain ⟨h5, hw⟩ := hw
      refine g_ild (f := mo_now μ34) C hd 1 rfl h5 dX4_reads_47 ?_
      refine lv_iconst (v := 0) hx hb dX4_reads_48 (by decide) ?_
      refine v_v C hd hl M_X4_wears gX4_reads_X4_wears (c_X4_wears l B k a μ34 ((mo_now μ34) (148 + p0).toNatClampNeg) 0 _ hw) ⟨rfl, rfl⟩ ⟨Nat.le_of_ble_eq_true rfl, Nat.le_of_ble_eq_true rfl⟩ (pm_all _) (fun u => wX4 k a u) (fun _ => (pm_all _).symm) 0 4 rfl rfl rfl rfl rfl (Nat.le_of_ble_eq_true rfl) dX4_reads_49 ⟨Nat.le_of_ble_eq_true rfl, Nat.le_of_ble_eq_true rfl⟩ (fun μ49 H locs hw hd => ?_)
      refine lv_aload_n hx hb dX4_reads_52 rfl (lv_at hl 0 rfl) ?_
      refine g_get (v := .ref (a 1)) C hd iX4_reads_X4 0 4 rfl rfl 0 (by decide) (List.mem_of_getElem? (i := 1) rfl) rfl dX4_reads_53 ?_
      refine lv_bipush (v := 84) hx hb dX4_reads_56 (by decide) ?_
      refine lv_iload_n hx hb dX4_reads_58 rfl (lv_at hl 1 rfl) ?_
      refine lv_iadd hx hb dX4_reads_59 ?_
      obtain ⟨h6, hw⟩ := hw
      refine g_ild (f := mo_now μ49) C hd 1 rfl h6 dX4_reads_60 ?_
      refine lv_istore_n (lv' := [(2, .int ((mo_now μ49) (84 + p0).toNatClampNeg)), (0, .ref (a 0)), (1, .int p0)]) hx hb dX4_reads_61 rfl hl (by decide) rfl (fun ls hl => ?_)
      refine lv_aload_n hx hb dX4_reads_62 rfl (lv_at hl 1 rfl) ?_
      refine lv_iload_n hx hb dX4_reads_63 rfl (lv_at hl 2 rfl) ?_
      refine v_v C hd hl M_X4_looks gX4_reads_X4_looks (c_X4_looks l B k a μ49 p0 _ hw) ⟨rfl, rfl⟩ ⟨Nat.le_of_ble_eq_true rfl, Nat.le_of_ble_eq_true rfl⟩ (pm_all _) (fun u => wX4 k a u) (fun _ => (pm_all _).symm) 0 4 rfl rfl rfl rfl rfl (Nat.le_of_ble_eq_true rfl) dX4_reads_64 ⟨Nat.le_of_ble_eq_true rfl, Nat.le_of_ble_eq_true rfl⟩ (fun μ64 H locs hw hd => ?_)
      refine lv_iload_n hx hb dX4_reads_67 rfl (lv_at hl 0 rfl) ?_
      exact r_i C hd dX4_reads_68 μ64 rfl hw
    · replace hw := hw.1 ((bi_ne _).mp c3)
      refine lv_bipush (v := (-4)) hx hb dX4_reads_18 (by decide) ?_
      exact r_i C hd dX4_reads_20 μ rfl hw
  · replace hw := hw.2 ((bi_eq _).mp c4)
    refine lv_iconst (v := (-1)) hx hb dX4_reads_8 (by decide) ?_
    exact r_i C hd dX4_reads_9 μ rfl hw
abbrev rm_X4_writes : Room := { frames := 7, cells := 0, slots := 0, locals := 156 }
theorem M_X4_writes : MI yX4_writes wsX4_writes cX4_writes 4 (some .int) 2 := ⟨⟨_, rfl⟩, by decide +kernel, by decide +kernel, by decide +kernel, by decide +kernel⟩
theorem iX4_writes_X4 : ∀ w ∈ wsX40, w ∈ wsX4_writes := fun _ h => List.mem_cons_of_mem _ (List.mem_append_right _ h)
def wpX4_writes_J58 (p0 : Int32) (p1 : Int32) (post : Int32 → MO → Prop) (μ58 : MO) : Prop := (vp_in 7 276 ∧ wpX4_goesTo (mo_setNow μ58 (upd (mo_now μ58) (7 : Int32).toNatClampNeg (((mo_now μ58) (7 : Int32).toNatClampNeg) + 1))) p0 (fun μ71 => (vp_in (148 + p0) 276 ∧ wpX4_wears μ71 ((mo_now μ71) (148 + p0).toNatClampNeg) 1 (fun μ86 => (vp_in (84 + p0) 276 ∧ wpX4_looks (mo_setNow μ86 (upd (mo_now μ86) (84 + p0).toNatClampNeg p1)) p0 (fun μ101 => wpX4_isLost μ101 p0 (fun b106 => ((b106 = true → post 100 μ101) ∧ (b106 = false → post ((mo_now μ101) (148 + p0).toNatClampNeg) μ101)))))))))
def wpX4_writes (μ : MO) (p0 : Int32) (p1 : Int32) (post : Int32 → MO → Prop) : Prop := wpX4_isAddress μ p0 (fun b2 => ((b2 = true → wpX4_in p1 0 999 (fun b15 => ((b15 = true → wpX4_isLost μ p0 (fun b26 => ((b26 = true → wpX4_lends μ p0 (fun r34 => ((r34 = (-5) → post (-4) μ) ∧ (¬ r34 = (-5) → (vp_in (148 + p0) 276 ∧ wpX4_writes_J58 p0 p1 post (mo_setNow μ (upd (mo_now μ) (148 + p0).toNatClampNeg r34))))))) ∧ (b26 = false → wpX4_writes_J58 p0 p1 post μ)))) ∧ (b15 = false → post (-2) μ)))) ∧ (b2 = false → post (-1) μ)))
set_option maxHeartbeats 4000000 in
set_option maxRecDepth 100000 in
theorem c_X4_writes (l : Launch) (B : va_G) (k : KT) (a : Nat → Nat) (μ : MO) (p0 : Int32) (p1 : Int32) (post : Int32 → MO → Prop) (hw : wpX4_writes μ p0 p1 post) : Cti l yX4_writes wsX4_writes rm_X4_writes 0 0 B k [.ref (a 0), .int p0, .int p1] (wX4 k a μ) (fun u => wX4 k a u) post := by
  refine Cti.of M_X4_writes (Nat.le_of_ble_eq_true rfl) ?_
  intro p e s m args below meth c A C hd ls hl
  have hx := C.1; have hb := C.2.1; have hml := C.2.2.1; have hts := C.2.2.2.2.1
  have hl : lv_has ls 4 [(0, .ref (a 0)), (1, .int p0), (2, .int p1)] := hl
  have J58 : ∀ (μ58 : MO) (H : Heap) (locs : List Loc) (ls : Array Slot), Wd B A s.heap (wX4 k a μ58) H locs → lv_has ls 4 [(0, .ref (a 0)), (1, .int p0), (2, .int p1)] → wpX4_writes_J58 p0 p1 post μ58 → W p l e rm_X4_writes s m args below meth c H locs 0 0 (Qi below args s B A (fun u => wX4 k a u) post 0 0) (F0 m 58 ls []) := by
    intro μ58 H locs ls hd hl hw
    rw [wpX4_writes_J58] at hw
    refine lv_aload_n hx hb dX4_writes_58 rfl (lv_at hl 0 rfl) ?_
    refine g_get (v := .ref (a 1)) C hd iX4_writes_X4 0 4 rfl rfl 0 (by decide) (List.mem_of_getElem? (i := 1) rfl) rfl dX4_writes_59 ?_
    refine lv_bipush (v := 7) hx hb dX4_writes_62 (by decide) ?_
    refine lv_dup2_11 hx hb dX4_writes_64 rfl rfl ?_
    obtain ⟨h14, hw⟩ := hw
    refine g_ild (f := mo_now μ58) C hd 1 rfl h14 dX4_writes_65 ?_
    refine lv_iconst (v := 1) hx hb dX4_writes_66 (by decide) ?_
    refine lv_iadd hx hb dX4_writes_67 ?_
    refine g_ist (f := mo_now μ58) C hd 1 rfl h14 (wX4 k a (mo_setNow μ58 (upd (mo_now μ58) (7 : Int32).toNatClampNeg (((mo_now μ58) (7 : Int32).toNatClampNeg) + 1)))) (wX4_stNow k a _ _) dX4_writes_68 (fun H locs hd => ?_)
    refine lv_aload_n hx hb dX4_writes_69 rfl (lv_at hl 0 rfl) ?_
    refine lv_iload_n hx hb dX4_writes_70 rfl (lv_at hl 1 rfl) ?_
    refine v_v C hd hl M_X4_goesTo gX4_writes_X4_goesTo (c_X4_goesTo l B k a (mo_setNow μ58 (upd (mo_now μ58) (7 : Int32).toNatClampNeg (((mo_now μ58) (7 : Int32).toNatClampNeg) + 1))) p0 _ hw) ⟨rfl, rfl⟩ ⟨Nat.le_of_ble_eq_true rfl, Nat.le_of_ble_eq_true rfl⟩ (pm_all _) (fun u => wX4 k a u) (fun _ => (pm_all _).symm) 0 4 rfl rfl rfl rfl rfl (Nat.le_of_ble_eq_true rfl) dX4_writes_71 ⟨Nat.le_of_ble_eq_true rfl, Nat.le_of_ble_eq_true rfl⟩ (fun μ71 H locs hw hd => ?_)
    refine lv_aload_n hx hb dX4_writes_74 rfl (lv_at hl 0 rfl) ?_
    refine lv_aload_n hx hb dX4_writes_75 rfl (lv_at hl 0 rfl) ?_
    refine g_get (v := .ref (a 1)) C hd iX4_writes_X4 0 4 rfl rfl 0 (by decide) (List.mem_of_getElem? (i := 1) rfl) rfl dX4_writes_76 ?_
    refine lv_sipush (v := 148) hx hb dX4_writes_79 (by decide) ?_
    refine lv_iload_n hx hb dX4_writes_82 rfl (lv_at hl 1 rfl) ?_
    refine lv_iadd hx hb dX4_writes_83 ?_
    obtain ⟨h15, hw⟩ := hw
    refine g_ild (f := mo_now μ71) C hd 1 rfl h15 dX4_writes_84 ?_
    refine lv_iconst (v := 1) hx hb dX4_writes_85 (by decide) ?_
    refine v_v C hd hl M_X4_wears gX4_writes_X4_wears (c_X4_wears l B k a μ71 ((mo_now μ71) (148 + p0).toNatClampNeg) 1 _ hw) ⟨rfl, rfl⟩ ⟨Nat.le_of_ble_eq_true rfl, Nat.le_of_ble_eq_true rfl⟩ (pm_all _) (fun u => wX4 k a u) (fun _ => (pm_all _).symm) 0 4 rfl rfl rfl rfl rfl (Nat.le_of_ble_eq_true rfl) dX4_writes_86 ⟨Nat.le_of_ble_eq_true rfl, Nat.le_of_ble_eq_true rfl⟩ (fun μ86 H locs hw hd => ?_)
    refine lv_aload_n hx hb dX4_writes_89 rfl (lv_at hl 0 rfl) ?_
    refine g_get (v := .ref (a 1)) C hd iX4_writes_X4 0 4 rfl rfl 0 (by decide) (List.mem_of_getElem? (i := 1) rfl) rfl dX4_writes_90 ?_
    refine lv_bipush (v := 84) hx hb dX4_writes_93 (by decide) ?_
    refine lv_iload_n hx hb dX4_writes_95 rfl (lv_at hl 1 rfl) ?_
    refine lv_iadd hx hb dX4_writes_96 ?_
    refine lv_iload_n hx hb dX4_writes_97 rfl (lv_at hl 2 rfl) ?_
    obtain ⟨h16, hw⟩ := hw
    refine g_ist (f := mo_now μ86) C hd 1 rfl h16 (wX4 k a (mo_setNow μ86 (upd (mo_now μ86) (84 + p0).toNatClampNeg p1))) (wX4_stNow k a _ _) dX4_writes_98 (fun H locs hd => ?_)
    refine lv_aload_n hx hb dX4_writes_99 rfl (lv_at hl 0 rfl) ?_
    refine lv_iload_n hx hb dX4_writes_100 rfl (lv_at hl 1 rfl) ?_
    refine v_v C hd hl M_X4_looks gX4_writes_X4_looks (c_X4_looks l B k a (mo_setNow μ86 (upd (mo_now μ86) (84 + p0).toNatClampNeg p1)) p0 _ hw) ⟨rfl, rfl⟩ ⟨Nat.le_of_ble_eq_true rfl, Nat.le_of_ble_eq_true rfl⟩ (pm_all _) (fun u => wX4 k a u) (fun _ => (pm_all _).symm) 0 4 rfl rfl rfl rfl rfl (Nat.le_of_ble_eq_true rfl) dX4_writes_101 ⟨Nat.le_of_ble_eq_true rfl, Nat.le_of_ble_eq_true rfl⟩ (fun μ101 H locs hw hd => ?_)
    refine lv_aload_n hx hb dX4_writes_104 rfl (lv_at hl 0 rfl) ?_
    refine lv_iload_n hx hb dX4_writes_105 rfl (lv_at hl 1 rfl) ?_
    refine v_i C hd hl M_X4_isLost gX4_writes_X4_isLost (c_X4_isLost l B k a μ101 p0 _ hw) ⟨rfl, rfl⟩ ⟨Nat.le_of_ble_eq_true rfl, Nat.le_of_ble_eq_true rfl⟩ (pm_all _) (fun _ => wX4 k a μ101) (fun _ => (pm_all _).symm) 0 4 rfl rfl rfl rfl rfl (Nat.le_of_ble_eq_true rfl) dX4_writes_106 ⟨Nat.le_of_ble_eq_true rfl, Nat.le_of_ble_eq_true rfl⟩ (fun r _ H locs hp hd => ?_)
    obtain ⟨b106, rfl, hw⟩ := hp
    refine lv_if_eq (tgt := 117) hx hb dX4_writes_109 (by decide) (fun c9 => ?_) (fun c9 => ?_)
    · replace hw := hw.2 ((bi_eq _).mp c9)
      refine lv_aload_n hx hb dX4_writes_117 rfl (lv_at hl 0 rfl) ?_
      refine g_get (v := .ref (a 1)) C hd iX4_writes_X4 0 4 rfl rfl 0 (by decide) (List.mem_of_getElem? (i := 1) rfl) rfl dX4_writes_118 ?_
      refine lv_sipush (v := 148) hx hb dX4_writes_121 (by decide) ?_
      refine lv_iload_n hx hb dX4_writes_124 rfl (lv_at hl 1 rfl) ?_
      refine lv_iadd hx hb dX4_writes_125 ?_
      refine g_ild (f := mo_now μ101) C hd 1 rfl h15 dX4_writes_126 ?_
      exact r_i C hd dX4_writes_127 μ101 rfl hw
    · replace hw := hw.1 ((bi_ne _).mp c9)
      refine lv_bipush (v := 100) hx hb dX4_writes_112 (by decide) ?_
      refine lv_goto (tgt := 127) hx hb dX4_writes_114 (by decide) ?_
      exact r_i C hd dX4_writes_127 μ101 rfl hw
  rw [wpX4_writes] at hw
  refine lv_aload_n hx hb dX4_writes_0 rfl (lv_at hl 0 rfl) ?_
  refine lv_iload_n hx hb dX4_writes_1 rfl (lv_at hl 1 rfl) ?_
  refine v_i C hd hl M_X4_isAddress gX4_writes_X4_isAddress (c_X4_isAddress l B k a μ p0 _ hw) ⟨rfl, rfl⟩ ⟨Nat.le_of_ble_eq_true rfl, Nat.le_of_ble_eq_true rfl⟩ (pm_all _) (fun _ => wX4 k a μ) (fun _ => (pm_all _).symm) 0 4 rfl rfl rfl rfl rfl (Nat.le_of_ble_eq_true rfl) dX4_writes_2 ⟨Nat.le_of_ble_eq_true rfl, Nat.le_of_ble_eq_true rfl⟩ (fun r _ H locs hp hd => ?_)
  obtain ⟨b2, rfl, hw⟩ := hp
  refine lv_if_ne (tgt := 10) hx hb dX4_writes_5 (by decide) (fun c13 => ?_) (fun c13 => ?_)
  · replace hw := hw.1 ((bi_ne _).mp c13)
    refine lv_iload_n hx hb dX4_writes_10 rfl (lv_at hl 2 rfl) ?_
    refine lv_iconst (v := 0) hx hb dX4_writes_11 (by decide) ?_
    refine lv_sipush (v := 999) hx hb dX4_writes_12 (by decide) ?_
    refine s_i C hd hl M_X4_in gX4_writes_X4_in rfl (c_X4_in l B k p1 0 999 _ hw) ⟨rfl, rfl⟩ ⟨Nat.le_of_ble_eq_true rfl, Nat.le_of_ble_eq_true rfl⟩ (pm_non _) (fun _ => wX4 k a μ) (fun _ => List.Perm.refl _) rfl rfl (Nat.le_of_ble_eq_true rfl) dX4_writes_15 ⟨Nat.le_of_ble_eq_true rfl, Nat.le_of_ble_eq_true rfl⟩ (fun r _ H locs hp hd => ?_)
    obtain ⟨b15, rfl, hw⟩ := hp
    refine lv_if_ne (tgt := 24) hx hb dX4_writes_18 (by decide) (fun c12 => ?_) (fun c12 => ?_)
    · replace hw := hw.1 ((bi_ne _).mp c12)
      refine lv_aload_n hx hb dX4_writes_24 rfl (lv_at hl 0 rfl) ?_
      refine lv_iload_n hx hb dX4_writes_25 rfl (lv_at hl 1 rfl) ?_
      refine v_i C hd hl M_X4_isLost gX4_writes_X4_isLost (c_X4_isLost l B k a μ p0 _ hw) ⟨rfl, rfl⟩ ⟨Nat.le_of_ble_eq_true rfl, Nat.le_of_ble_eq_true rfl⟩ (pm_all _) (fun _ => wX4 k a μ) (fun _ => (pm_all _).symm) 0 4 rfl rfl rfl rfl rfl (Nat.le_of_ble_eq_true rfl) dX4_writes_26 ⟨Nat.le_of_ble_eq_true rfl, Nat.le_of_ble_eq_true rfl⟩ (fun r _ H locs hp hd => ?_)
      obtain ⟨b26, rfl, hw⟩ := hp
      refine lv_if_eq (tgt := 58) hx hb dX4_writes_29 (by decide) (fun c11 => ?_) (fun c11 => ?_)
      · replace hw := hw.2 ((bi_eq _).mp c11)
        exact J58 μ _ _ _ hd (lv_sub hl [0, 1, 2] rfl) hw
      · replace hw := hw.1 ((bi_ne _).mp c11)
        refine lv_aload_n hx hb dX4_writes_32 rfl (lv_at hl 0 rfl) ?_
        refine lv_iload_n hx hb dX4_writes_33 rfl (lv_at hl 1 rfl) ?_
        refine v_i C hd hl M_X4_lends gX4_writes_X4_lends (c_X4_lends l B k a μ p0 _ hw) ⟨rfl, rfl⟩ ⟨Nat.le_of_ble_eq_true rfl, Nat.le_of_ble_eq_true rfl⟩ (pm_all _) (fun _ => wX4 k a μ) (fun _ => (pm_all _).symm) 0 4 rfl rfl rfl rfl rfl (Nat.le_of_ble_eq_true rfl) dX4_writes_34 ⟨Nat.le_of_ble_eq_true rfl, Nat.le_of_ble_eq_true rfl⟩ (fun r34 _ H locs hw hd => ?_)
        refine lv_istore_n (lv' := [(3, .int r34), (0, .ref (a 0)), (1, .int p0), (2, .int p1)]) hx hb dX4_writes_37 rfl hl (by decide) rfl (fun ls hl => ?_)
        refine lv_iload_n hx hb dX4_writes_38 rfl (lv_at hl 0 rfl) ?_
        refine lv_bipush (v := (-5)) hx hb dX4_writes_39 (by decide) ?_
        refine lv_icmp_ne (tgt := 47) hx hb dX4_writes_41 (by decide) (fun c10 => ?_) (fun c10 => ?_)
        · replace hw := hw.2 c10
          refine lv_aload_n hx hb dX4_writes_47 rfl (lv_at hl 1 rfl) ?_
          refine g_get (v := .ref (a 1)) C hd iX4_writes_X4 0 4 rfl rfl 0 (by decide) (List.mem_of_getElem? (i := 1) rfl) rfl dX4_writes_48 ?_
          refine lv_sipush (v := 148) hx hb dX4_writes_51 (by decide) ?_
          refine lv_iload_n hx hb dX4_writes_54 rfl (lv_at hl 2 rfl) ?_
          refine lv_iadd hx hb dX4_writes_55 ?_
          refine lv_iload_n hx hb dX4_writes_56 rfl (lv_at hl 0 rfl) ?_
          obtain ⟨h17, hw⟩ := hw
          refine g_ist (f := mo_now μ) C hd 1 rfl h17 (wX4 k a (mo_setNow μ (upd (mo_now μ) (148 + p0).toNatClampNeg r34))) (wX4_stNow k a _ _) dX4_writes_57 (fun H locs hd => ?_)
          exact J58 (mo_setNow μ (upd (mo_now μ) (148 + p0).toNatClampNeg r34)) _ _ _ hd (lv_sub hl [1, 2, 3] rfl) hw
        · replace hw := hw.1 c10
          refine lv_bipush (v := (-4)) hx hb dX4_writes_44 (by decide) ?_
          exact r_i C hd dX4_writes_46 μ rfl hw
    · replace hw := hw.2 ((bi_eq _).mp c12)
      refine lv_bipush (v := (-2)) hx hb dX4_writes_21 (by decide) ?_
      exact r_i C hd dX4_writes_23 μ rfl hw
  · replace hw := hw.2 ((bi_eq _).mp c13)
    refine lv_iconst (v := (-1)) hx hb dX4_writes_8 (by decide) ?_
    exact r_i C hd dX4_writes_9 μ rfl hw
abbrev rm_X4_setLimit : Room := { frames := 1, cells := 0, slots := 0, locals := 22 }
theorem M_X4_setLimit : MI yX4_setLimit wsX4_setLimit cX4_setLimit 3 (some .int) 1 := ⟨⟨_, rfl⟩, by decide +kernel, by decide +kernel, by decide +kernel, by decide +kernel⟩
theorem iX4_setLimit_X4 : ∀ w ∈ wsX40, w ∈ wsX4_setLimit := fun _ h => List.mem_cons_of_mem _ (List.mem_append_right _ h)
def wpX4_setLimit (μ : MO) (p0 : Int32) (post : Int32 → MO → Prop) : Prop := wpX4_in p0 1 999 (fun b5 => ((b5 = true → (vp_in 0 276 ∧ ((((mo_now μ) (0 : Int32).toNatClampNeg) = p0 → post (-5) μ) ∧ (¬ ((mo_now μ) (0 : Int32).toNatClampNeg) = p0 → wpX4_record (mo_now μ) (mo_history μ, mo_kept μ) (fun η34 => post ((mo_now μ) (0 : Int32).toNatClampNeg) (mo_setNow (mo_setKept (mo_setHistory μ (rk_history η34)) (rk_kept η34)) (upd (mo_now μ) (0 : Int32).toNatClampNeg p0))))))) ∧ (b5 = false → post (-2) μ)))
set_option maxHeartbeats 4000000 in
set_option maxRecDepth 100000 in
theorem c_X4_setLimit (l : Launch) (B : va_G) (k : KT) (a : Nat → Nat) (μ : MO) (p0 : Int32) (post : Int32 → MO → Prop) (hw : wpX4_setLimit μ p0 post) : Cti l yX4_setLimit wsX4_setLimit rm_X4_setLimit 0 0 B k [.ref (a 0), .int p0] (wX4 k a μ) (fun u => wX4 k a u) post := by
  refine Cti.of M_X4_setLimit (Nat.le_of_ble_eq_true rfl) ?_
  intro p e s m args below meth c A C hd ls hl
  have hx := C.1; have hb := C.2.1; have hml := C.2.2.1; have hts := C.2.2.2.2.1
  have hl : lv_has ls 3 [(0, .ref (a 0)), (1, .int p0)] := hl
  rw [wpX4_setLimit] at hw
  refine lv_iload_n hx hb dX4_setLimit_0 rfl (lv_at hl 1 rfl) ?_
  refine lv_iconst (v := 1) hx hb dX4_setLimit_1 (by decide) ?_
  refine lv_sipush (v := 999) hx hb dX4_setLimit_2 (by decide) ?_
  refine s_i C hd hl M_X4_in gX4_setLimit_X4_in rfl (c_X4_in l B k p0 1 999 _ hw) ⟨rfl, rfl⟩ ⟨Nat.le_of_ble_eq_true rfl, Nat.le_of_ble_eq_true rfl⟩ (pm_non _) (fun _ => wX4 k a μ) (fun _ => List.Perm.refl _) rfl rfl (Nat.le_of_ble_eq_true rfl) dX4_setLimit_5 ⟨Nat.le_of_ble_eq_true rfl, Nat.le_of_ble_eq_true rfl⟩ (fun r _ H locs hp hd => ?_)
  obtain ⟨b5, rfl, hw⟩ := hp
  refine lv_if_ne (tgt := 14) hx hb dX4_setLimit_8 (by decide) (fun c4 => ?_) (fun c4 => ?_)
  · replace hw := hw.1 ((bi_ne _).mp c4)
    refine lv_aload_n hx hb dX4_setLimit_14 rfl (lv_at hl 0 rfl) ?_
    refine g_get (v := .ref (a 1)) C hd iX4_setLimit_X4 0 4 rfl rfl 0 (by decide) (List.mem_of_getElem? (i := 1) rfl) rfl dX4_setLimit_15 ?_
    refine lv_iconst (v := 0) hx hb dX4_setLimit_18 (by decide) ?_
    obtain ⟨h2, hw⟩ := hw
    refine g_ild (f := mo_now μ) C hd 1 rfl h2 dX4_setLimit_19 ?_
    refine lv_istore_n (lv' := [(2, .int ((mo_now μ) (0 : Int32).toNatClampNeg)), (0, .ref (a 0)), (1, .int p0)]) hx hb dX4_setLimit_20 rfl hl (by decide) rfl (fun ls hl => ?_)
    refine lv_iload_n hx hb dX4_setLimit_21 rfl (lv_at hl 0 rfl) ?_
    refine lv_iload_n hx hb dX4_setLimit_22 rfl (lv_at hl 2 rfl) ?_
    refine lv_icmp_ne (tgt := 29) hx hb dX4_setLimit_23 (by decide) (fun c3 => ?_) (fun c3 => ?_)
    · replace hw := hw.2 c3
      refine lv_aload_n hx hb dX4_setLimit_29 rfl (lv_at hl 1 rfl) ?_
      refine lv_aload_n hx hb dX4_setLimit_30 rfl (lv_at hl 1 rfl) ?_
      refine g_get (v := .ref (a 1)) C hd iX4_setLimit_X4 0 4 rfl rfl 0 (by decide) (List.mem_of_getElem? (i := 1) rfl) rfl dX4_setLimit_31 ?_
      refine v_v C hd hl M_X4_record gX4_setLimit_X4_record (c_X4_record l B k a μ (a 1) (mo_now μ) (mo_history μ, mo_kept μ) _ hw) ⟨rfl, rfl⟩ ⟨Nat.le_of_ble_eq_true rfl, Nat.le_of_ble_eq_true rfl⟩ (pm_pick3 0 4 0 rfl rfl rfl) (fun u => wX4 k a (mo_setKept (mo_setHistory μ (rk_history u)) (rk_kept u))) (fun u => (pm_pick3 (ws := wX4 k a (mo_setKept (mo_setHistory μ (rk_history u)) (rk_kept u))) 0 4 0 rfl rfl rfl).symm) 0 4 rfl rfl rfl rfl rfl (Nat.le_of_ble_eq_true rfl) dX4_setLimit_34 ⟨Nat.le_of_ble_eq_true rfl, Nat.le_of_ble_eq_true rfl⟩ (fun η34 H locs hw hd => ?_)
      refine lv_aload_n hx hb dX4_setLimit_37 rfl (lv_at hl 1 rfl) ?_
      refine g_get (v := .ref (a 1)) C hd iX4_setLimit_X4 0 4 rfl rfl 0 (by decide) (List.mem_of_getElem? (i := 1) rfl) rfl dX4_setLimit_38 ?_
      refine lv_iconst (v := 0) hx hb dX4_setLimit_41 (by decide) ?_
      refine lv_iload_n hx hb dX4_setLimit_42 rfl (lv_at hl 2 rfl) ?_
      refine g_ist (f := mo_now μ) C hd 1 rfl h2 (wX4 k a (mo_setNow (mo_setKept (mo_setHistory μ (rk_history η34)) (rk_kept η34)) (upd (mo_now μ) (0 : Int32).toNatClampNeg p0))) (wX4_stNow k a _ _) dX4_setLimit_43 (fun H locs hd => ?_)
      refine lv_iload_n hx hb dX4_setLimit_44 rfl (lv_at hl 0 rfl) ?_
      exact r_i C hd dX4_setLimit_45 (mo_setNow (mo_setKept (mo_setHistory μ (rk_history η34)) (rk_kept η34)) (upd (mo_now μ) (0 : Int32).toNatClampNeg p0)) rfl hw
    · replace hw := hw.1 c3
      refine lv_bipush (v := (-5)) hx hb dX4_setLimit_26 (by decide) ?_
      exact r_i C hd dX4_setLimit_28 μ rfl hw
  · replace hw := hw.2 ((bi_eq _).mp c4)
    refine lv_bipush (v := (-2)) hx hb dX4_setLimit_11 (by decide) ?_
    exact r_i C hd dX4_setLimit_13 μ rfl hw
abbrev rm_X4_wear : Room := { frames := 0, cells := 0, slots := 0, locals := 0 }
theorem M_X4_wear : MI yX4_wear wsX4_wear cX4_wear 4 (some .int) 1 := ⟨⟨_, rfl⟩, by decide +kernel, by decide +kernel, by decide +kernel, by decide +kernel⟩
theorem iX4_wear_X4 : ∀ w ∈ wsX40, w ∈ wsX4_wear := fun _ h => List.mem_cons_of_mem _ (List.mem_append_right _ h)
def wpX4_wear_L4 (μ : MO) (p0 : Int32) (post : Int32 → Prop) : Nat → Int32 → Int32 → Prop
  | 0, _, _ => False
  | n + 1, v4l2, v4l3 => ((16 ≤ v4l3 → post v4l2) ∧ (¬ 16 ≤ v4l3 → (vp_in ((20 + (16 * p0)) + v4l3) 276 ∧ wpX4_wear_L4 μ p0 post n (v4l2 + ((mo_now μ) ((20 + (16 * p0)) + v4l3).toNatClampNeg)) (v4l3 + 1))))
def wpX4_wear (μ : MO) (p0 : Int32) (post : Int32 → Prop) : Prop := ∃ n : Nat, wpX4_wear_L4 μ p0 post n 0 0
set_option maxHeartbeats 4000000 in
set_option maxRecDepth 100000 in
theorem c_X4_wear (l : Launch) (B : va_G) (k : KT) (a : Nat → Nat) (μ : MO) (p0 : Int32) (post : Int32 → Prop) (hw : wpX4_wear μ p0 post) : Cti l yX4_wear wsX4_wear rm_X4_wear 0 0 B k [.ref (a 0), .int p0] (wX4 k a μ) (fun _ : Unit => wX4 k a μ) (fun r _ => post r) := by
  refine Cti.of M_X4_wear (Nat.le_of_ble_eq_true rfl) ?_
  intro p e s m args below meth c A C hd ls hl
  have hx := C.1; have hb := C.2.1; have hml := C.2.2.1; have hts := C.2.2.2.2.1
  have hl : lv_has ls 4 [(0, .ref (a 0)), (1, .int p0)] := hl
  have L4 : ∀ (n : Nat), ∀ (v4l2 : Int32) (v4l3 : Int32) (H : Heap) (locs : List Loc) (ls : Array Slot), Wd B A s.heap (wX4 k a μ) H locs → lv_has ls 4 [(0, .ref (a 0)), (1, .int p0), (2, .int v4l2), (3, .int v4l3)] → wpX4_wear_L4 μ p0 post n v4l2 v4l3 → W p l e rm_X4_wear s m args below meth c H locs 0 0 (Qi below args s B A (fun _ : Unit => wX4 k a μ) (fun r _ => post r) 0 0) (F0 m 4 ls []) := by
    intro n
    induction n with
    | zero => intro v4l2 v4l3 H locs ls hd hl hw; exact absurd hw (by simp [wpX4_wear_L4])
    | succ n ih =>
      intro v4l2 v4l3 H locs ls hd hl hw
      rw [wpX4_wear_L4] at hw
      refine lv_iload_n hx hb dX4_wear_4 rfl (lv_at hl 3 rfl) ?_
      refine lv_bipush (v := 16) hx hb dX4_wear_5 (by decide) ?_
      refine lv_icmp_ge (tgt := 33) hx hb dX4_wear_7 (by decide) (fun c5 => ?_) (fun c5 => ?_)
      · replace hw := hw.1 c5
        refine lv_iload_n hx hb dX4_wear_33 rfl (lv_at hl 2 rfl) ?_
        exact r_i C hd dX4_wear_34 () rfl hw
      · replace hw := hw.2 c5
        refine lv_iload_n hx hb dX4_wear_10 rfl (lv_at hl 2 rfl) ?_
        refine lv_aload_n hx hb dX4_wear_11 rfl (lv_at hl 0 rfl) ?_
        refine g_get (v := .ref (a 1)) C hd iX4_wear_X4 0 4 rfl rfl 0 (by decide) (List.mem_of_getElem? (i := 1) rfl) rfl dX4_wear_12 ?_
        refine lv_bipush (v := 20) hx hb dX4_wear_15 (by decide) ?_
        refine lv_bipush (v := 16) hx hb dX4_wear_17 (by decide) ?_
        refine lv_iload_n hx hb dX4_wear_19 rfl (lv_at hl 1 rfl) ?_
        refine lv_imul hx hb dX4_wear_20 ?_
        refine lv_iadd hx hb dX4_wear_21 ?_
        refine lv_iload_n hx hb dX4_wear_22 rfl (lv_at hl 3 rfl) ?_
        refine lv_iadd hx hb dX4_wear_23 ?_
        obtain ⟨h5, hw⟩ := hw
        refine g_ild (f := mo_now μ) C hd 1 rfl h5 dX4_wear_24 ?_
        refine lv_iadd hx hb dX4_wear_25 ?_
        refine lv_istore_n (lv' := [(2, .int (v4l2 + ((mo_now μ) ((20 + (16 * p0)) + v4l3).toNatClampNeg))), (0, .ref (a 0)), (1, .int p0), (3, .int v4l3)]) hx hb dX4_wear_26 rfl hl (by decide) rfl (fun ls hl => ?_)
        refine lv_iinc (v := v4l3 + 1) (lv' := [(3, .int (v4l3 + 1)), (2, .int (v4l2 + ((mo_now μ) ((20 + (16 * p0)) + v4l3).toNatClampNeg))), (0, .ref (a 0)), (1, .int p0)]) hx hb dX4_wear_27 hl (k := 3) rfl rfl (by decide) rfl (fun ls hl => ?_)
        refine lv_goto (tgt := 4) hx hb dX4_wear_30 (by decide) ?_
        exact ih (v4l2 + ((mo_now μ) ((20 + (16 * p0)) + v4l3).toNatClampNeg)) (v4l3 + 1) _ _ _ hd (lv_sub hl [2, 3, 1, 0] rfl) hw
  rw [wpX4_wear] at hw
  refine lv_iconst (v := 0) hx hb dX4_wear_0 (by decide) ?_
  refine lv_istore_n (lv' := [(2, .int 0), (0, .ref (a 0)), (1, .int p0)]) hx hb dX4_wear_1 rfl hl (by decide) rfl (fun ls hl => ?_)
  refine lv_iconst (v := 0) hx hb dX4_wear_2 (by decide) ?_
  refine lv_istore_n (lv' := [(3, .int 0), (2, .int 0), (0, .ref (a 0)), (1, .int p0)]) hx hb dX4_wear_3 rfl hl (by decide) rfl (fun ls hl => ?_)
  obtain ⟨n, hw⟩ := hw
  exact L4 n 0 0 _ _ _ hd (lv_sub hl [2, 3, 1, 0] rfl) hw
abbrev rm_X4_setHead : Room := { frames := 2, cells := 0, slots := 0, locals := 42 }
theorem M_X4_setHead : MI yX4_setHead wsX4_setHead cX4_setHead 6 (some .int) 3 := ⟨⟨_, rfl⟩, by decide +kernel, by decide +kernel, by decide +kernel, by decide +kernel⟩
theorem iX4_setHead_X4 : ∀ w ∈ wsX40, w ∈ wsX4_setHead := fun _ h => List.mem_cons_of_mem _ (List.mem_append_right _ h)
def wpX4_setHead_J70 (μ : MO) (p0 : Int32) (p2 : Int32) (post : Int32 → MO → Prop) (v70s0 : Int32) : Prop := (vp_in (v70s0 + p0) 276 ∧ ((((mo_now μ) (v70s0 + p0).toNatClampNeg) = p2 → post (-5) μ) ∧ (¬ ((mo_now μ) (v70s0 + p0).toNatClampNeg) = p2 → wpX4_record (mo_now μ) (mo_history μ, mo_kept μ) (fun η97 => post ((mo_now μ) (v70s0 + p0).toNatClampNeg) (mo_setNow (mo_setKept (mo_setHistory μ (rk_history η97)) (rk_kept η97)) (upd (mo_now μ) (v70s0 + p0).toNatClampNeg p2))))))
def wpX4_setHead_J59 (μ : MO) (p0 : Int32) (p1 : Int32) (p2 : Int32) (post : Int32 → MO → Prop)  : Prop := ((p1 = 0 → wpX4_setHead_J70 μ p0 p2 post 12) ∧ (¬ p1 = 0 → wpX4_setHead_J70 μ p0 p2 post 8))
def wpX4_setHead_J22 (μ : MO) (p0 : Int32) (p1 : Int32) (p2 : Int32) (post : Int32 → MO → Prop) (v22s2 : Int32) : Prop := wpX4_in p2 1 v22s2 (fun b22 => ((b22 = true → ((p1 = 0 → wpX4_wear μ p0 (fun r37 => ((0 < r37 → post (-4) μ) ∧ (¬ 0 < r37 → (vp_in (16 + p0) 276 ∧ ((((mo_now μ) (16 + p0).toNatClampNeg) = 1 → post (-4) μ) ∧ (¬ ((mo_now μ) (16 + p0).toNatClampNeg) = 1 → wpX4_setHead_J59 μ p0 p1 p2 post ))))))) ∧ (¬ p1 = 0 → wpX4_setHead_J59 μ p0 p1 p2 post ))) ∧ (b22 = false → post (-2) μ)))
def wpX4_setHead (μ : MO) (p0 : Int32) (p1 : Int32) (p2 : Int32) (post : Int32 → MO → Prop) : Prop := wpX4_isHead p0 (fun b1 => ((b1 = true → ((p1 = 0 → wpX4_setHead_J22 μ p0 p1 p2 post 6) ∧ (¬ p1 = 0 → wpX4_setHead_J22 μ p0 p1 p2 post 9))) ∧ (b1 = false → post (-1) μ)))
set_option maxHeartbeats 4000000 in
set_option maxRecDepth 100000 in
theorem c_X4_setHead (l : Launch) (B : va_G) (k : KT) (a : Nat → Nat) (μ : MO) (p0 : Int32) (p1 : Int32) (p2 : Int32) (post : Int32 → MO → Prop) (hw : wpX4_setHead μ p0 p1 p2 post) : Cti l yX4_setHead wsX4_setHead rm_X4_setHead 0 0 B k [.ref (a 0), .int p0, .int p1, .int p2] (wX4 k a μ) (fun u => wX4 k a u) post := by
  refine Cti.of M_X4_setHead (Nat.le_of_ble_eq_true rfl) ?_
  intro p e s m args below meth c A C hd ls hl
  have hx := C.1; have hb := C.2.1; have hml := C.2.2.1; have hts := C.2.2.2.2.1
  have hl : lv_has ls 6 [(0, .ref (a 0)), (1, .int p0), (2, .int p1), (3, .int p2)] := hl
  have J70 : ∀ (v70s0 : Int32) (H : Heap) (locs : List Loc) (ls : Array Slot), Wd B A s.heap (wX4 k a μ) H locs → lv_has ls 6 [(0, .ref (a 0)), (1, .int p0), (3, .int p2)] → wpX4_setHead_J70 μ p0 p2 post v70s0 → W p l e rm_X4_setHead s m args below meth c H locs 0 0 (Qi below args s B A (fun u => wX4 k a u) post 0 0) (F0 m 70 ls [.int v70s0]) := by
    intro v70s0 H locs ls hd hl hw
    rw [wpX4_setHead_J70] at hw
    refine lv_iload_n hx hb dX4_setHead_70 rfl (lv_at hl 1 rfl) ?_
    refine lv_iadd hx hb dX4_setHead_71 ?_
    refine lv_istore (lv' := [(4, .int (v70s0 + p0)), (0, .ref (a 0)), (1, .int p0), (3, .int p2)]) hx hb dX4_setHead_72 hl (by decide) rfl (fun ls hl => ?_)
    refine lv_aload_n hx hb dX4_setHead_74 rfl (lv_at hl 1 rfl) ?_
    refine g_get (v := .ref (a 1)) C hd iX4_setHead_X4 0 4 rfl rfl 0 (by decide) (List.mem_of_getElem? (i := 1) rfl) rfl dX4_setHead_75 ?_
    refine lv_iload hx hb dX4_setHead_78 (lv_at hl 0 rfl) ?_
    obtain ⟨h9, hw⟩ := hw
    refine g_ild (f := mo_now μ) C hd 1 rfl h9 dX4_setHead_80 ?_
    refine lv_istore (lv' := [(5, .int ((mo_now μ) (v70s0 + p0).toNatClampNeg)), (4, .int (v70s0 + p0)), (0, .ref (a 0)), (1, .int p0), (3, .int p2)]) hx hb dX4_setHead_81 hl (by decide) rfl (fun ls hl => ?_)
    refine lv_iload hx hb dX4_setHead_83 (lv_at hl 0 rfl) ?_
    refine lv_iload_n hx hb dX4_setHead_85 rfl (lv_at hl 4 rfl) ?_
    refine lv_icmp_ne (tgt := 92) hx hb dX4_setHead_86 (by decide) (fun c27 => ?_) (fun c27 => ?_)
    · replace hw := hw.2 c27
      refine lv_aload_n hx hb dX4_setHead_92 rfl (lv_at hl 2 rfl) ?_
      refine lv_aload_n hx hb dX4_setHead_93 rfl (lv_at hl 2 rfl) ?_
      refine g_get (v := .ref (a 1)) C hd iX4_setHead_X4 0 4 rfl rfl 0 (by decide) (List.mem_of_getElem? (i := 1) rfl) rfl dX4_setHead_94 ?_
      refine v_v C hd hl M_X4_record gX4_setHead_X4_record (c_X4_record l B k a μ (a 1) (mo_now μ) (mo_history μ, mo_kept μ) _ hw) ⟨rfl, rfl⟩ ⟨Nat.le_of_ble_eq_true rfl, Nat.le_of_ble_eq_true rfl⟩ (pm_pick3 0 4 0 rfl rfl rfl) (fun u => wX4 k a (mo_setKept (mo_setHistory μ (rk_history u)) (rk_kept u))) (fun u => (pm_pick3 (ws := wX4 k a (mo_setKept (mo_setHistory μ (rk_history u)) (rk_kept u))) 0 4 0 rfl rfl rfl).symm) 0 4 rfl rfl rfl rfl rfl (Nat.le_of_ble_eq_true rfl) dX4_setHead_97 ⟨Nat.le_of_ble_eq_true rfl, Nat.le_of_ble_eq_true rfl⟩ (fun η97 H locs hw hd => ?_)
      refine lv_aload_n hx hb dX4_setHead_100 rfl (lv_at hl 2 rfl) ?_
      refine g_get (v := .ref (a 1)) C hd iX4_setHead_X4 0 4 rfl rfl 0 (by decide) (List.mem_of_getElem? (i := 1) rfl) rfl dX4_setHead_101 ?_
      refine lv_iload hx hb dX4_setHead_104 (lv_at hl 1 rfl) ?_
      refine lv_iload_n hx hb dX4_setHead_106 rfl (lv_at hl 4 rfl) ?_
      refine g_ist (f := mo_now μ) C hd 1 rfl h9 (wX4 k a (mo_setNow (mo_setKept (mo_setHistory μ (rk_history η97)) (rk_kept η97)) (upd (mo_now μ) (v70s0 + p0).toNatClampNeg p2))) (wX4_stNow k a _ _) dX4_setHead_107 (fun H locs hd => ?_)
      refine lv_iload hx hb dX4_setHead_108 (lv_at hl 0 rfl) ?_
      exact r_i C hd dX4_setHead_110 (mo_setNow (mo_setKept (mo_setHistory μ (rk_history η97)) (rk_kept η97)) (upd (mo_now μ) (v70s0 + p0).toNatClampNeg p2)) rfl hw
    · replace hw := hw.1 c27
      refine lv_bipush (v := (-5)) hx hb dX4_setHead_89 (by decide) ?_
      exact r_i C hd dX4_setHead_91 μ rfl hw
  have J59 : ∀ (H : Heap) (locs : List Loc) (ls : Array Slot), Wd B A s.heap (wX4 k a μ) H locs → lv_has ls 6 [(0, .ref (a 0)), (1, .int p0), (2, .int p1), (3, .int p2)] → wpX4_setHead_J59 μ p0 p1 p2 post  → W p l e rm_X4_setHead s m args below meth c H locs 0 0 (Qi below args s B A (fun u => wX4 k a u) post 0 0) (F0 m 59 ls []) := by
    intro  H locs ls hd hl hw
    rw [wpX4_setHead_J59] at hw
    refine lv_iload_n hx hb dX4_setHead_59 rfl (lv_at hl 2 rfl) ?_
    refine lv_if_eq (tgt := 68) hx hb dX4_setHead_60 (by decide) (fun c28 => ?_) (fun c28 => ?_)
    · replace hw := hw.1 c28
      refine lv_bipush (v := 12) hx hb dX4_setHead_68 (by decide) ?_
      exact J70 12 _ _ _ hd (lv_sub hl [0, 1, 3] rfl) hw
    · replace hw := hw.2 c28
      refine lv_bipush (v := 8) hx hb dX4_setHead_63 (by decide) ?_
      refine lv_goto (tgt := 70) hx hb dX4_setHead_65 (by decide) ?_
      exact J70 8 _ _ _ hd (lv_sub hl [0, 1, 3] rfl) hw
  have J22 : ∀ (v22s2 : Int32) (H : Heap) (locs : List Loc) (ls : Array Slot), Wd B A s.heap (wX4 k a μ) H locs → lv_has ls 6 [(0, .ref (a 0)), (1, .int p0), (2, .int p1), (3, .int p2)] → wpX4_setHead_J22 μ p0 p1 p2 post v22s2 → W p l e rm_X4_setHead s m args below meth c H locs 0 0 (Qi below args s B A (fun u => wX4 k a u) post 0 0) (F0 m 22 ls [.int v22s2, .int 1, .int p2]) := by
    intro v22s2 H locs ls hd hl hw
    rw [wpX4_setHead_J22] at hw
    refine s_i C hd hl M_X4_in gX4_setHead_X4_in rfl (c_X4_in l B k p2 1 v22s2 _ hw) ⟨rfl, rfl⟩ ⟨Nat.le_of_ble_eq_true rfl, Nat.le_of_ble_eq_true rfl⟩ (pm_non _) (fun _ => wX4 k a μ) (fun _ => List.Perm.refl _) rfl rfl (Nat.le_of_ble_eq_true rfl) dX4_setHead_22 ⟨Nat.le_of_ble_eq_true rfl, Nat.le_of_ble_eq_true rfl⟩ (fun r _ H locs hp hd => ?_)
    obtain ⟨b22, rfl, hw⟩ := hp
    refine lv_if_ne (tgt := 31) hx hb dX4_setHead_25 (by decide) (fun c32 => ?_) (fun c32 => ?_)
    · replace hw := hw.1 ((bi_ne _).mp c32)
      refine lv_iload_n hx hb dX4_setHead_31 rfl (lv_at hl 2 rfl) ?_
      refine lv_if_ne (tgt := 59) hx hb dX4_setHead_32 (by decide) (fun c29 => ?_) (fun c29 => ?_)
      · replace hw := hw.2 c29
        exact J59  _ _ _ hd (lv_sub hl [0, 1, 2, 3] rfl) hw
      · replace hw := hw.1 c29
        refine lv_aload_n hx hb dX4_setHead_35 rfl (lv_at hl 0 rfl) ?_
        refine lv_iload_n hx hb dX4_setHead_36 rfl (lv_at hl 1 rfl) ?_
        refine v_i C hd hl M_X4_wear gX4_setHead_X4_wear (c_X4_wear l B k a μ p0 _ hw) ⟨rfl, rfl⟩ ⟨Nat.le_of_ble_eq_true rfl, Nat.le_of_ble_eq_true rfl⟩ (pm_all _) (fun _ => wX4 k a μ) (fun _ => (pm_all _).symm) 0 4 rfl rfl rfl rfl rfl (Nat.le_of_ble_eq_true rfl) dX4_setHead_37 ⟨Nat.le_of_ble_eq_true rfl, Nat.le_of_ble_eq_true rfl⟩ (fun r37 _ H locs hw hd => ?_)
        refine lv_if_gt (tgt := 56) hx hb dX4_setHead_40 (by decide) (fun c30 => ?_) (fun c30 => ?_)
        · replace hw := hw.1 c30
          refine lv_bipush (v := (-4)) hx hb dX4_setHead_56 (by decide) ?_
          exact r_i C hd dX4_setHead_58 μ rfl hw
        · replace hw := hw.2 c30
          refine lv_aload_n hx hb dX4_setHead_43 rfl (lv_at hl 0 rfl) ?_
          refine g_get (v := .ref (a 1)) C hd iX4_setHead_X4 0 4 rfl rfl 0 (by decide) (List.mem_of_getElem? (i := 1) rfl) rfl dX4_setHead_44 ?_
          refine lv_bipush (v := 16) hx hb dX4_setHead_47 (by decide) ?_
          refine lv_iload_n hx hb dX4_setHead_49 rfl (lv_at hl 1 rfl) ?_
          refine lv_iadd hx hb dX4_setHead_50 ?_
          obtain ⟨h10, hw⟩ := hw
          refine g_ild (f := mo_now μ) C hd 1 rfl h10 dX4_setHead_51 ?_
          refine lv_iconst (v := 1) hx hb dX4_setHead_52 (by decide) ?_
          refine lv_icmp_ne (tgt := 59) hx hb dX4_setHead_53 (by decide) (fun c31 => ?_) (fun c31 => ?_)
          · replace hw := hw.2 c31
            exact J59  _ _ _ hd (lv_sub hl [0, 1, 2, 3] rfl) hw
          · replace hw := hw.1 c31
            refine lv_bipush (v := (-4)) hx hb dX4_setHead_56 (by decide) ?_
            exact r_i C hd dX4_setHead_58 μ rfl hw
    · replace hw := hw.2 ((bi_eq _).mp c32)
      refine lv_bipush (v := (-2)) hx hb dX4_setHead_28 (by decide) ?_
      exact r_i C hd dX4_setHead_30 μ rfl hw
  rw [wpX4_setHead] at hw
  refine lv_iload_n hx hb dX4_setHead_0 rfl (lv_at hl 1 rfl) ?_
  refine s_i C hd hl M_X4_isHead gX4_setHead_X4_isHead rfl (c_X4_isHead l B k p0 _ hw) ⟨rfl, rfl⟩ ⟨Nat.le_of_ble_eq_true rfl, Nat.le_of_ble_eq_true rfl⟩ (pm_non _) (fun _ => wX4 k a μ) (fun _ => List.Perm.refl _) rfl rfl (Nat.le_of_ble_eq_true rfl) dX4_setHead_1 ⟨Nat.le_of_ble_eq_true rfl, Nat.le_of_ble_eq_true rfl⟩ (fun r _ H locs hp hd => ?_)
  obtain ⟨b1, rfl, hw⟩ := hp
  refine lv_if_ne (tgt := 9) hx hb dX4_setHead_4 (by decide) (fun c34 => ?_) (fun c34 => ?_)
  · replace hw := hw.1 ((bi_ne _).mp c34)
    refine lv_iload_n hx hb dX4_setHead_9 rfl (lv_at hl 3 rfl) ?_
    refine lv_iconst (v := 1) hx hb dX4_setHead_10 (by decide) ?_
    refine lv_iload_n hx hb dX4_setHead_11 rfl (lv_at hl 2 rfl) ?_
    refine lv_if_eq (tgt := 20) hx hb dX4_setHead_12 (by decide) (fun c33 => ?_) (fun c33 => ?_)
    · replace hw := hw.1 c33
      refine lv_bipush (v := 6) hx hb dX4_setHead_20 (by decide) ?_
      exact J22 6 _ _ _ hd (lv_sub hl [0, 1, 2, 3] rfl) hw
    · replace hw := hw.2 c33
      refine lv_bipush (v := 9) hx hb dX4_setHead_15 (by decide) ?_
      refine lv_goto (tgt := 22) hx hb dX4_setHead_17 (by decide) ?_
      exact J22 9 _ _ _ hd (lv_sub hl [0, 1, 2, 3] rfl) hw
  · replace hw := hw.2 ((bi_eq _).mp c34)
    refine lv_iconst (v := (-1)) hx hb dX4_setHead_7 (by decide) ?_
    exact r_i C hd dX4_setHead_8 μ rfl hw
abbrev rm_X4_read : Room := { frames := 8, cells := 0, slots := 0, locals := 178 }
theorem M_X4_read : MI yX4_read wsX4_read cX4_read 3 (some .int) 1 := ⟨⟨_, rfl⟩, by decide +kernel, by decide +kernel, by decide +kernel, by decide +kernel⟩
theorem iX4_read_X4 : ∀ w ∈ wsX40, w ∈ wsX4_read := fun _ h => List.mem_cons_of_mem _ (List.mem_append_right _ h)
def wpX4_read (μ : MO) (p0 : Int32) (post : Int32 → MO → Prop) : Prop := wpX4_copies (mo_now μ) (mo_spare μ) (fun g8 => wpX4_reads (mo_setSpare μ g8) p0 (fun r13 μ13 => ((r13 < 0 → post r13 μ13) ∧ (¬ r13 < 0 → wpX4_record (mo_spare μ13) (mo_history μ13, mo_kept μ13) (fun η26 => post r13 (mo_setKept (mo_setHistory μ13 (rk_history η26)) (rk_kept η26)))))))
set_option maxHeartbeats 4000000 in
set_option maxRecDepth 100000 in
theorem c_X4_read (l : Launch) (B : va_G) (k : KT) (a : Nat → Nat) (μ : MO) (p0 : Int32) (post : Int32 → MO → Prop) (hw : wpX4_read μ p0 post) : Cti l yX4_read wsX4_read rm_X4_read 0 0 B k [.ref (a 0), .int p0] (wX4 k a μ) (fun u => wX4 k a u) post := by
  refine Cti.of M_X4_read (Nat.le_of_ble_eq_true rfl) ?_
  intro p e s m args below meth c A C hd ls hl
  have hx := C.1; have hb := C.2.1; have hml := C.2.2.1; have hts := C.2.2.2.2.1
  have hl : lv_has ls 3 [(0, .ref (a 0)), (1, .int p0)] := hl
  rw [wpX4_read] at hw
  refine lv_aload_n hx hb dX4_read_0 rfl (lv_at hl 0 rfl) ?_
  refine g_get (v := .ref (a 1)) C hd iX4_read_X4 0 4 rfl rfl 0 (by decide) (List.mem_of_getElem? (i := 1) rfl) rfl dX4_read_1 ?_
  refine lv_aload_n hx hb dX4_read_4 rfl (lv_at hl 0 rfl) ?_
  refine g_get (v := .ref (a 2)) C hd iX4_read_X4 0 4 rfl rfl 1 (by decide) (List.mem_of_getElem? (i := 2) rfl) rfl dX4_read_5 ?_
  refine s_v C hd hl M_X4_copies gX4_read_X4_copies rfl (c_X4_copies l B k (a 1) (a 2) (mo_now μ) (mo_spare μ) _ hw) ⟨rfl, rfl⟩ ⟨Nat.le_of_ble_eq_true rfl, Nat.le_of_ble_eq_true rfl⟩ (pm_pick2 1 1 rfl rfl) (fun u => wX4 k a (mo_setSpare μ u)) (fun u => (pm_pick2 (ws := wX4 k a (mo_setSpare μ u)) 1 1 rfl rfl).symm) rfl rfl (Nat.le_of_ble_eq_true rfl) dX4_read_8 ⟨Nat.le_of_ble_eq_true rfl, Nat.le_of_ble_eq_true rfl⟩ (fun g8 H locs hw hd => ?_)
  refine lv_aload_n hx hb dX4_read_11 rfl (lv_at hl 0 rfl) ?_
  refine lv_iload_n hx hb dX4_read_12 rfl (lv_at hl 1 rfl) ?_
  refine v_i C hd hl M_X4_reads gX4_read_X4_reads (c_X4_reads l B k a (mo_setSpare μ g8) p0 _ hw) ⟨rfl, rfl⟩ ⟨Nat.le_of_ble_eq_true rfl, Nat.le_of_ble_eq_true rfl⟩ (pm_all _) (fun u => wX4 k a u) (fun _ => (pm_all _).symm) 0 4 rfl rfl rfl rfl rfl (Nat.le_of_ble_eq_true rfl) dX4_read_13 ⟨Nat.le_of_ble_eq_true rfl, Nat.le_of_ble_eq_true rfl⟩ (fun r13 μ13 H locs hw hd => ?_)
  refine lv_istore_n (lv' := [(2, .int r13), (0, .ref (a 0)), (1, .int p0)]) hx hb dX4_read_16 rfl hl (by decide) rfl (fun ls hl => ?_)
  refine lv_iload_n hx hb dX4_read_17 rfl (lv_at hl 0 rfl) ?_
  refine lv_if_lt (tgt := 29) hx hb dX4_read_18 (by decide) (fun c2 => ?_) (fun c2 => ?_)
  · replace hw := hw.1 c2
    refine lv_iload_n hx hb dX4_read_29 rfl (lv_at hl 0 rfl) ?_
    exact r_i C hd dX4_read_30 μ13 rfl hw
  · replace hw := hw.2 c2
    refine lv_aload_n hx hb dX4_read_21 rfl (lv_at hl 1 rfl) ?_
    refine lv_aload_n hx hb dX4_read_22 rfl (lv_at hl 1 rfl) ?_
    refine g_get (v := .ref (a 2)) C hd iX4_read_X4 0 4 rfl rfl 1 (by decide) (List.mem_of_getElem? (i := 2) rfl) rfl dX4_read_23 ?_
    refine v_v C hd hl M_X4_record gX4_read_X4_record (c_X4_record l B k a μ13 (a 2) (mo_spare μ13) (mo_history μ13, mo_kept μ13) _ hw) ⟨rfl, rfl⟩ ⟨Nat.le_of_ble_eq_true rfl, Nat.le_of_ble_eq_true rfl⟩ (pm_pick3 0 4 1 rfl rfl rfl) (fun u => wX4 k a (mo_setKept (mo_setHistory μ13 (rk_history u)) (rk_kept u))) (fun u => (pm_pick3 (ws := wX4 k a (mo_setKept (mo_setHistory μ13 (rk_history u)) (rk_kept u))) 0 4 1 rfl rfl rfl).symm) 0 4 rfl rfl rfl rfl rfl (Nat.le_of_ble_eq_true rfl) dX4_read_26 ⟨Nat.le_of_ble_eq_true rfl, Nat.le_of_ble_eq_true rfl⟩ (fun η26 H locs hw hd => ?_)
    refine lv_iload_n hx hb dX4_read_29 rfl (lv_at hl 0 rfl) ?_
    exact r_i C hd dX4_read_30 (mo_setKept (mo_setHistory μ13 (rk_history η26)) (rk_kept η26)) rfl hw
abbrev rm_X4_write : Room := { frames := 8, cells := 0, slots := 0, locals := 179 }
theorem M_X4_write : MI yX4_write wsX4_write cX4_write 4 (some .int) 2 := ⟨⟨_, rfl⟩, by decide +kernel, by decide +kernel, by decide +kernel, by decide +kernel⟩
theorem iX4_write_X4 : ∀ w ∈ wsX40, w ∈ wsX4_write := fun _ h => List.mem_cons_of_mem _ (List.mem_append_right _ h)
def wpX4_write (μ : MO) (p0 : Int32) (p1 : Int32) (post : Int32 → MO → Prop) : Prop := wpX4_copies (mo_now μ) (mo_spare μ) (fun g8 => wpX4_writes (mo_setSpare μ g8) p0 p1 (fun r14 μ14 => ((r14 < 0 → post r14 μ14) ∧ (¬ r14 < 0 → wpX4_record (mo_spare μ14) (mo_history μ14, mo_kept μ14) (fun η27 => post r14 (mo_setKept (mo_setHistory μ14 (rk_history η27)) (rk_kept η27)))))))
set_option maxHeartbeats 4000000 in
set_option maxRecDepth 100000 in
theorem c_X4_write (l : Launch) (B : va_G) (k : KT) (a : Nat → Nat) (μ : MO) (p0 : Int32) (p1 : Int32) (post : Int32 → MO → Prop) (hw : wpX4_write μ p0 p1 post) : Cti l yX4_write wsX4_write rm_X4_write 0 0 B k [.ref (a 0), .int p0, .int p1] (wX4 k a μ) (fun u => wX4 k a u) post := by
  refine Cti.of M_X4_write (Nat.le_of_ble_eq_true rfl) ?_
  intro p e s m args below meth c A C hd ls hl
  have hx := C.1; have hb := C.2.1; have hml := C.2.2.1; have hts := C.2.2.2.2.1
  have hl : lv_has ls 4 [(0, .ref (a 0)), (1, .int p0), (2, .int p1)] := hl
  rw [wpX4_write] at hw
  refine lv_aload_n hx hb dX4_write_0 rfl (lv_at hl 0 rfl) ?_
  refine g_get (v := .ref (a 1)) C hd iX4_write_X4 0 4 rfl rfl 0 (by decide) (List.mem_of_getElem? (i := 1) rfl) rfl dX4_write_1 ?_
  refine lv_aload_n hx hb dX4_write_4 rfl (lv_at hl 0 rfl) ?_
  refine g_get (v := .ref (a 2)) C hd iX4_write_X4 0 4 rfl rfl 1 (by decide) (List.mem_of_getElem? (i := 2) rfl) rfl dX4_write_5 ?_
  refine s_v C hd hl M_X4_copies gX4_write_X4_copies rfl (c_X4_copies l B k (a 1) (a 2) (mo_now μ) (mo_spare μ) _ hw) ⟨rfl, rfl⟩ ⟨Nat.le_of_ble_eq_true rfl, Nat.le_of_ble_eq_true rfl⟩ (pm_pick2 1 1 rfl rfl) (fun u => wX4 k a (mo_setSpare μ u)) (fun u => (pm_pick2 (ws := wX4 k a (mo_setSpare μ u)) 1 1 rfl rfl).symm) rfl rfl (Nat.le_of_ble_eq_true rfl) dX4_write_8 ⟨Nat.le_of_ble_eq_true rfl, Nat.le_of_ble_eq_true rfl⟩ (fun g8 H locs hw hd => ?_)
  refine lv_aload_n hx hb dX4_write_11 rfl (lv_at hl 0 rfl) ?_
  refine lv_iload_n hx hb dX4_write_12 rfl (lv_at hl 1 rfl) ?_
  refine lv_iload_n hx hb dX4_write_13 rfl (lv_at hl 2 rfl) ?_
  refine v_i C hd hl M_X4_writes gX4_write_X4_writes (c_X4_writes l B k a (mo_setSpare μ g8) p0 p1 _ hw) ⟨rfl, rfl⟩ ⟨Nat.le_of_ble_eq_true rfl, Nat.le_of_ble_eq_true rfl⟩ (pm_all _) (fun u => wX4 k a u) (fun _ => (pm_all _).symm) 0 4 rfl rfl rfl rfl rfl (Nat.le_of_ble_eq_true rfl) dX4_write_14 ⟨Nat.le_of_ble_eq_true rfl, Nat.le_of_ble_eq_true rfl⟩ (fun r14 μ14 H locs hw hd => ?_)
  refine lv_istore_n (lv' := [(3, .int r14), (0, .ref (a 0)), (1, .int p0), (2, .int p1)]) hx hb dX4_write_17 rfl hl (by decide) rfl (fun ls hl => ?_)
  refine lv_iload_n hx hb dX4_write_18 rfl (lv_at hl 0 rfl) ?_
  refine lv_if_lt (tgt := 30) hx hb dX4_write_19 (by decide) (fun c2 => ?_) (fun c2 => ?_)
  · replace hw := hw.1 c2
    refine lv_iload_n hx hb dX4_write_30 rfl (lv_at hl 0 rfl) ?_
    exact r_i C hd dX4_write_31 μ14 rfl hw
  · replace hw := hw.2 c2
    refine lv_aload_n hx hb dX4_write_22 rfl (lv_at hl 1 rfl) ?_
    refine lv_aload_n hx hb dX4_write_23 rfl (lv_at hl 1 rfl) ?_
    refine g_get (v := .ref (a 2)) C hd iX4_write_X4 0 4 rfl rfl 1 (by decide) (List.mem_of_getElem? (i := 2) rfl) rfl dX4_write_24 ?_
    refine v_v C hd hl M_X4_record gX4_write_X4_record (c_X4_record l B k a μ14 (a 2) (mo_spare μ14) (mo_history μ14, mo_kept μ14) _ hw) ⟨rfl, rfl⟩ ⟨Nat.le_of_ble_eq_true rfl, Nat.le_of_ble_eq_true rfl⟩ (pm_pick3 0 4 1 rfl rfl rfl) (fun u => wX4 k a (mo_setKept (mo_setHistory μ14 (rk_history u)) (rk_kept u))) (fun u => (pm_pick3 (ws := wX4 k a (mo_setKept (mo_setHistory μ14 (rk_history u)) (rk_kept u))) 0 4 1 rfl rfl rfl).symm) 0 4 rfl rfl rfl rfl rfl (Nat.le_of_ble_eq_true rfl) dX4_write_27 ⟨Nat.le_of_ble_eq_true rfl, Nat.le_of_ble_eq_true rfl⟩ (fun η27 H locs hw hd => ?_)
    refine lv_iload_n hx hb dX4_write_30 rfl (lv_at hl 0 rfl) ?_
    exact r_i C hd dX4_write_31 (mo_setKept (mo_setHistory μ14 (rk_history η27)) (rk_kept η27)) rfl hw
abbrev rm_X4_copiesOne : Room := { frames := 8, cells := 0, slots := 0, locals := 179 }
theorem M_X4_copiesOne : MI yX4_copiesOne wsX4_copiesOne cX4_copiesOne 4 (some .boolean) 2 := ⟨⟨_, rfl⟩, by decide +kernel, by decide +kernel, by decide +kernel, by decide +kernel⟩
theorem iX4_copiesOne_X4 : ∀ w ∈ wsX40, w ∈ wsX4_copiesOne := fun _ h => List.mem_cons_of_mem _ (List.mem_append_right _ h)
def wpX4_copiesOne_J32  (post : Bool → MO → Prop) (μ32 : MO) : Prop := wpX4_copies (mo_pair μ32) (mo_now μ32) (fun g40 => post false (mo_setNow μ32 g40))
def wpX4_copiesOne (μ : MO) (p0 : Int32) (p1 : Int32) (post : Bool → MO → Prop) : Prop := wpX4_copies (mo_now μ) (mo_pair μ) (fun g8 => wpX4_reads (mo_setPair μ g8) p0 (fun r13 μ13 => ((r13 < 0 → wpX4_copiesOne_J32 post μ13) ∧ (¬ r13 < 0 → wpX4_writes μ13 p1 r13 (fun r24 μ24 => ((r24 < 0 → wpX4_copiesOne_J32 post μ24) ∧ (¬ r24 < 0 → post true μ24)))))))
set_option maxHeartbeats 4000000 in
set_option maxRecDepth 100000 in
theorem c_X4_copiesOne (l : Launch) (B : va_G) (k : KT) (a : Nat → Nat) (μ : MO) (p0 : Int32) (p1 : Int32) (post : Bool → MO → Prop) (hw : wpX4_copiesOne μ p0 p1 post) : Cti l yX4_copiesOne wsX4_copiesOne rm_X4_copiesOne 0 0 B k [.ref (a 0), .int p0, .int p1] (wX4 k a μ) (fun u => wX4 k a u) (bpost post) := by
  refine Cti.of M_X4_copiesOne (Nat.le_of_ble_eq_true rfl) ?_
  intro p e s m args below meth c A C hd ls hl
  have hx := C.1; have hb := C.2.1; have hml := C.2.2.1; have hts := C.2.2.2.2.1
  have hl : lv_has ls 4 [(0, .ref (a 0)), (1, .int p0), (2, .int p1)] := hl
  have J32 : ∀ (μ32 : MO) (H : Heap) (locs : List Loc) (ls : Array Slot), Wd B A s.heap (wX4 k a μ32) H locs → lv_has ls 4 [(0, .ref (a 0))] → wpX4_copiesOne_J32  post μ32 → W p l e rm_X4_copiesOne s m args below meth c H locs 0 0 (Qi below args s B A (fun u => wX4 k a u) (bpost post) 0 0) (F0 m 32 ls []) := by
    intro μ32 H locs ls hd hl hw
    rw [wpX4_copiesOne_J32] at hw
    refine lv_aload_n hx hb dX4_copiesOne_32 rfl (lv_at hl 0 rfl) ?_
    refine g_get (v := .ref (a 3)) C hd iX4_copiesOne_X4 0 4 rfl rfl 2 (by decide) (List.mem_of_getElem? (i := 2) rfl) rfl dX4_copiesOne_33 ?_
    refine lv_aload_n hx hb dX4_copiesOne_36 rfl (lv_at hl 0 rfl) ?_
    refine g_get (v := .ref (a 1)) C hd iX4_copiesOne_X4 0 4 rfl rfl 0 (by decide) (List.mem_of_getElem? (i := 1) rfl) rfl dX4_copiesOne_37 ?_
    refine s_v C hd hl M_X4_copies gX4_copiesOne_X4_copies rfl (c_X4_copies l B k (a 3) (a 1) (mo_pair μ32) (mo_now μ32) _ hw) ⟨rfl, rfl⟩ ⟨Nat.le_of_ble_eq_true rfl, Nat.le_of_ble_eq_true rfl⟩ (pm_pick2 3 1 rfl rfl) (fun u => wX4 k a (mo_setNow μ32 u)) (fun u => (pm_pick2 (ws := wX4 k a (mo_setNow μ32 u)) 3 1 rfl rfl).symm) rfl rfl (Nat.le_of_ble_eq_true rfl) dX4_copiesOne_40 ⟨Nat.le_of_ble_eq_true rfl, Nat.le_of_ble_eq_true rfl⟩ (fun g40 H locs hw hd => ?_)
    refine lv_iconst (v := 0) hx hb dX4_copiesOne_43 (by decide) ?_
    exact r_z false C hd dX4_copiesOne_44 (mo_setNow μ32 g40) rfl hw
  rw [wpX4_copiesOne] at hw
  refine lv_aload_n hx hb dX4_copiesOne_0 rfl (lv_at hl 0 rfl) ?_
  refine g_get (v := .ref (a 1)) C hd iX4_copiesOne_X4 0 4 rfl rfl 0 (by decide) (List.mem_of_getElem? (i := 1) rfl) rfl dX4_copiesOne_1 ?_
  refine lv_aload_n hx hb dX4_copiesOne_4 rfl (lv_at hl 0 rfl) ?_
  refine g_get (v := .ref (a 3)) C hd iX4_copiesOne_X4 0 4 rfl rfl 2 (by decide) (List.mem_of_getElem? (i := 2) rfl) rfl dX4_copiesOne_5 ?_
  refine s_v C hd hl M_X4_copies gX4_copiesOne_X4_copies rfl (c_X4_copies l B k (a 1) (a 3) (mo_now μ) (mo_pair μ) _ hw) ⟨rfl, rfl⟩ ⟨Nat.le_of_ble_eq_true rfl, Nat.le_of_ble_eq_true rfl⟩ (pm_pick2 1 2 rfl rfl) (fun u => wX4 k a (mo_setPair μ u)) (fun u => (pm_pick2 (ws := wX4 k a (mo_setPair μ u)) 1 2 rfl rfl).symm) rfl rfl (Nat.le_of_ble_eq_true rfl) dX4_copiesOne_8 ⟨Nat.le_of_ble_eq_true rfl, Nat.le_of_ble_eq_true rfl⟩ (fun g8 H locs hw hd => ?_)
  refine lv_aload_n hx hb dX4_copiesOne_11 rfl (lv_at hl 0 rfl) ?_
  refine lv_iload_n hx hb dX4_copiesOne_12 rfl (lv_at hl 1 rfl) ?_
  refine v_i C hd hl M_X4_reads gX4_copiesOne_X4_reads (c_X4_reads l B k a (mo_setPair μ g8) p0 _ hw) ⟨rfl, rfl⟩ ⟨Nat.le_of_ble_eq_true rfl, Nat.le_of_ble_eq_true rfl⟩ (pm_all _) (fun u => wX4 k a u) (fun _ => (pm_all _).symm) 0 4 rfl rfl rfl rfl rfl (Nat.le_of_ble_eq_true rfl) dX4_copiesOne_13 ⟨Nat.le_of_ble_eq_true rfl, Nat.le_of_ble_eq_true rfl⟩ (fun r13 μ13 H locs hw hd => ?_)
  refine lv_istore_n (lv' := [(3, .int r13), (0, .ref (a 0)), (1, .int p0), (2, .int p1)]) hx hb dX4_copiesOne_16 rfl hl (by decide) rfl (fun ls hl => ?_)
  refine lv_iload_n hx hb dX4_copiesOne_17 rfl (lv_at hl 0 rfl) ?_
  refine lv_if_lt (tgt := 32) hx hb dX4_copiesOne_18 (by decide) (fun c3 => ?_) (fun c3 => ?_)
  · replace hw := hw.1 c3
    exact J32 μ13 _ _ _ hd (lv_sub hl [1] rfl) hw
  · replace hw := hw.2 c3
    refine lv_aload_n hx hb dX4_copiesOne_21 rfl (lv_at hl 1 rfl) ?_
    refine lv_iload_n hx hb dX4_copiesOne_22 rfl (lv_at hl 3 rfl) ?_
    refine lv_iload_n hx hb dX4_copiesOne_23 rfl (lv_at hl 0 rfl) ?_
    refine v_i C hd hl M_X4_writes gX4_copiesOne_X4_writes (c_X4_writes l B k a μ13 p1 r13 _ hw) ⟨rfl, rfl⟩ ⟨Nat.le_of_ble_eq_true rfl, Nat.le_of_ble_eq_true rfl⟩ (pm_all _) (fun u => wX4 k a u) (fun _ => (pm_all _).symm) 0 4 rfl rfl rfl rfl rfl (Nat.le_of_ble_eq_true rfl) dX4_copiesOne_24 ⟨Nat.le_of_ble_eq_true rfl, Nat.le_of_ble_eq_true rfl⟩ (fun r24 μ24 H locs hw hd => ?_)
    refine lv_if_lt (tgt := 32) hx hb dX4_copiesOne_27 (by decide) (fun c4 => ?_) (fun c4 => ?_)
    · replace hw := hw.1 c4
      exact J32 μ24 _ _ _ hd (lv_sub hl [1] rfl) hw
    · replace hw := hw.2 c4
      refine lv_iconst (v := 1) hx hb dX4_copiesOne_30 (by decide) ?_
      exact r_z true C hd dX4_copiesOne_31 μ24 rfl hw
abbrev rm_X4_copy : Room := { frames := 9, cells := 0, slots := 0, locals := 202 }
theorem M_X4_copy : MI yX4_copy wsX4_copy cX4_copy 5 (some .int) 3 := ⟨⟨_, rfl⟩, by decide +kernel, by decide +kernel, by decide +kernel, by decide +kernel⟩
theorem iX4_copy_X4 : ∀ w ∈ wsX40, w ∈ wsX4_copy := fun _ h => List.mem_cons_of_mem _ (List.mem_append_right _ h)
def wpX4_copy_J72 (v45l4 : Int32) (post : Int32 → MO → Prop) (μ72 : MO) : Prop := ((v45l4 = 0 → post (-5) μ72) ∧ (¬ v45l4 = 0 → wpX4_record (mo_spare μ72) (mo_history μ72, mo_kept μ72) (fun η85 => post v45l4 (mo_setKept (mo_setHistory μ72 (rk_history η85)) (rk_kept η85)))))
def wpX4_copy_L45 (p0 : Int32) (p1 : Int32) (p2 : Int32) (post : Int32 → MO → Prop) : Nat → Int32 → MO → Prop
  | 0, _, _ => False
  | n + 1, v45l4, μ45 => ((p2 ≤ v45l4 → wpX4_copy_J72 v45l4 post μ45) ∧ (¬ p2 ≤ v45l4 → wpX4_copiesOne μ45 (p0 + v45l4) (p1 + v45l4) (fun b60 μ60 => ((b60 = true → wpX4_copy_L45 p0 p1 p2 post n (v45l4 + 1) μ60) ∧ (b60 = false → wpX4_copy_J72 v45l4 post μ60)))))
def wpX4_copy (μ : MO) (p0 : Int32) (p1 : Int32) (p2 : Int32) (post : Int32 → MO → Prop) : Prop := wpX4_isAddress μ p0 (fun b2 => ((b2 = true → wpX4_isAddress μ p1 (fun b10 => ((b10 = true → wpX4_in p2 1 16 (fun b22 => ((b22 = true → wpX4_copies (mo_now μ) (mo_spare μ) (fun g39 => ∃ n : Nat, wpX4_copy_L45 p0 p1 p2 post n 0 (mo_setSpare μ g39))) ∧ (b22 = false → post (-2) μ)))) ∧ (b10 = false → post (-1) μ)))) ∧ (b2 = false → post (-1) μ)))
set_option maxHeartbeats 4000000 in
set_option maxRecDepth 100000 in
theorem c_X4_copy (l : Launch) (B : va_G) (k : KT) (a : Nat → Nat) (μ : MO) (p0 : Int32) (p1 : Int32) (p2 : Int32) (post : Int32 → MO → Prop) (hw : wpX4_copy μ p0 p1 p2 post) : Cti l yX4_copy wsX4_copy rm_X4_copy 0 0 B k [.ref (a 0), .int p0, .int p1, .int p2] (wX4 k a μ) (fun u => wX4 k a u) post := by
  refine Cti.of M_X4_copy (Nat.le_of_ble_eq_true rfl) ?_
  intro p e s m args below meth c A C hd ls hl
  have hx := C.1; have hb := C.2.1; have hml := C.2.2.1; have hts := C.2.2.2.2.1
  have hl : lv_has ls 5 [(0, .ref (a 0)), (1, .int p0), (2, .int p1), (3, .int p2)] := hl
  have J72 : ∀ (v45l4 : Int32) (μ72 : MO) (H : Heap) (locs : List Loc) (ls : Array Slot), Wd B A s.heap (wX4 k a μ72) H locs → lv_has ls 5 [(0, .ref (a 0)), (4, .int v45l4)] → wpX4_copy_J72 v45l4 post μ72 → W p l e rm_X4_copy s m args below meth c H locs 0 0 (Qi below args s B A (fun u => wX4 k a u) post 0 0) (F0 m 72 ls []) := by
    intro v45l4 μ72 H locs ls hd hl hw
    rw [wpX4_copy_J72] at hw
    refine lv_iload hx hb dX4_copy_72 (lv_at hl 1 rfl) ?_
    refine lv_if_ne (tgt := 80) hx hb dX4_copy_74 (by decide) (fun c16 => ?_) (fun c16 => ?_)
    · replace hw := hw.2 c16
      refine lv_aload_n hx hb dX4_copy_80 rfl (lv_at hl 0 rfl) ?_
      refine lv_aload_n hx hb dX4_copy_81 rfl (lv_at hl 0 rfl) ?_
      refine g_get (v := .ref (a 2)) C hd iX4_copy_X4 0 4 rfl rfl 1 (by decide) (List.mem_of_getElem? (i := 2) rfl) rfl dX4_copy_82 ?_
      refine v_v C hd hl M_X4_record gX4_copy_X4_record (c_X4_record l B k a μ72 (a 2) (mo_spare μ72) (mo_history μ72, mo_kept μ72) _ hw) ⟨rfl, rfl⟩ ⟨Nat.le_of_ble_eq_true rfl, Nat.le_of_ble_eq_true rfl⟩ (pm_pick3 0 4 1 rfl rfl rfl) (fun u => wX4 k a (mo_setKept (mo_setHistory μ72 (rk_history u)) (rk_kept u))) (fun u => (pm_pick3 (ws := wX4 k a (mo_setKept (mo_setHistory μ72 (rk_history u)) (rk_kept u))) 0 4 1 rfl rfl rfl).symm) 0 4 rfl rfl rfl rfl rfl (Nat.le_of_ble_eq_true rfl) dX4_copy_85 ⟨Nat.le_of_ble_eq_true rfl, Nat.le_of_ble_eq_true rfl⟩ (fun η85 H locs hw hd => ?_)
      refine lv_iload hx hb dX4_copy_88 (lv_at hl 1 rfl) ?_
      exact r_i C hd dX4_copy_90 (mo_setKept (mo_setHistory μ72 (rk_history η85)) (rk_kept η85)) rfl hw
    · replace hw := hw.1 c16
      refine lv_bipush (v := (-5)) hx hb dX4_copy_77 (by decide) ?_
      exact r_i C hd dX4_copy_79 μ72 rfl hw
  have L45 : ∀ (n : Nat), ∀ (v45l4 : Int32) (μ45 : MO) (H : Heap) (locs : List Loc) (ls : Array Slot), Wd B A s.heap (wX4 k a μ45) H locs → lv_has ls 5 [(0, .ref (a 0)), (1, .int p0), (2, .int p1), (3, .int p2), (4, .int v45l4)] → wpX4_copy_L45 p0 p1 p2 post n v45l4 μ45 → W p l e rm_X4_copy s m args below meth c H locs 0 0 (Qi below args s B A (fun u => wX4 k a u) post 0 0) (F0 m 45 ls []) := by
    intro n
    induction n with
    | zero => intro v45l4 μ45 H locs ls hd hl hw; exact absurd hw (by simp [wpX4_copy_L45])
    | succ n ih =>
      intro v45l4 μ45 H locs ls hd hl hw
      rw [wpX4_copy_L45] at hw
      refine lv_iload hx hb dX4_copy_45 (lv_at hl 4 rfl) ?_
      refine lv_iload_n hx hb dX4_copy_47 rfl (lv_at hl 3 rfl) ?_
      refine lv_icmp_ge (tgt := 72) hx hb dX4_copy_48 (by decide) (fun c17 => ?_) (fun c17 => ?_)
      · replace hw := hw.1 c17
        exact J72 v45l4 μ45 _ _ _ hd (lv_sub hl [0, 4] rfl) hw
      · replace hw := hw.2 c17
        refine lv_aload_n hx hb dX4_copy_51 rfl (lv_at hl 0 rfl) ?_
        refine lv_iload_n hx hb dX4_copy_52 rfl (lv_at hl 1 rfl) ?_
        refine lv_iload hx hb dX4_copy_53 (lv_at hl 4 rfl) ?_
        refine lv_iadd hx hb dX4_copy_55 ?_
        refine lv_iload_n hx hb dX4_copy_56 rfl (lv_at hl 2 rfl) ?_
        refine lv_iload hx hb dX4_copy_57 (lv_at hl 4 rfl) ?_
        refine lv_iadd hx hb dX4_copy_59 ?_
        refine v_i C hd hl M_X4_copiesOne gX4_copy_X4_copiesOne (c_X4_copiesOne l B k a μ45 (p0 + v45l4) (p1 + v45l4) _ hw) ⟨rfl, rfl⟩ ⟨Nat.le_of_ble_eq_true rfl, Nat.le_of_ble_eq_true rfl⟩ (pm_all _) (fun u => wX4 k a u) (fun _ => (pm_all _).symm) 0 4 rfl rfl rfl rfl rfl (Nat.le_of_ble_eq_true rfl) dX4_copy_60 ⟨Nat.le_of_ble_eq_true rfl, Nat.le_of_ble_eq_true rfl⟩ (fun r μ60 H locs hp hd => ?_)
        obtain ⟨b60, rfl, hw⟩ := hp
        refine lv_if_eq (tgt := 72) hx hb dX4_copy_63 (by decide) (fun c18 => ?_) (fun c18 => ?_)
        · replace hw := hw.2 ((bi_eq _).mp c18)
          exact J72 v45l4 μ60 _ _ _ hd (lv_sub hl [0, 4] rfl) hw
        · replace hw := hw.1 ((bi_ne _).mp c18)
          refine lv_iinc (v := v45l4 + 1) (lv' := [(4, .int (v45l4 + 1)), (0, .ref (a 0)), (1, .int p0), (2, .int p1), (3, .int p2)]) hx hb dX4_copy_66 hl (k := 4) rfl rfl (by decide) rfl (fun ls hl => ?_)
          refine lv_goto (tgt := 45) hx hb dX4_copy_69 (by decide) ?_
          exact ih (v45l4 + 1) μ60 _ _ _ hd (lv_sub hl [1, 2, 3, 4, 0] rfl) hw
  rw [wpX4_copy] at hw
  refine lv_aload_n hx hb dX4_copy_0 rfl (lv_at hl 0 rfl) ?_
  refine lv_iload_n hx hb dX4_copy_1 rfl (lv_at hl 1 rfl) ?_
  refine v_i C hd hl M_X4_isAddress gX4_copy_X4_isAddress (c_X4_isAddress l B k a μ p0 _ hw) ⟨rfl, rfl⟩ ⟨Nat.le_of_ble_eq_true rfl, Nat.le_of_ble_eq_true rfl⟩ (pm_all _) (fun _ => wX4 k a μ) (fun _ => (pm_all _).symm) 0 4 rfl rfl rfl rfl rfl (Nat.le_of_ble_eq_true rfl) dX4_copy_2 ⟨Nat.le_of_ble_eq_true rfl, Nat.le_of_ble_eq_true rfl⟩ (fun r _ H locs hp hd => ?_)
  obtain ⟨b2, rfl, hw⟩ := hp
  refine lv_if_eq (tgt := 16) hx hb dX4_copy_5 (by decide) (fun c21 => ?_) (fun c21 => ?_)
  · replace hw := hw.2 ((bi_eq _).mp c21)
    refine lv_iconst (v := (-1)) hx hb dX4_copy_16 (by decide) ?_
    exact r_i C hd dX4_copy_17 μ rfl hw
  · replace hw := hw.1 ((bi_ne _).mp c21)
    refine lv_aload_n hx hb dX4_copy_8 rfl (lv_at hl 0 rfl) ?_
    refine lv_iload_n hx hb dX4_copy_9 rfl (lv_at hl 2 rfl) ?_
    refine v_i C hd hl M_X4_isAddress gX4_copy_X4_isAddress (c_X4_isAddress l B k a μ p1 _ hw) ⟨rfl, rfl⟩ ⟨Nat.le_of_ble_eq_true rfl, Nat.le_of_ble_eq_true rfl⟩ (pm_all _) (fun _ => wX4 k a μ) (fun _ => (pm_all _).symm) 0 4 rfl rfl rfl rfl rfl (Nat.le_of_ble_eq_true rfl) dX4_copy_10 ⟨Nat.le_of_ble_eq_true rfl, Nat.le_of_ble_eq_true rfl⟩ (fun r _ H locs hp hd => ?_)
    obtain ⟨b10, rfl, hw⟩ := hp
    refine lv_if_ne (tgt := 18) hx hb dX4_copy_13 (by decide) (fun c20 => ?_) (fun c20 => ?_)
    · replace hw := hw.1 ((bi_ne _).mp c20)
      refine lv_iload_n hx hb dX4_copy_18 rfl (lv_at hl 3 rfl) ?_
      refine lv_iconst (v := 1) hx hb dX4_copy_19 (by decide) ?_
      refine lv_bipush (v := 16) hx hb dX4_copy_20 (by decide) ?_
      refine s_i C hd hl M_X4_in gX4_copy_X4_in rfl (c_X4_in l B k p2 1 16 _ hw) ⟨rfl, rfl⟩ ⟨Nat.le_of_ble_eq_true rfl, Nat.le_of_ble_eq_true rfl⟩ (pm_non _) (fun _ => wX4 k a μ) (fun _ => List.Perm.refl _) rfl rfl (Nat.le_of_ble_eq_true rfl) dX4_copy_22 ⟨Nat.le_of_ble_eq_true rfl, Nat.le_of_ble_eq_true rfl⟩ (fun r _ H locs hp hd => ?_)
      obtain ⟨b22, rfl, hw⟩ := hp
      refine lv_if_ne (tgt := 31) hx hb dX4_copy_25 (by decide) (fun c19 => ?_) (fun c19 => ?_)
      · replace hw := hw.1 ((bi_ne _).mp c19)
        refine lv_aload_n hx hb dX4_copy_31 rfl (lv_at hl 0 rfl) ?_
        refine g_get (v := .ref (a 1)) C hd iX4_copy_X4 0 4 rfl rfl 0 (by decide) (List.mem_of_getElem? (i := 1) rfl) rfl dX4_copy_32 ?_
        refine lv_aload_n hx hb dX4_copy_35 rfl (lv_at hl 0 rfl) ?_
        refine g_get (v := .ref (a 2)) C hd iX4_copy_X4 0 4 rfl rfl 1 (by decide) (List.mem_of_getElem? (i := 2) rfl) rfl dX4_copy_36 ?_
        refine s_v C hd hl M_X4_copies gX4_copy_X4_copies rfl (c_X4_copies l B k (a 1) (a 2) (mo_now μ) (mo_spare μ) _ hw) ⟨rfl, rfl⟩ ⟨Nat.le_of_ble_eq_true rfl, Nat.le_of_ble_eq_true rfl⟩ (pm_pick2 1 1 rfl rfl) (fun u => wX4 k a (mo_setSpare μ u)) (fun u => (pm_pick2 (ws := wX4 k a (mo_setSpare μ u)) 1 1 rfl rfl).symm) rfl rfl (Nat.le_of_ble_eq_true rfl) dX4_copy_39 ⟨Nat.le_of_ble_eq_true rfl, Nat.le_of_ble_eq_true rfl⟩ (fun g39 H locs hw hd => ?_)
        refine lv_iconst (v := 0) hx hb dX4_copy_42 (by decide) ?_
        refine lv_istore (lv' := [(4, .int 0), (0, .ref (a 0)), (1, .int p0), (2, .int p1), (3, .int p2)]) hx hb dX4_copy_43 hl (by decide) rfl (fun ls hl => ?_)
        obtain ⟨n, hw⟩ := hw
        exact L45 n 0 (mo_setSpare μ g39) _ _ _ hd (lv_sub hl [1, 2, 3, 4, 0] rfl) hw
      · replace hw := hw.2 ((bi_eq _).mp c19)
        refine lv_bipush (v := (-2)) hx hb dX4_copy_28 (by decide) ?_
        exact r_i C hd dX4_copy_30 μ rfl hw
    · replace hw := hw.2 ((bi_eq _).mp c20)
      refine lv_iconst (v := (-1)) hx hb dX4_copy_16 (by decide) ?_
      exact r_i C hd dX4_copy_17 μ rfl hw
abbrev rm_X4_lost : Room := { frames := 2, cells := 0, slots := 0, locals := 43 }
theorem M_X4_lost : MI yX4_lost wsX4_lost cX4_lost 5 (some .int) 1 := ⟨⟨_, rfl⟩, by decide +kernel, by decide +kernel, by decide +kernel, by decide +kernel⟩
theorem iX4_lost_X4 : ∀ w ∈ wsX40, w ∈ wsX4_lost := fun _ h => List.mem_cons_of_mem _ (List.mem_append_right _ h)
def wpX4_lost_J42 (v4l2 : Int32) (v4l3 : Int32) (post : Int32 → Prop) (κ : Int32 → Int32 → Prop) (v42s1 : Bool) : Prop := κ (v4l2 + (bi v42s1)) (v4l3 + 1)
def wpX4_lost_J41 (v4l2 : Int32) (v4l3 : Int32) (post : Int32 → Prop) (κ : Int32 → Int32 → Prop)  : Prop := wpX4_lost_J42 v4l2 v4l3 post κ false
def wpX4_lost_L4 (μ : MO) (p0 : Int32) (post : Int32 → Prop) : Nat → Int32 → Int32 → Prop
  | 0, _, _ => False
  | n + 1, v4l2, v4l3 => ((16 ≤ v4l3 → post v4l2) ∧ (¬ 16 ≤ v4l3 → wpX4_isAddress μ ((16 * p0) + v4l3) (fun b22 => ((b22 = true → wpX4_isLost μ ((16 * p0) + v4l3) (fun b31 => ((b31 = true → wpX4_lost_J42 v4l2 v4l3 post (wpX4_lost_L4 μ p0 post n) true) ∧ (b31 = false → wpX4_lost_J41 v4l2 v4l3 post (wpX4_lost_L4 μ p0 post n) )))) ∧ (b22 = false → wpX4_lost_J41 v4l2 v4l3 post (wpX4_lost_L4 μ p0 post n) )))))
def wpX4_lost (μ : MO) (p0 : Int32) (post : Int32 → Prop) : Prop := ∃ n : Nat, wpX4_lost_L4 μ p0 post n 0 0
set_option maxHeartbeats 4000000 in
set_option maxRecDepth 100000 in
theorem c_X4_lost (l : Launch) (B : va_G) (k : KT) (a : Nat → Nat) (μ : MO) (p0 : Int32) (post : Int32 → Prop) (hw : wpX4_lost μ p0 post) : Cti l yX4_lost wsX4_lost rm_X4_lost 0 0 B k [.ref (a 0), .int p0] (wX4 k a μ) (fun _ : Unit => wX4 k a μ) (fun r _ => post r) := by
  refine Cti.of M_X4_lost (Nat.le_of_ble_eq_true rfl) ?_
  intro p e s m args below meth c A C hd ls hl
  have hx := C.1; have hb := C.2.1; have hml := C.2.2.1; have hts := C.2.2.2.2.1
  have hl : lv_has ls 5 [(0, .ref (a 0)), (1, .int p0)] := hl
  have L4 : ∀ (n : Nat), ∀ (v4l2 : Int32) (v4l3 : Int32) (H : Heap) (locs : List Loc) (ls : Array Slot), Wd B A s.heap (wX4 k a μ) H locs → lv_has ls 5 [(0, .ref (a 0)), (1, .int p0), (2, .int v4l2), (3, .int v4l3)] → wpX4_lost_L4 μ p0 post n v4l2 v4l3 → W p l e rm_X4_lost s m args below meth c H locs 0 0 (Qi below args s B A (fun _ : Unit => wX4 k a μ) (fun r _ => post r) 0 0) (F0 m 4 ls []) := by
    intro n
    induction n with
    | zero => intro v4l2 v4l3 H locs ls hd hl hw; exact absurd hw (by simp [wpX4_lost_L4])
    | succ n ih =>
      intro v4l2 v4l3 H locs ls hd hl hw
      rw [wpX4_lost_L4] at hw
      have J42 : ∀ (v4l2 : Int32) (v4l3 : Int32) (v42s1 : Bool) (H : Heap) (locs : List Loc) (ls : Array Slot), Wd B A s.heap (wX4 k a μ) H locs → lv_has ls 5 [(0, .ref (a 0)), (1, .int p0), (3, .int v4l3)] → wpX4_lost_J42 v4l2 v4l3 post (wpX4_lost_L4 μ p0 post n) v42s1 → W p l e rm_X4_lost s m args below meth c H locs 0 0 (Qi below args s B A (fun _ : Unit => wX4 k a μ) (fun r _ => post r) 0 0) (F0 m 42 ls [.int (bi v42s1), .int v4l2]) := by
        intro v4l2 v4l3 v42s1 H locs ls hd hl hw
        rw [wpX4_lost_J42] at hw
        refine lv_iadd hx hb dX4_lost_42 ?_
        refine lv_istore_n (lv' := [(2, .int (v4l2 + (bi v42s1))), (0, .ref (a 0)), (1, .int p0), (3, .int v4l3)]) hx hb dX4_lost_43 rfl hl (by decide) rfl (fun ls hl => ?_)
        refine lv_iinc (v := v4l3 + 1) (lv' := [(3, .int (v4l3 + 1)), (2, .int (v4l2 + (bi v42s1))), (0, .ref (a 0)), (1, .int p0)]) hx hb dX4_lost_44 hl (k := 3) rfl rfl (by decide) rfl (fun ls hl => ?_)
        refine lv_goto (tgt := 4) hx hb dX4_lost_47 (by decide) ?_
        exact ih (v4l2 + (bi v42s1)) (v4l3 + 1) _ _ _ hd (lv_sub hl [2, 3, 1, 0] rfl) hw
      have J41 : ∀ (v4l2 : Int32) (v4l3 : Int32) (H : Heap) (locs : List Loc) (ls : Array Slot), Wd B A s.heap (wX4 k a μ) H locs → lv_has ls 5 [(0, .ref (a 0)), (1, .int p0), (3, .int v4l3)] → wpX4_lost_J41 v4l2 v4l3 post (wpX4_lost_L4 μ p0 post n)  → W p l e rm_X4_lost s m args below meth c H locs 0 0 (Qi below args s B A (fun _ : Unit => wX4 k a μ) (fun r _ => post r) 0 0) (F0 m 41 ls [.int v4l2]) := by
        intro v4l2 v4l3 H locs ls hd hl hw
        rw [wpX4_lost_J41] at hw
        refine lv_iconst (v := 0) hx hb dX4_lost_41 (by decide) ?_
        exact J42 v4l2 v4l3 false _ _ _ hd (lv_sub hl [0, 1, 2] rfl) hw
      refine lv_iload_n hx hb dX4_lost_4 rfl (lv_at hl 3 rfl) ?_
      refine lv_bipush (v := 16) hx hb dX4_lost_5 (by decide) ?_
      refine lv_icmp_ge (tgt := 50) hx hb dX4_lost_7 (by decide) (fun c13 => ?_) (fun c13 => ?_)
      · replace hw := hw.1 c13
        refine lv_iload_n hx hb dX4_lost_50 rfl (lv_at hl 2 rfl) ?_
        exact r_i C hd dX4_lost_51 () rfl hw
      · replace hw := hw.2 c13
        refine lv_bipush (v := 16) hx hb dX4_lost_10 (by decide) ?_
        refine lv_iload_n hx hb dX4_lost_12 rfl (lv_at hl 1 rfl) ?_
        refine lv_imul hx hb dX4_lost_13 ?_
        refine lv_iload_n hx hb dX4_lost_14 rfl (lv_at hl 3 rfl) ?_
        refine lv_iadd hx hb dX4_lost_15 ?_
        refine lv_istore (lv' := [(4, .int ((16 * p0) + v4l3)), (0, .ref (a 0)), (1, .int p0), (2, .int v4l2), (3, .int v4l3)]) hx hb dX4_lost_16 hl (by decide) rfl (fun ls hl => ?_)
        refine lv_iload_n hx hb dX4_lost_18 rfl (lv_at hl 3 rfl) ?_
        refine lv_aload_n hx hb dX4_lost_19 rfl (lv_at hl 1 rfl) ?_
        refine lv_iload hx hb dX4_lost_20 (lv_at hl 0 rfl) ?_
        refine v_i C hd hl M_X4_isAddress gX4_lost_X4_isAddress (c_X4_isAddress l B k a μ ((16 * p0) + v4l3) _ hw) ⟨rfl, rfl⟩ ⟨Nat.le_of_ble_eq_true rfl, Nat.le_of_ble_eq_true rfl⟩ (pm_all _) (fun _ => wX4 k a μ) (fun _ => (pm_all _).symm) 0 4 rfl rfl rfl rfl rfl (Nat.le_of_ble_eq_true rfl) dX4_lost_22 ⟨Nat.le_of_ble_eq_true rfl, Nat.le_of_ble_eq_true rfl⟩ (fun r _ H locs hp hd => ?_)
        obtain ⟨b22, rfl, hw⟩ := hp
        refine lv_if_eq (tgt := 41) hx hb dX4_lost_25 (by decide) (fun c15 => ?_) (fun c15 => ?_)
        · replace hw := hw.2 ((bi_eq _).mp c15)
          exact J41 v4l2 v4l3 _ _ _ hd (lv_sub hl [1, 2, 4] rfl) hw
        · replace hw := hw.1 ((bi_ne _).mp c15)
          refine lv_aload_n hx hb dX4_lost_28 rfl (lv_at hl 1 rfl) ?_
          refine lv_iload hx hb dX4_lost_29 (lv_at hl 0 rfl) ?_
          refine v_i C hd hl M_X4_isLost gX4_lost_X4_isLost (c_X4_isLost l B k a μ ((16 * p0) + v4l3) _ hw) ⟨rfl, rfl⟩ ⟨Nat.le_of_ble_eq_true rfl, Nat.le_of_ble_eq_true rfl⟩ (pm_all _) (fun _ => wX4 k a μ) (fun _ => (pm_all _).symm) 0 4 rfl rfl rfl rfl rfl (Nat.le_of_ble_eq_true rfl) dX4_lost_31 ⟨Nat.le_of_ble_eq_true rfl, Nat.le_of_ble_eq_true rfl⟩ (fun r _ H locs hp hd => ?_)
          obtain ⟨b31, rfl, hw⟩ := hp
          refine lv_if_eq (tgt := 41) hx hb dX4_lost_34 (by decide) (fun c14 => ?_) (fun c14 => ?_)
          · replace hw := hw.2 ((bi_eq _).mp c14)
            exact J41 v4l2 v4l3 _ _ _ hd (lv_sub hl [1, 2, 4] rfl) hw
          · replace hw := hw.1 ((bi_ne _).mp c14)
            refine lv_iconst (v := 1) hx hb dX4_lost_37 (by decide) ?_
            refine lv_goto (tgt := 42) hx hb dX4_lost_38 (by decide) ?_
            exact J42 v4l2 v4l3 true _ _ _ hd (lv_sub hl [1, 2, 4] rfl) hw
  rw [wpX4_lost] at hw
  refine lv_iconst (v := 0) hx hb dX4_lost_0 (by decide) ?_
  refine lv_istore_n (lv' := [(2, .int 0), (0, .ref (a 0)), (1, .int p0)]) hx hb dX4_lost_1 rfl hl (by decide) rfl (fun ls hl => ?_)
  refine lv_iconst (v := 0) hx hb dX4_lost_2 (by decide) ?_
  refine lv_istore_n (lv' := [(3, .int 0), (2, .int 0), (0, .ref (a 0)), (1, .int p0)]) hx hb dX4_lost_3 rfl hl (by decide) rfl (fun ls hl => ?_)
  obtain ⟨n, hw⟩ := hw
  exact L4 n 0 0 _ _ _ hd (lv_sub hl [2, 3, 1, 0] rfl) hw
abbrev rm_X4_test : Room := { frames := 8, cells := 0, slots := 0, locals := 178 }
theorem M_X4_test : MI yX4_test wsX4_test cX4_test 5 (some .int) 1 := ⟨⟨_, rfl⟩, by decide +kernel, by decide +kernel, by decide +kernel, by decide +kernel⟩
theorem iX4_test_X4 : ∀ w ∈ wsX40, w ∈ wsX4_test := fun _ h => List.mem_cons_of_mem _ (List.mem_append_right _ h)
def wpX4_test_L49 (μ : MO) (p0 : Int32) (post : Int32 → MO → Prop) : Nat → Int32 → MO → Prop
  | 0, _, _ => False
  | n + 1, v49l3, μ49 => ((16 ≤ v49l3 → (vp_in 4 276 ∧ post (((mo_now μ49) (4 : Int32).toNatClampNeg) - ((mo_now μ) (4 : Int32).toNatClampNeg)) μ49)) ∧ (¬ 16 ≤ v49l3 → wpX4_reads μ49 ((16 * p0) + v49l3) (fun r62 μ62 => wpX4_test_L49 μ p0 post n (v49l3 + 1) μ62)))
def wpX4_test (μ : MO) (p0 : Int32) (post : Int32 → MO → Prop) : Prop := wpX4_isHead p0 (fun b1 => ((b1 = true → wpX4_lost μ p0 (fun r11 => (vp_in (12 + p0) 276 ∧ ((r11 = (16 - ((mo_now μ) (12 + p0).toNatClampNeg)) → post (-5) μ) ∧ (¬ r11 = (16 - ((mo_now μ) (12 + p0).toNatClampNeg)) → wpX4_record (mo_now μ) (mo_history μ, mo_kept μ) (fun η37 => (vp_in 4 276 ∧ ∃ n : Nat, wpX4_test_L49 μ p0 post n 0 (mo_setKept (mo_setHistory μ (rk_history η37)) (rk_kept η37))))))))) ∧ (b1 = false → post (-1) μ)))
set_option maxHeartbeats 4000000 in
set_option maxRecDepth 100000 in
theorem c_X4_test (l : Launch) (B : va_G) (k : KT) (a : Nat → Nat) (μ : MO) (p0 : Int32) (post : Int32 → MO → Prop) (hw : wpX4_test μ p0 post) : Cti l yX4_test wsX4_test rm_X4_test 0 0 B k [.ref (a 0), .int p0] (wX4 k a μ) (fun u => wX4 k a u) post := by
  refine Cti.of M_X4_test (Nat.le_of_ble_eq_true rfl) ?_
  intro p e s m args below meth c A C hd ls hl
  have hx := C.1; have hb := C.2.1; have hml := C.2.2.1; have hts := C.2.2.2.2.1
  have hl : lv_has ls 5 [(0, .ref (a 0)), (1, .int p0)] := hl
  have L49 : ∀ (n : Nat), ∀ (v49l3 : Int32) (μ49 : MO) (H : Heap) (locs : List Loc) (ls : Array Slot), Wd B A s.heap (wX4 k a μ49) H locs → lv_has ls 5 [(0, .ref (a 0)), (1, .int p0), (2, .int ((mo_now μ) (4 : Int32).toNatClampNeg)), (3, .int v49l3)] → wpX4_test_L49 μ p0 post n v49l3 μ49 → W p l e rm_X4_test s m args below meth c H locs 0 0 (Qi below args s B A (fun u => wX4 k a u) post 0 0) (F0 m 49 ls []) := by
    intro n
    induction n with
    | zero => intro v49l3 μ49 H locs ls hd hl hw; exact absurd hw (by simp [wpX4_test_L49])
    | succ n ih =>
      intro v49l3 μ49 H locs ls hd hl hw
      rw [wpX4_test_L49] at hw
      refine lv_iload_n hx hb dX4_test_49 rfl (lv_at hl 3 rfl) ?_
      refine lv_bipush (v := 16) hx hb dX4_test_50 (by decide) ?_
      refine lv_icmp_ge (tgt := 73) hx hb dX4_test_52 (by decide) (fun c7 => ?_) (fun c7 => ?_)
      · replace hw := hw.1 c7
        refine lv_aload_n hx hb dX4_test_73 rfl (lv_at hl 0 rfl) ?_
        refine g_get (v := .ref (a 1)) C hd iX4_test_X4 0 4 rfl rfl 0 (by decide) (List.mem_of_getElem? (i := 1) rfl) rfl dX4_test_74 ?_
        refine lv_iconst (v := 4) hx hb dX4_test_77 (by decide) ?_
        obtain ⟨h7, hw⟩ := hw
        refine g_ild (f := mo_now μ49) C hd 1 rfl h7 dX4_test_78 ?_
        refine lv_iload_n hx hb dX4_test_79 rfl (lv_at hl 2 rfl) ?_
        refine lv_isub hx hb dX4_test_80 ?_
        exact r_i C hd dX4_test_81 μ49 rfl hw
      · replace hw := hw.2 c7
        refine lv_aload_n hx hb dX4_test_55 rfl (lv_at hl 0 rfl) ?_
        refine lv_bipush (v := 16) hx hb dX4_test_56 (by decide) ?_
        refine lv_iload_n hx hb dX4_test_58 rfl (lv_at hl 1 rfl) ?_
        refine lv_imul hx hb dX4_test_59 ?_
        refine lv_iload_n hx hb dX4_test_60 rfl (lv_at hl 3 rfl) ?_
        refine lv_iadd hx hb dX4_test_61 ?_
        refine v_i C hd hl M_X4_reads gX4_test_X4_reads (c_X4_reads l B k a μ49 ((16 * p0) + v49l3) _ hw) ⟨rfl, rfl⟩ ⟨Nat.le_of_ble_eq_true rfl, Nat.le_of_ble_eq_true rfl⟩ (pm_all _) (fun u => wX4 k a u) (fun _ => (pm_all _).symm) 0 4 rfl rfl rfl rfl rfl (Nat.le_of_ble_eq_true rfl) dX4_test_62 ⟨Nat.le_of_ble_eq_true rfl, Nat.le_of_ble_eq_true rfl⟩ (fun r62 μ62 H locs hw hd => ?_)
        refine lv_istore (lv' := [(4, .int r62), (0, .ref (a 0)), (1, .int p0), (2, .int ((mo_now μ) (4 : Int32).toNatClampNeg)), (3, .int v49l3)]) hx hb dX4_test_65 hl (by decide) rfl (fun ls hl => ?_)
        refine lv_iinc (v := v49l3 + 1) (lv' := [(3, .int (v49l3 + 1)), (4, .int r62), (0, .ref (a 0)), (1, .int p0), (2, .int ((mo_now μ) (4 : Int32).toNatClampNeg))]) hx hb dX4_test_67 hl (k := 4) rfl rfl (by decide) rfl (fun ls hl => ?_)
        refine lv_goto (tgt := 49) hx hb dX4_test_70 (by decide) ?_
        exact ih (v49l3 + 1) μ62 _ _ _ hd (lv_sub hl [2, 3, 4, 0] rfl) hw
  rw [wpX4_test] at hw
  refine lv_iload_n hx hb dX4_test_0 rfl (lv_at hl 1 rfl) ?_
  refine s_i C hd hl M_X4_isHead gX4_test_X4_isHead rfl (c_X4_isHead l B k p0 _ hw) ⟨rfl, rfl⟩ ⟨Nat.le_of_ble_eq_true rfl, Nat.le_of_ble_eq_true rfl⟩ (pm_non _) (fun _ => wX4 k a μ) (fun _ => List.Perm.refl _) rfl rfl (Nat.le_of_ble_eq_true rfl) dX4_test_1 ⟨Nat.le_of_ble_eq_true rfl, Nat.le_of_ble_eq_true rfl⟩ (fun r _ H locs hp hd => ?_)
  obtain ⟨b1, rfl, hw⟩ := hp
  refine lv_if_ne (tgt := 9) hx hb dX4_test_4 (by decide) (fun c9 => ?_) (fun c9 => ?_)
  · replace hw := hw.1 ((bi_ne _).mp c9)
    refine lv_aload_n hx hb dX4_test_9 rfl (lv_at hl 0 rfl) ?_
    refine lv_iload_n hx hb dX4_test_10 rfl (lv_at hl 1 rfl) ?_
    refine v_i C hd hl M_X4_lost gX4_test_X4_lost (c_X4_lost l B k a μ p0 _ hw) ⟨rfl, rfl⟩ ⟨Nat.le_of_ble_eq_true rfl, Nat.le_of_ble_eq_true rfl⟩ (pm_all _) (fun _ => wX4 k a μ) (fun _ => (pm_all _).symm) 0 4 rfl rfl rfl rfl rfl (Nat.le_of_ble_eq_true rfl) dX4_test_11 ⟨Nat.le_of_ble_eq_true rfl, Nat.le_of_ble_eq_true rfl⟩ (fun r11 _ H locs hw hd => ?_)
    refine lv_bipush (v := 16) hx hb dX4_test_14 (by decide) ?_
    refine lv_aload_n hx hb dX4_test_16 rfl (lv_at hl 0 rfl) ?_
    refine g_get (v := .ref (a 1)) C hd iX4_test_X4 0 4 rfl rfl 0 (by decide) (List.mem_of_getElem? (i := 1) rfl) rfl dX4_test_17 ?_
    refine lv_bipush (v := 12) hx hb dX4_test_20 (by decide) ?_
    refine lv_iload_n hx hb dX4_test_22 rfl (lv_at hl 1 rfl) ?_
    refine lv_iadd hx hb dX4_test_23 ?_
    obtain ⟨h8, hw⟩ := hw
    refine g_ild (f := mo_now μ) C hd 1 rfl h8 dX4_test_24 ?_
    refine lv_isub hx hb dX4_test_25 ?_
    refine lv_icmp_ne (tgt := 32) hx hb dX4_test_26 (by decide) (fun c8 => ?_) (fun c8 => ?_)
    · replace hw := hw.2 c8
      refine lv_aload_n hx hb dX4_test_32 rfl (lv_at hl 0 rfl) ?_
      refine lv_aload_n hx hb dX4_test_33 rfl (lv_at hl 0 rfl) ?_
      refine g_get (v := .ref (a 1)) C hd iX4_test_X4 0 4 rfl rfl 0 (by decide) (List.mem_of_getElem? (i := 1) rfl) rfl dX4_test_34 ?_
      refine v_v C hd hl M_X4_record gX4_test_X4_record (c_X4_record l B k a μ (a 1) (mo_now μ) (mo_history μ, mo_kept μ) _ hw) ⟨rfl, rfl⟩ ⟨Nat.le_of_ble_eq_true rfl, Nat.le_of_ble_eq_true rfl⟩ (pm_pick3 0 4 0 rfl rfl rfl) (fun u => wX4 k a (mo_setKept (mo_setHistory μ (rk_history u)) (rk_kept u))) (fun u => (pm_pick3 (ws := wX4 k a (mo_setKept (mo_setHistory μ (rk_history u)) (rk_kept u))) 0 4 0 rfl rfl rfl).symm) 0 4 rfl rfl rfl rfl rfl (Nat.le_of_ble_eq_true rfl) dX4_test_37 ⟨Nat.le_of_ble_eq_true rfl, Nat.le_of_ble_eq_true rfl⟩ (fun η37 H locs hw hd => ?_)
      refine lv_aload_n hx hb dX4_test_40 rfl (lv_at hl 0 rfl) ?_
      refine g_get (v := .ref (a 1)) C hd iX4_test_X4 0 4 rfl rfl 0 (by decide) (List.mem_of_getElem? (i := 1) rfl) rfl dX4_test_41 ?_
      refine lv_iconst (v := 4) hx hb dX4_test_44 (by decide) ?_
      obtain ⟨h9, hw⟩ := hw
      refine g_ild (f := mo_now μ) C hd 1 rfl h9 dX4_test_45 ?_
      refine lv_istore_n (lv' := [(2, .int ((mo_now μ) (4 : Int32).toNatClampNeg)), (0, .ref (a 0)), (1, .int p0)]) hx hb dX4_test_46 rfl hl (by decide) rfl (fun ls hl => ?_)
      refine lv_iconst (v := 0) hx hb dX4_test_47 (by decide) ?_
      refine lv_istore_n (lv' := [(3, .int 0), (2, .int ((mo_now μ) (4 : Int32).toNatClampNeg)), (0, .ref (a 0)), (1, .int p0)]) hx hb dX4_test_48 rfl hl (by decide) rfl (fun ls hl => ?_)
      obtain ⟨n, hw⟩ := hw
      exact L49 n 0 (mo_setKept (mo_setHistory μ (rk_history η37)) (rk_kept η37)) _ _ _ hd (lv_sub hl [2, 3, 1, 0] rfl) hw
    · replace hw := hw.1 c8
      refine lv_bipush (v := (-5)) hx hb dX4_test_29 (by decide) ?_
      exact r_i C hd dX4_test_31 μ rfl hw
  · replace hw := hw.2 ((bi_eq _).mp c9)
    refine lv_iconst (v := (-1)) hx hb dX4_test_7 (by decide) ?_
    exact r_i C hd dX4_test_8 μ rfl hw
abbrev rm_X4_giveBack : Room := { frames := 3, cells := 0, slots := 0, locals := 65 }
theorem M_X4_giveBack : MI yX4_giveBack wsX4_giveBack cX4_giveBack 3 (some .int) 1 := ⟨⟨_, rfl⟩, by decide +kernel, by decide +kernel, by decide +kernel, by decide +kernel⟩
theorem iX4_giveBack_X4 : ∀ w ∈ wsX40, w ∈ wsX4_giveBack := fun _ h => List.mem_cons_of_mem _ (List.mem_append_right _ h)
def wpX4_giveBack (μ : MO) (p0 : Int32) (post : Int32 → MO → Prop) : Prop := wpX4_isAddress μ p0 (fun b2 => ((b2 = true → (vp_in (148 + p0) 276 ∧ ((((mo_now μ) (148 + p0).toNatClampNeg) < 0 → post (-5) μ) ∧ (¬ ((mo_now μ) (148 + p0).toNatClampNeg) < 0 → ((((mo_now μ) (148 + p0).toNatClampNeg) = p0 → post (-5) μ) ∧ (¬ ((mo_now μ) (148 + p0).toNatClampNeg) = p0 → wpX4_state μ p0 (fun r35 => ((r35 = 0 → (vp_in (16 + (p0 / 16)) 276 ∧ ((((mo_now μ) (16 + (p0 / 16)).toNatClampNeg) = 1 → post (-4) μ) ∧ (¬ ((mo_now μ) (16 + (p0 / 16)).toNatClampNeg) = 1 → wpX4_record (mo_now μ) (mo_history μ, mo_kept μ) (fun η65 => wpX4_goesTo (mo_setKept (mo_setHistory μ (rk_history η65)) (rk_kept η65)) p0 (fun μ70 => wpX4_goes μ70 p0 (fun μ75 => wpX4_wears μ75 p0 1 (fun μ81 => post ((mo_now μ) (148 + p0).toNatClampNeg) (mo_setNow μ81 (upd (mo_now μ81) (148 + p0).toNatClampNeg p0)))))))))) ∧ (¬ r35 = 0 → post (-4) μ))))))))) ∧ (b2 = false → post (-1) μ)))
set_option maxHeartbeats 4000000 in
set_option maxRecDepth 100000 in
theorem c_X4_giveBack (l : Launch) (B : va_G) (k : KT) (a : Nat → Nat) (μ : MO) (p0 : Int32) (post : Int32 → MO → Prop) (hw : wpX4_giveBack μ p0 post) : Cti l yX4_giveBack wsX4_giveBack rm_X4_giveBack 0 0 B k [.ref (a 0), .int p0] (wX4 k a μ) (fun u => wX4 k a u) post := by
  refine Cti.of M_X4_giveBack (Nat.le_of_ble_eq_true rfl) ?_
  intro p e s m args below meth c A C hd ls hl
  have hx := C.1; have hb := C.2.1; have hml := C.2.2.1; have hts := C.2.2.2.2.1
  have hl : lv_has ls 3 [(0, .ref (a 0)), (1, .int p0)] := hl
  rw [wpX4_giveBack] at hw
  refine lv_aload_n hx hb dX4_giveBack_0 rfl (lv_at hl 0 rfl) ?_
  refine lv_iload_n hx hb dX4_giveBack_1 rfl (lv_at hl 1 rfl) ?_
  refine v_i C hd hl M_X4_isAddress gX4_giveBack_X4_isAddress (c_X4_isAddress l B k a μ p0 _ hw) ⟨rfl, rfl⟩ ⟨Nat.le_of_ble_eq_true rfl, Nat.le_of_ble_eq_true rfl⟩ (pm_all _) (fun _ => wX4 k a μ) (fun _ => (pm_all _).symm) 0 4 rfl rfl rfl rfl rfl (Nat.le_of_ble_eq_true rfl) dX4_giveBack_2 ⟨Nat.le_of_ble_eq_true rfl, Nat.le_of_ble_eq_true rfl⟩ (fun r _ H locs hp hd => ?_)
  obtain ⟨b2, rfl, hw⟩ := hp
  refine lv_if_ne (tgt := 10) hx hb dX4_giveBack_5 (by decide) (fun c10 => ?_) (fun c10 => ?_)
  · replace hw := hw.1 ((bi_ne _).mp c10)
    refine lv_aload_n hx hb dX4_giveBack_10 rfl (lv_at hl 0 rfl) ?_
    refine g_get (v := .ref (a 1)) C hd iX4_giveBack_X4 0 4 rfl rfl 0 (by decide) (List.mem_of_getElem? (i := 1) rfl) rfl dX4_giveBack_11 ?_
    refine lv_sipush (v := 148) hx hb dX4_giveBack_14 (by decide) ?_
    refine lv_iload_n hx hb dX4_giveBack_17 rfl (lv_at hl 1 rfl) ?_
    refine lv_iadd hx hb dX4_giveBack_18 ?_
    obtain ⟨h3, hw⟩ := hw
    refine g_ild (f := mo_now μ) C hd 1 rfl h3 dX4_giveBack_19 ?_
    refine lv_istore_n (lv' := [(2, .int ((mo_now μ) (148 + p0).toNatClampNeg)), (0, .ref (a 0)), (1, .int p0)]) hx hb dX4_giveBack_20 rfl hl (by decide) rfl (fun ls hl => ?_)
    refine lv_iload_n hx hb dX4_giveBack_21 rfl (lv_at hl 0 rfl) ?_
    refine lv_if_lt (tgt := 30) hx hb dX4_giveBack_22 (by decide) (fun c6 => ?_) (fun c6 => ?_)
    · replace hw := hw.1 c6
      refine lv_bipush (v := (-5)) hx hb dX4_giveBack_30 (by decide) ?_
      exact r_i C hd dX4_giveBack_32 μ rfl hw
    · replace hw := hw.2 c6
      refine lv_iload_n hx hb dX4_giveBack_25 rfl (lv_at hl 0 rfl) ?_
      refine lv_iload_n hx hb dX4_giveBack_26 rfl (lv_at hl 2 rfl) ?_
      refine lv_icmp_ne (tgt := 33) hx hb dX4_giveBack_27 (by decide) (fun c7 => ?_) (fun c7 => ?_)
      · replace hw := hw.2 c7
        refine lv_aload_n hx hb dX4_giveBack_33 rfl (lv_at hl 1 rfl) ?_
        refine lv_iload_n hx hb dX4_giveBack_34 rfl (lv_at hl 2 rfl) ?_
        refine v_i C hd hl M_X4_state gX4_giveBack_X4_state (c_X4_state l B k a μ p0 _ hw) ⟨rfl, rfl⟩ ⟨Nat.le_of_ble_eq_true rfl, Nat.le_of_ble_eq_true rfl⟩ (pm_all _) (fun _ => wX4 k a μ) (fun _ => (pm_all _).symm) 0 4 rfl rfl rfl rfl rfl (Nat.le_of_ble_eq_true rfl) dX4_giveBack_35 ⟨Nat.le_of_ble_eq_true rfl, Nat.le_of_ble_eq_true rfl⟩ (fun r35 _ H locs hw hd => ?_)
        refine lv_if_ne (tgt := 57) hx hb dX4_giveBack_38 (by decide) (fun c8 => ?_) (fun c8 => ?_)
        · replace hw := hw.2 c8
          refine lv_bipush (v := (-4)) hx hb dX4_giveBack_57 (by decide) ?_
          exact r_i C hd dX4_giveBack_59 μ rfl hw
        · replace hw := hw.1 c8
          refine lv_aload_n hx hb dX4_giveBack_41 rfl (lv_at hl 1 rfl) ?_
          refine g_get (v := .ref (a 1)) C hd iX4_giveBack_X4 0 4 rfl rfl 0 (by decide) (List.mem_of_getElem? (i := 1) rfl) rfl dX4_giveBack_42 ?_
          refine lv_bipush (v := 16) hx hb dX4_giveBack_45 (by decide) ?_
          refine lv_iload_n hx hb dX4_giveBack_47 rfl (lv_at hl 2 rfl) ?_
          refine lv_bipush (v := 16) hx hb dX4_giveBack_48 (by decide) ?_
          refine lv_idiv hx hb dX4_giveBack_50 (by decide) ?_
          refine lv_iadd hx hb dX4_giveBack_51 ?_
          obtain ⟨h4, hw⟩ := hw
          refine g_ild (f := mo_now μ) C hd 1 rfl h4 dX4_giveBack_52 ?_
          refine lv_iconst (v := 1) hx hb dX4_giveBack_53 (by decide) ?_
          refine lv_icmp_ne (tgt := 60) hx hb dX4_giveBack_54 (by decide) (fun c9 => ?_) (fun c9 => ?_)
          · replace hw := hw.2 c9
            refine lv_aload_n hx hb dX4_giveBack_60 rfl (lv_at hl 1 rfl) ?_
            refine lv_aload_n hx hb dX4_giveBack_61 rfl (lv_at hl 1 rfl) ?_
            refine g_get (v := .ref (a 1)) C hd iX4_giveBack_X4 0 4 rfl rfl 0 (by decide) (List.mem_of_getElem? (i := 1) rfl) rfl dX4_giveBack_62 ?_
            refine v_v C hd hl M_X4_record gX4_giveBack_X4_record (c_X4_record l B k a μ (a 1) (mo_now μ) (mo_history μ, mo_kept μ) _ hw) ⟨rfl, rfl⟩ ⟨Nat.le_of_ble_eq_true rfl, Nat.le_of_ble_eq_true rfl⟩ (pm_pick3 0 4 0 rfl rfl rfl) (fun u => wX4 k a (mo_setKept (mo_setHistory μ (rk_history u)) (rk_kept u))) (fun u => (pm_pick3 (ws := wX4 k a (mo_setKept (mo_setHistory μ (rk_history u)) (rk_kept u))) 0 4 0 rfl rfl rfl).symm) 0 4 rfl rfl rfl rfl rfl (Nat.le_of_ble_eq_true rfl) dX4_giveBack_65 ⟨Nat.le_of_ble_eq_true rfl, Nat.le_of_ble_eq_true rfl⟩ (fun η65 H locs hw hd => ?_)
            refine lv_aload_n hx hb dX4_giveBack_68 rfl (lv_at hl 1 rfl) ?_
            refine lv_iload_n hx hb dX4_giveBack_69 rfl (lv_at hl 2 rfl) ?_
            refine v_v C hd hl M_X4_goesTo gX4_giveBack_X4_goesTo (c_X4_goesTo l B k a (mo_setKept (mo_setHistory μ (rk_history η65)) (rk_kept η65)) p0 _ hw) ⟨rfl, rfl⟩ ⟨Nat.le_of_ble_eq_true rfl, Nat.le_of_ble_eq_true rfl⟩ (pm_all _) (fun u => wX4 k a u) (fun _ => (pm_all _).symm) 0 4 rfl rfl rfl rfl rfl (Nat.le_of_ble_eq_true rfl) dX4_giveBack_70 ⟨Nat.le_of_ble_eq_true rfl, Nat.le_of_ble_eq_true rfl⟩ (fun μ70 H locs hw hd => ?_)
            refine lv_aload_n hx hb dX4_giveBack_73 rfl (lv_at hl 1 rfl) ?_
            refine lv_iload_n hx hb dX4_giveBack_74 rfl (lv_at hl 2 rfl) ?_
            refine v_v C hd hl M_X4_goes gX4_giveBack_X4_goes (c_X4_goes l B k a μ70 p0 _ hw) ⟨rfl, rfl⟩ ⟨Nat.le_of_ble_eq_true rfl, Nat.le_of_ble_eq_true rfl⟩ (pm_all _) (fun u => wX4 k a u) (fun _ => (pm_all _).symm) 0 4 rfl rfl rfl rfl rfl (Nat.le_of_ble_eq_true rfl) dX4_giveBack_75 ⟨Nat.le_of_ble_eq_true rfl, Nat.le_of_ble_eq_true rfl⟩ (fun μ75 H locs hw hd => ?_)
            refine lv_aload_n hx hb dX4_giveBack_78 rfl (lv_at hl 1 rfl) ?_
            refine lv_iload_n hx hb dX4_giveBack_79 rfl (lv_at hl 2 rfl) ?_
            refine lv_iconst (v := 1) hx hb dX4_giveBack_80 (by decide) ?_
            refine v_v C hd hl M_X4_wears gX4_giveBack_X4_wears (c_X4_wears l B k a μ75 p0 1 _ hw) ⟨rfl, rfl⟩ ⟨Nat.le_of_ble_eq_true rfl, Nat.le_of_ble_eq_true rfl⟩ (pm_all _) (fun u => wX4 k a u) (fun _ => (pm_all _).symm) 0 4 rfl rfl rfl rfl rfl (Nat.le_of_ble_eq_true rfl) dX4_giveBack_81 ⟨Nat.le_of_ble_eq_true rfl, Nat.le_of_ble_eq_true rfl⟩ (fun μ81 H locs hw hd => ?_)
            refine lv_aload_n hx hb dX4_giveBack_84 rfl (lv_at hl 1 rfl) ?_
            refine g_get (v := .ref (a 1)) C hd iX4_giveBack_X4 0 4 rfl rfl 0 (by decide) (List.mem_of_getElem? (i := 1) rfl) rfl dX4_giveBack_85 ?_
            refine lv_sipush (v := 148) hx hb dX4_giveBack_88 (by decide) ?_
            refine lv_iload_n hx hb dX4_giveBack_91 rfl (lv_at hl 2 rfl) ?_
            refine lv_iadd hx hb dX4_giveBack_92 ?_
            refine lv_iload_n hx hb dX4_giveBack_93 rfl (lv_at hl 2 rfl) ?_
            refine g_ist (f := mo_now μ81) C hd 1 rfl h3 (wX4 k a (mo_setNow μ81 (upd (mo_now μ81) (148 + p0).toNatClampNeg p0))) (wX4_stNow k a _ _) dX4_giveBack_94 (fun H locs hd => ?_)
            refine lv_iload_n hx hb dX4_giveBack_95 rfl (lv_at hl 0 rfl) ?_
            exact r_i C hd dX4_giveBack_96 (mo_setNow μ81 (upd (mo_now μ81) (148 + p0).toNatClampNeg p0)) rfl hw
          · replace hw := hw.1 c9
            refine lv_bipush (v := (-4)) hx hb dX4_giveBack_57 (by decide) ?_
            exact r_i C hd dX4_giveBack_59 μ rfl hw
      · replace hw := hw.1 c7
        refine lv_bipush (v := (-5)) hx hb dX4_giveBack_30 (by decide) ?_
        exact r_i C hd dX4_giveBack_32 μ rfl hw
  · replace hw := hw.2 ((bi_eq _).mp c10)
    refine lv_iconst (v := (-1)) hx hb dX4_giveBack_8 (by decide) ?_
    exact r_i C hd dX4_giveBack_9 μ rfl hw
abbrev rm_X4_givesUp : Room := { frames := 6, cells := 0, slots := 0, locals := 133 }
theorem M_X4_givesUp : MI yX4_givesUp wsX4_givesUp cX4_givesUp 5 (some .int) 1 := ⟨⟨_, rfl⟩, by decide +kernel, by decide +kernel, by decide +kernel, by decide +kernel⟩
theorem iX4_givesUp_X4 : ∀ w ∈ wsX40, w ∈ wsX4_givesUp := fun _ h => List.mem_cons_of_mem _ (List.mem_append_right _ h)
def wpX4_givesUp_J82 (v14l2 : Int32) (v14l3 : Int32) (μ14 : MO) (r55 : Int32) (post : Int32 → MO → Prop) (κ : Int32 → Int32 → MO → Prop) (v82s2 : Int32) : Prop := (vp_in (148 + v14l3) 276 ∧ ((r55 = (-5) → (vp_in 5 276 ∧ κ (v14l2 + 1) (v14l3 + 1) (mo_setNow (mo_setNow μ14 (upd (mo_now μ14) (148 + v14l3).toNatClampNeg v82s2)) (upd (upd (mo_now μ14) (148 + v14l3).toNatClampNeg v82s2) (5 : Int32).toNatClampNeg (((upd (mo_now μ14) (148 + v14l3).toNatClampNeg v82s2) (5 : Int32).toNatClampNeg) + 1))))) ∧ (¬ r55 = (-5) → wpX4_wears (mo_setNow μ14 (upd (mo_now μ14) (148 + v14l3).toNatClampNeg v82s2)) r55 1 (fun μ110 => κ v14l2 (v14l3 + 1) μ110))))
def wpX4_givesUp_L14 (p0 : Int32) (post : Int32 → MO → Prop) : Nat → Int32 → Int32 → MO → Prop
  | 0, _, _, _ => False
  | n + 1, v14l2, v14l3, μ14 => ((64 ≤ v14l3 → post v14l2 μ14) ∧ (¬ 64 ≤ v14l3 → wpX4_isAddress μ14 v14l3 (fun b22 => ((b22 = true → wpX4_isLost μ14 v14l3 (fun b30 => ((b30 = true → wpX4_givesUp_L14 p0 post n v14l2 (v14l3 + 1) μ14) ∧ (b30 = false → (vp_in (148 + v14l3) 276 ∧ (((((mo_now μ14) (148 + v14l3).toNatClampNeg) / 16) = p0 → wpX4_lends μ14 v14l3 (fun r55 => ((r55 = (-5) → wpX4_givesUp_J82 v14l2 v14l3 μ14 r55 post (wpX4_givesUp_L14 p0 post n) (-1)) ∧ (¬ r55 = (-5) → wpX4_givesUp_J82 v14l2 v14l3 μ14 r55 post (wpX4_givesUp_L14 p0 post n) r55)))) ∧ (¬ (((mo_now μ14) (148 + v14l3).toNatClampNeg) / 16) = p0 → wpX4_givesUp_L14 p0 post n v14l2 (v14l3 + 1) μ14))))))) ∧ (b22 = false → wpX4_givesUp_L14 p0 post n v14l2 (v14l3 + 1) μ14)))))
def wpX4_givesUp (μ : MO) (p0 : Int32) (post : Int32 → MO → Prop) : Prop := (vp_in (16 + p0) 276 ∧ ∃ n : Nat, wpX4_givesUp_L14 p0 post n 0 0 (mo_setNow μ (upd (mo_now μ) (16 + p0).toNatClampNeg 1)))
set_option maxHeartbeats 4000000 in
set_option maxRecDepth 100000 in
theorem c_X4_givesUp (l : Launch) (B : va_G) (k : KT) (a : Nat → Nat) (μ : MO) (p0 : Int32) (post : Int32 → MO → Prop) (hw : wpX4_givesUp μ p0 post) : Cti l yX4_givesUp wsX4_givesUp rm_X4_givesUp 0 0 B k [.ref (a 0), .int p0] (wX4 k a μ) (fun u => wX4 k a u) post := by
  refine Cti.of M_X4_givesUp (Nat.le_of_ble_eq_true rfl) ?_
  intro p e s m args below meth c A C hd ls hl
  have hx := C.1; have hb := C.2.1; have hml := C.2.2.1; have hts := C.2.2.2.2.1
  have hl : lv_has ls 5 [(0, .ref (a 0)), (1, .int p0)] := hl
  have L14 : ∀ (n : Nat), ∀ (v14l2 : Int32) (v14l3 : Int32) (μ14 : MO) (H : Heap) (locs : List Loc) (ls : Array Slot), Wd B A s.heap (wX4 k a μ14) H locs → lv_has ls 5 [(0, .ref (a 0)), (1, .int p0), (2, .int v14l2), (3, .int v14l3)] → wpX4_givesUp_L14 p0 post n v14l2 v14l3 μ14 → W p l e rm_X4_givesUp s m args below meth c H locs 0 0 (Qi below args s B A (fun u => wX4 k a u) post 0 0) (F0 m 14 ls []) := by
    intro n
    induction n with
    | zero => intro v14l2 v14l3 μ14 H locs ls hd hl hw; exact absurd hw (by simp [wpX4_givesUp_L14])
    | succ n ih =>
      intro v14l2 v14l3 μ14 H locs ls hd hl hw
      rw [wpX4_givesUp_L14] at hw
      have J82 : ∀ (v14l2 : Int32) (v14l3 : Int32) (μ14 : MO) (r55 : Int32) (v82s2 : Int32) (H : Heap) (locs : List Loc) (ls : Array Slot), Wd B A s.heap (wX4 k a μ14) H locs → lv_has ls 5 [(0, .ref (a 0)), (1, .int p0), (2, .int v14l2), (3, .int v14l3), (4, .int r55)] → wpX4_givesUp_J82 v14l2 v14l3 μ14 r55 post (wpX4_givesUp_L14 p0 post n) v82s2 → W p l e rm_X4_givesUp s m args below meth c H locs 0 0 (Qi below args s B A (fun u => wX4 k a u) post 0 0) (F0 m 82 ls [.int v82s2, .int (148 + v14l3), .ref (a 1)]) := by
        intro v14l2 v14l3 μ14 r55 v82s2 H locs ls hd hl hw
        rw [wpX4_givesUp_J82] at hw
        obtain ⟨h14, hw⟩ := hw
        refine g_ist (f := mo_now μ14) C hd 1 rfl h14 (wX4 k a (mo_setNow μ14 (upd (mo_now μ14) (148 + v14l3).toNatClampNeg v82s2))) (wX4_stNow k a _ _) dX4_givesUp_82 (fun H locs hd => ?_)
        refine lv_iload hx hb dX4_givesUp_83 (lv_at hl 4 rfl) ?_
        refine lv_bipush (v := (-5)) hx hb dX4_givesUp_85 (by decide) ?_
        refine lv_icmp_ne (tgt := 106) hx hb dX4_givesUp_87 (by decide) (fun c25 => ?_) (fun c25 => ?_)
        · replace hw := hw.2 c25
          refine lv_aload_n hx hb dX4_givesUp_106 rfl (lv_at hl 0 rfl) ?_
          refine lv_iload hx hb dX4_givesUp_107 (lv_at hl 4 rfl) ?_
          refine lv_iconst (v := 1) hx hb dX4_givesUp_109 (by decide) ?_
          refine v_v C hd hl M_X4_wears gX4_givesUp_X4_wears (c_X4_wears l B k a (mo_setNow μ14 (upd (mo_now μ14) (148 + v14l3).toNatClampNeg v82s2)) r55 1 _ hw) ⟨rfl, rfl⟩ ⟨Nat.le_of_ble_eq_true rfl, Nat.le_of_ble_eq_true rfl⟩ (pm_all _) (fun u => wX4 k a u) (fun _ => (pm_all _).symm) 0 4 rfl rfl rfl rfl rfl (Nat.le_of_ble_eq_true rfl) dX4_givesUp_110 ⟨Nat.le_of_ble_eq_true rfl, Nat.le_of_ble_eq_true rfl⟩ (fun μ110 H locs hw hd => ?_)
          refine lv_iinc (v := v14l3 + 1) (lv' := [(3, .int (v14l3 + 1)), (0, .ref (a 0)), (1, .int p0), (2, .int v14l2), (4, .int r55)]) hx hb dX4_givesUp_113 hl (k := 3) rfl rfl (by decide) rfl (fun ls hl => ?_)
          refine lv_goto (tgt := 14) hx hb dX4_givesUp_116 (by decide) ?_
          exact ih v14l2 (v14l3 + 1) μ110 _ _ _ hd (lv_sub hl [1, 2, 3, 0] rfl) hw
        · replace hw := hw.1 c25
          refine lv_iinc (v := v14l2 + 1) (lv' := [(2, .int (v14l2 + 1)), (0, .ref (a 0)), (1, .int p0), (3, .int v14l3), (4, .int r55)]) hx hb dX4_givesUp_90 hl (k := 2) rfl rfl (by decide) rfl (fun ls hl => ?_)
          refine lv_aload_n hx hb dX4_givesUp_93 rfl (lv_at hl 1 rfl) ?_
          refine g_get (v := .ref (a 1)) C hd iX4_givesUp_X4 0 4 rfl rfl 0 (by decide) (List.mem_of_getElem? (i := 1) rfl) rfl dX4_givesUp_94 ?_
          refine lv_iconst (v := 5) hx hb dX4_givesUp_97 (by decide) ?_
          refine lv_dup2_11 hx hb dX4_givesUp_98 rfl rfl ?_
          obtain ⟨h15, hw⟩ := hw
          refine g_ild (f := upd (mo_now μ14) (148 + v14l3).toNatClampNeg v82s2) C hd 1 rfl h15 dX4_givesUp_99 ?_
          refine lv_iconst (v := 1) hx hb dX4_givesUp_100 (by decide) ?_
          refine lv_iadd hx hb dX4_givesUp_101 ?_
          refine g_ist (f := upd (mo_now μ14) (148 + v14l3).toNatClampNeg v82s2) C hd 1 rfl h15 (wX4 k a (mo_setNow (mo_setNow μ14 (upd (mo_now μ14) (148 + v14l3).toNatClampNeg v82s2)) (upd (upd (mo_now μ14) (148 + v14l3).toNatClampNeg v82s2) (5 : Int32).toNatClampNeg (((upd (mo_now μ14) (148 + v14l3).toNatClampNeg v82s2) (5 : Int32).toNatClampNeg) + 1)))) (wX4_stNow k a _ _) dX4_givesUp_102 (fun H locs hd => ?_)
          refine lv_goto (tgt := 113) hx hb dX4_givesUp_103 (by decide) ?_
          refine lv_iinc (v := v14l3 + 1) (lv' := [(3, .int (v14l3 + 1)), (2, .int (v14l2 + 1)), (0, .ref (a 0)), (1, .int p0), (4, .int r55)]) hx hb dX4_givesUp_113 hl (k := 3) rfl rfl (by decide) rfl (fun ls hl => ?_)
          refine lv_goto (tgt := 14) hx hb dX4_givesUp_116 (by decide) ?_
          exact ih (v14l2 + 1) (v14l3 + 1) (mo_setNow (mo_setNow μ14 (upd (mo_now μ14) (148 + v14l3).toNatClampNeg v82s2)) (upd (upd (mo_now μ14) (148 + v14l3).toNatClampNeg v82s2) (5 : Int32).toNatClampNeg (((upd (mo_now μ14) (148 + v14l3).toNatClampNeg v82s2) (5 : Int32).toNatClampNeg) + 1))) _ _ _ hd (lv_sub hl [2, 3, 1, 0] rfl) hw
      refine lv_iload_n hx hb dX4_givesUp_14 rfl (lv_at hl 3 rfl) ?_
      refine lv_bipush (v := 64) hx hb dX4_givesUp_15 (by decide) ?_
      refine lv_icmp_ge (tgt := 119) hx hb dX4_givesUp_17 (by decide) (fun c26 => ?_) (fun c26 => ?_)
      · replace hw := hw.1 c26
        refine lv_iload_n hx hb dX4_givesUp_119 rfl (lv_at hl 2 rfl) ?_
        exact r_i C hd dX4_givesUp_120 μ14 rfl hw
      · replace hw := hw.2 c26
        refine lv_aload_n hx hb dX4_givesUp_20 rfl (lv_at hl 0 rfl) ?_
        refine lv_iload_n hx hb dX4_givesUp_21 rfl (lv_at hl 3 rfl) ?_
        refine v_i C hd hl M_X4_isAddress gX4_givesUp_X4_isAddress (c_X4_isAddress l B k a μ14 v14l3 _ hw) ⟨rfl, rfl⟩ ⟨Nat.le_of_ble_eq_true rfl, Nat.le_of_ble_eq_true rfl⟩ (pm_all _) (fun _ => wX4 k a μ14) (fun _ => (pm_all _).symm) 0 4 rfl rfl rfl rfl rfl (Nat.le_of_ble_eq_true rfl) dX4_givesUp_22 ⟨Nat.le_of_ble_eq_true rfl, Nat.le_of_ble_eq_true rfl⟩ (fun r _ H locs hp hd => ?_)
        obtain ⟨b22, rfl, hw⟩ := hp
        refine lv_if_eq (tgt := 113) hx hb dX4_givesUp_25 (by decide) (fun c30 => ?_) (fun c30 => ?_)
        · replace hw := hw.2 ((bi_eq _).mp c30)
          refine lv_iinc (v := v14l3 + 1) (lv' := [(3, .int (v14l3 + 1)), (0, .ref (a 0)), (1, .int p0), (2, .int v14l2)]) hx hb dX4_givesUp_113 hl (k := 3) rfl rfl (by decide) rfl (fun ls hl => ?_)
          refine lv_goto (tgt := 14) hx hb dX4_givesUp_116 (by decide) ?_
          exact ih v14l2 (v14l3 + 1) μ14 _ _ _ hd (lv_sub hl [1, 2, 3, 0] rfl) hw
        · replace hw := hw.1 ((bi_ne _).mp c30)
          refine lv_aload_n hx hb dX4_givesUp_28 rfl (lv_at hl 0 rfl) ?_
          refine lv_iload_n hx hb dX4_givesUp_29 rfl (lv_at hl 3 rfl) ?_
          refine v_i C hd hl M_X4_isLost gX4_givesUp_X4_isLost (c_X4_isLost l B k a μ14 v14l3 _ hw) ⟨rfl, rfl⟩ ⟨Nat.le_of_ble_eq_true rfl, Nat.le_of_ble_eq_true rfl⟩ (pm_all _) (fun _ => wX4 k a μ14) (fun _ => (pm_all _).symm) 0 4 rfl rfl rfl rfl rfl (Nat.le_of_ble_eq_true rfl) dX4_givesUp_30 ⟨Nat.le_of_ble_eq_true rfl, Nat.le_of_ble_eq_true rfl⟩ (fun r _ H locs hp hd => ?_)
          obtain ⟨b30, rfl, hw⟩ := hp
          refine lv_if_ne (tgt := 113) hx hb dX4_givesUp_33 (by decide) (fun c29 => ?_) (fun c29 => ?_)
          · replace hw := hw.1 ((bi_ne _).mp c29)
            refine lv_iinc (v := v14l3 + 1) (lv' := [(3, .int (v14l3 + 1)), (0, .ref (a 0)), (1, .int p0), (2, .int v14l2)]) hx hb dX4_givesUp_113 hl (k := 3) rfl rfl (by decide) rfl (fun ls hl => ?_)
            refine lv_goto (tgt := 14) hx hb dX4_givesUp_116 (by decide) ?_
            exact ih v14l2 (v14l3 + 1) μ14 _ _ _ hd (lv_sub hl [1, 2, 3, 0] rfl) hw
          · replace hw := hw.2 ((bi_eq _).mp c29)
            refine lv_aload_n hx hb dX4_givesUp_36 rfl (lv_at hl 0 rfl) ?_
            refine g_get (v := .ref (a 1)) C hd iX4_givesUp_X4 0 4 rfl rfl 0 (by decide) (List.mem_of_getElem? (i := 1) rfl) rfl dX4_givesUp_37 ?_
            refine lv_sipush (v := 148) hx hb dX4_givesUp_40 (by decide) ?_
            refine lv_iload_n hx hb dX4_givesUp_43 rfl (lv_at hl 3 rfl) ?_
            refine lv_iadd hx hb dX4_givesUp_44 ?_
            obtain ⟨h16, hw⟩ := hw
            refine g_ild (f := mo_now μ14) C hd 1 rfl h16 dX4_givesUp_45 ?_
            refine lv_bipush (v := 16) hx hb dX4_givesUp_46 (by decide) ?_
            refine lv_idiv hx hb dX4_givesUp_48 (by decide) ?_
            refine lv_iload_n hx hb dX4_givesUp_49 rfl (lv_at hl 1 rfl) ?_
            refine lv_icmp_ne (tgt := 113) hx hb dX4_givesUp_50 (by decide) (fun c27 => ?_) (fun c27 => ?_)
            · replace hw := hw.2 c27
              refine lv_iinc (v := v14l3 + 1) (lv' := [(3, .int (v14l3 + 1)), (0, .ref (a 0)), (1, .int p0), (2, .int v14l2)]) hx hb dX4_givesUp_113 hl (k := 3) rfl rfl (by decide) rfl (fun ls hl => ?_)
              refine lv_goto (tgt := 14) hx hb dX4_givesUp_116 (by decide) ?_
              exact ih v14l2 (v14l3 + 1) μ14 _ _ _ hd (lv_sub hl [1, 2, 3, 0] rfl) hw
            · replace hw := hw.1 c27
              refine lv_aload_n hx hb dX4_givesUp_53 rfl (lv_at hl 0 rfl) ?_
              refine lv_iload_n hx hb dX4_givesUp_54 rfl (lv_at hl 3 rfl) ?_
              refine v_i C hd hl M_X4_lends gX4_givesUp_X4_lends (c_X4_lends l B k a μ14 v14l3 _ hw) ⟨rfl, rfl⟩ ⟨Nat.le_of_ble_eq_true rfl, Nat.le_of_ble_eq_true rfl⟩ (pm_all _) (fun _ => wX4 k a μ14) (fun _ => (pm_all _).symm) 0 4 rfl rfl rfl rfl rfl (Nat.le_of_ble_eq_true rfl) dX4_givesUp_55 ⟨Nat.le_of_ble_eq_true rfl, Nat.le_of_ble_eq_true rfl⟩ (fun r55 _ H locs hw hd => ?_)
              refine lv_istore (lv' := [(4, .int r55), (0, .ref (a 0)), (1, .int p0), (2, .int v14l2), (3, .int v14l3)]) hx hb dX4_givesUp_58 hl (by decide) rfl (fun ls hl => ?_)
              refine lv_aload_n hx hb dX4_givesUp_60 rfl (lv_at hl 1 rfl) ?_
              refine g_get (v := .ref (a 1)) C hd iX4_givesUp_X4 0 4 rfl rfl 0 (by decide) (List.mem_of_getElem? (i := 1) rfl) rfl dX4_givesUp_61 ?_
              refine lv_sipush (v := 148) hx hb dX4_givesUp_64 (by decide) ?_
              refine lv_iload_n hx hb dX4_givesUp_67 rfl (lv_at hl 4 rfl) ?_
              refine lv_iadd hx hb dX4_givesUp_68 ?_
              refine lv_iload hx hb dX4_givesUp_69 (lv_at hl 0 rfl) ?_
              refine lv_bipush (v := (-5)) hx hb dX4_givesUp_71 (by decide) ?_
              refine lv_icmp_ne (tgt := 80) hx hb dX4_givesUp_73 (by decide) (fun c28 => ?_) (fun c28 => ?_)
              · replace hw := hw.2 c28
                refine lv_iload hx hb dX4_givesUp_80 (lv_at hl 0 rfl) ?_
                exact J82 v14l2 v14l3 μ14 r55 r55 _ _ _ hd (lv_sub hl [1, 2, 3, 4, 0] rfl) hw
              · replace hw := hw.1 c28
                refine lv_iconst (v := (-1)) hx hb dX4_givesUp_76 (by decide) ?_
                refine lv_goto (tgt := 82) hx hb dX4_givesUp_77 (by decide) ?_
                exact J82 v14l2 v14l3 μ14 r55 (-1) _ _ _ hd (lv_sub hl [1, 2, 3, 4, 0] rfl) hw
  rw [wpX4_givesUp] at hw
  refine lv_iconst (v := 0) hx hb dX4_givesUp_0 (by decide) ?_
  refine lv_istore_n (lv' := [(2, .int 0), (0, .ref (a 0)), (1, .int p0)]) hx hb dX4_givesUp_1 rfl hl (by decide) rfl (fun ls hl => ?_)
  refine lv_aload_n hx hb dX4_givesUp_2 rfl (lv_at hl 1 rfl) ?_
  refine g_get (v := .ref (a 1)) C hd iX4_givesUp_X4 0 4 rfl rfl 0 (by decide) (List.mem_of_getElem? (i := 1) rfl) rfl dX4_givesUp_3 ?_
  refine lv_bipush (v := 16) hx hb dX4_givesUp_6 (by decide) ?_
  refine lv_iload_n hx hb dX4_givesUp_8 rfl (lv_at hl 2 rfl) ?_
  refine lv_iadd hx hb dX4_givesUp_9 ?_
  refine lv_iconst (v := 1) hx hb dX4_givesUp_10 (by decide) ?_
  obtain ⟨h17, hw⟩ := hw
  refine g_ist (f := mo_now μ) C hd 1 rfl h17 (wX4 k a (mo_setNow μ (upd (mo_now μ) (16 + p0).toNatClampNeg 1))) (wX4_stNow k a _ _) dX4_givesUp_11 (fun H locs hd => ?_)
  refine lv_iconst (v := 0) hx hb dX4_givesUp_12 (by decide) ?_
  refine lv_istore_n (lv' := [(3, .int 0), (2, .int 0), (0, .ref (a 0)), (1, .int p0)]) hx hb dX4_givesUp_13 rfl hl (by decide) rfl (fun ls hl => ?_)
  obtain ⟨n, hw⟩ := hw
  exact L14 n 0 0 (mo_setNow μ (upd (mo_now μ) (16 + p0).toNatClampNeg 1)) _ _ _ hd (lv_sub hl [2, 3, 1, 0] rfl) hw
abbrev rm_X4_giveUp : Room := { frames := 7, cells := 0, slots := 0, locals := 157 }
theorem M_X4_giveUp : MI yX4_giveUp wsX4_giveUp cX4_giveUp 3 (some .int) 1 := ⟨⟨_, rfl⟩, by decide +kernel, by decide +kernel, by decide +kernel, by decide +kernel⟩
theorem iX4_giveUp_X4 : ∀ w ∈ wsX40, w ∈ wsX4_giveUp := fun _ h => List.mem_cons_of_mem _ (List.mem_append_right _ h)
def wpX4_giveUp (μ : MO) (p0 : Int32) (post : Int32 → MO → Prop) : Prop := wpX4_isHead p0 (fun b1 => ((b1 = true → (vp_in 16 276 ∧ (vp_in 17 276 ∧ (vp_in 18 276 ∧ (vp_in 19 276 ∧ (vp_in (16 + p0) 276 ∧ ((((((((mo_now μ) (16 : Int32).toNatClampNeg) + ((mo_now μ) (17 : Int32).toNatClampNeg)) + ((mo_now μ) (18 : Int32).toNatClampNeg)) + ((mo_now μ) (19 : Int32).toNatClampNeg)) - ((mo_now μ) (16 + p0).toNatClampNeg)) = 3 → post (-4) μ) ∧ (¬ ((((((mo_now μ) (16 : Int32).toNatClampNeg) + ((mo_now μ) (17 : Int32).toNatClampNeg)) + ((mo_now μ) (18 : Int32).toNatClampNeg)) + ((mo_now μ) (19 : Int32).toNatClampNeg)) - ((mo_now μ) (16 + p0).toNatClampNeg)) = 3 → ((((mo_now μ) (16 + p0).toNatClampNeg) = 1 → post (-5) μ) ∧ (¬ ((mo_now μ) (16 + p0).toNatClampNeg) = 1 → wpX4_record (mo_now μ) (mo_history μ, mo_kept μ) (fun η80 => wpX4_givesUp (mo_setKept (mo_setHistory μ (rk_history η80)) (rk_kept η80)) p0 (fun r85 μ85 => post r85 μ85)))))))))))) ∧ (b1 = false → post (-1) μ)))
set_option maxHeartbeats 4000000 in
set_option maxRecDepth 100000 in
theorem c_X4_giveUp (l : Launch) (B : va_G) (k : KT) (a : Nat → Nat) (μ : MO) (p0 : Int32) (post : Int32 → MO → Prop) (hw : wpX4_giveUp μ p0 post) : Cti l yX4_giveUp wsX4_giveUp rm_X4_giveUp 0 0 B k [.ref (a 0), .int p0] (wX4 k a μ) (fun u => wX4 k a u) post := by
  refine Cti.of M_X4_giveUp (Nat.le_of_ble_eq_true rfl) ?_
  intro p e s m args below meth c A C hd ls hl
  have hx := C.1; have hb := C.2.1; have hml := C.2.2.1; have hts := C.2.2.2.2.1
  have hl : lv_has ls 3 [(0, .ref (a 0)), (1, .int p0)] := hl
  rw [wpX4_giveUp] at hw
  refine lv_iload_n hx hb dX4_giveUp_0 rfl (lv_at hl 1 rfl) ?_
  refine s_i C hd hl M_X4_isHead gX4_giveUp_X4_isHead rfl (c_X4_isHead l B k p0 _ hw) ⟨rfl, rfl⟩ ⟨Nat.le_of_ble_eq_true rfl, Nat.le_of_ble_eq_true rfl⟩ (pm_non _) (fun _ => wX4 k a μ) (fun _ => List.Perm.refl _) rfl rfl (Nat.le_of_ble_eq_true rfl) dX4_giveUp_1 ⟨Nat.le_of_ble_eq_true rfl, Nat.le_of_ble_eq_true rfl⟩ (fun r _ H locs hp hd => ?_)
  obtain ⟨b1, rfl, hw⟩ := hp
  refine lv_if_ne (tgt := 9) hx hb dX4_giveUp_4 (by decide) (fun c6 => ?_) (fun c6 => ?_)
  · replace hw := hw.1 ((bi_ne _).mp c6)
    refine lv_aload_n hx hb dX4_giveUp_9 rfl (lv_at hl 0 rfl) ?_
    refine g_get (v := .ref (a 1)) C hd iX4_giveUp_X4 0 4 rfl rfl 0 (by decide) (List.mem_of_getElem? (i := 1) rfl) rfl dX4_giveUp_10 ?_
    refine lv_bipush (v := 16) hx hb dX4_giveUp_13 (by decide) ?_
    obtain ⟨h6, hw⟩ := hw
    refine g_ild (f := mo_now μ) C hd 1 rfl h6 dX4_giveUp_15 ?_
    refine lv_aload_n hx hb dX4_giveUp_16 rfl (lv_at hl 0 rfl) ?_
    refine g_get (v := .ref (a 1)) C hd iX4_giveUp_X4 0 4 rfl rfl 0 (by decide) (List.mem_of_getElem? (i := 1) rfl) rfl dX4_giveUp_17 ?_
    refine lv_bipush (v := 17) hx hb dX4_giveUp_20 (by decide) ?_
    obtain ⟨h7, hw⟩ := hw
    refine g_ild (f := mo_now μ) C hd 1 rfl h7 dX4_giveUp_22 ?_
    refine lv_iadd hx hb dX4_giveUp_23 ?_
    refine lv_aload_n hx hb dX4_giveUp_24 rfl (lv_at hl 0 rfl) ?_
    refine g_get (v := .ref (a 1)) C hd iX4_giveUp_X4 0 4 rfl rfl 0 (by decide) (List.mem_of_getElem? (i := 1) rfl) rfl dX4_giveUp_25 ?_
    refine lv_bipush (v := 18) hx hb dX4_giveUp_28 (by decide) ?_
    obtain ⟨h8, hw⟩ := hw
    refine g_ild (f := mo_now μ) C hd 1 rfl h8 dX4_giveUp_30 ?_
    refine lv_iadd hx hb dX4_giveUp_31 ?_
    refine lv_aload_n hx hb dX4_giveUp_32 rfl (lv_at hl 0 rfl) ?_
    refine g_get (v := .ref (a 1)) C hd iX4_giveUp_X4 0 4 rfl rfl 0 (by decide) (List.mem_of_getElem? (i := 1) rfl) rfl dX4_giveUp_33 ?_
    refine lv_bipush (v := 19) hx hb dX4_giveUp_36 (by decide) ?_
    obtain ⟨h9, hw⟩ := hw
    refine g_ild (f := mo_now μ) C hd 1 rfl h9 dX4_giveUp_38 ?_
    refine lv_iadd hx hb dX4_giveUp_39 ?_
    refine lv_aload_n hx hb dX4_giveUp_40 rfl (lv_at hl 0 rfl) ?_
    refine g_get (v := .ref (a 1)) C hd iX4_giveUp_X4 0 4 rfl rfl 0 (by decide) (List.mem_of_getElem? (i := 1) rfl) rfl dX4_giveUp_41 ?_
    refine lv_bipush (v := 16) hx hb dX4_giveUp_44 (by decide) ?_
    refine lv_iload_n hx hb dX4_giveUp_46 rfl (lv_at hl 1 rfl) ?_
    refine lv_iadd hx hb dX4_giveUp_47 ?_
    obtain ⟨h10, hw⟩ := hw
    refine g_ild (f := mo_now μ) C hd 1 rfl h10 dX4_giveUp_48 ?_
    refine lv_isub hx hb dX4_giveUp_49 ?_
    refine lv_istore_n (lv' := [(2, .int ((((((mo_now μ) (16 : Int32).toNatClampNeg) + ((mo_now μ) (17 : Int32).toNatClampNeg)) + ((mo_now μ) (18 : Int32).toNatClampNeg)) + ((mo_now μ) (19 : Int32).toNatClampNeg)) - ((mo_now μ) (16 + p0).toNatClampNeg))), (0, .ref (a 0)), (1, .int p0)]) hx hb dX4_giveUp_50 rfl hl (by decide) rfl (fun ls hl => ?_)
    refine lv_iload_n hx hb dX4_giveUp_51 rfl (lv_at hl 0 rfl) ?_
    refine lv_iconst (v := 3) hx hb dX4_giveUp_52 (by decide) ?_
    refine lv_icmp_ne (tgt := 59) hx hb dX4_giveUp_53 (by decide) (fun c4 => ?_) (fun c4 => ?_)
    · replace hw := hw.2 c4
      refine lv_aload_n hx hb dX4_giveUp_59 rfl (lv_at hl 1 rfl) ?_
      refine g_get (v := .ref (a 1)) C hd iX4_giveUp_X4 0 4 rfl rfl 0 (by decide) (List.mem_of_getElem? (i := 1) rfl) rfl dX4_giveUp_60 ?_
      refine lv_bipush (v := 16) hx hb dX4_giveUp_63 (by decide) ?_
      refine lv_iload_n hx hb dX4_giveUp_65 rfl (lv_at hl 2 rfl) ?_
      refine lv_iadd hx hb dX4_giveUp_66 ?_
      refine g_ild (f := mo_now μ) C hd 1 rfl h10 dX4_giveUp_67 ?_
      refine lv_iconst (v := 1) hx hb dX4_giveUp_68 (by decide) ?_
      refine lv_icmp_ne (tgt := 75) hx hb dX4_giveUp_69 (by decide) (fun c5 => ?_) (fun c5 => ?_)
      · replace hw := hw.2 c5
        refine lv_aload_n hx hb dX4_giveUp_75 rfl (lv_at hl 1 rfl) ?_
        refine lv_aload_n hx hb dX4_giveUp_76 rfl (lv_at hl 1 rfl) ?_
        refine g_get (v := .ref (a 1)) C hd iX4_giveUp_X4 0 4 rfl rfl 0 (by decide) (List.mem_of_getElem? (i := 1) rfl) rfl dX4_giveUp_77 ?_
        refine v_v C hd hl M_X4_record gX4_giveUp_X4_record (c_X4_record l B k a μ (a 1) (mo_now μ) (mo_history μ, mo_kept μ) _ hw) ⟨rfl, rfl⟩ ⟨Nat.le_of_ble_eq_true rfl, Nat.le_of_ble_eq_true rfl⟩ (pm_pick3 0 4 0 rfl rfl rfl) (fun u => wX4 k a (mo_setKept (mo_setHistory μ (rk_history u)) (rk_kept u))) (fun u => (pm_pick3 (ws := wX4 k a (mo_setKept (mo_setHistory μ (rk_history u)) (rk_kept u))) 0 4 0 rfl rfl rfl).symm) 0 4 rfl rfl rfl rfl rfl (Nat.le_of_ble_eq_true rfl) dX4_giveUp_80 ⟨Nat.le_of_ble_eq_true rfl, Nat.le_of_ble_eq_true rfl⟩ (fun η80 H locs hw hd => ?_)
        refine lv_aload_n hx hb dX4_giveUp_83 rfl (lv_at hl 1 rfl) ?_
        refine lv_iload_n hx hb dX4_giveUp_84 rfl (lv_at hl 2 rfl) ?_
        refine v_i C hd hl M_X4_givesUp gX4_giveUp_X4_givesUp (c_X4_givesUp l B k a (mo_setKept (mo_setHistory μ (rk_history η80)) (rk_kept η80)) p0 _ hw) ⟨rfl, rfl⟩ ⟨Nat.le_of_ble_eq_true rfl, Nat.le_of_ble_eq_true rfl⟩ (pm_all _) (fun u => wX4 k a u) (fun _ => (pm_all _).symm) 0 4 rfl rfl rfl rfl rfl (Nat.le_of_ble_eq_true rfl) dX4_giveUp_85 ⟨Nat.le_of_ble_eq_true rfl, Nat.le_of_ble_eq_true rfl⟩ (fun r85 μ85 H locs hw hd => ?_)
        exact r_i C hd dX4_giveUp_88 μ85 rfl hw
      · replace hw := hw.1 c5
        refine lv_bipush (v := (-5)) hx hb dX4_giveUp_72 (by decide) ?_
        exact r_i C hd dX4_giveUp_74 μ rfl hw
    · replace hw := hw.1 c4
      refine lv_bipush (v := (-4)) hx hb dX4_giveUp_56 (by decide) ?_
      exact r_i C hd dX4_giveUp_58 μ rfl hw
  · replace hw := hw.2 ((bi_eq _).mp c6)
    refine lv_iconst (v := (-1)) hx hb dX4_giveUp_7 (by decide) ?_
    exact r_i C hd dX4_giveUp_8 μ rfl hw
abbrev rm_X4_stands : Room := { frames := 0, cells := 0, slots := 0, locals := 0 }
theorem M_X4_stands : MI yX4_stands wsX4_stands cX4_stands 3 (some .boolean) 1 := ⟨⟨_, rfl⟩, by decide +kernel, by decide +kernel, by decide +kernel, by decide +kernel⟩
theorem iX4_stands_X4 : ∀ w ∈ wsX40, w ∈ wsX4_stands := fun _ h => List.mem_cons_of_mem _ (List.mem_append_right _ h)
def wpX4_stands_J44 (μ : MO) (v29s0 : Bool) (post : Bool → MO → Prop) (v44s2 : Bool) : Prop := post v29s0 (mo_setAt μ ((mo_at μ) + (bi v44s2)))
def wpX4_stands_J29 (μ : MO) (post : Bool → MO → Prop) (v29s0 : Bool) : Prop := ((v29s0 = true → wpX4_stands_J44 μ v29s0 post true) ∧ (v29s0 = false → wpX4_stands_J44 μ v29s0 post false))
def wpX4_stands_J28 (μ : MO) (post : Bool → MO → Prop)  : Prop := wpX4_stands_J29 μ post false
def wpX4_stands (μ : MO) (p0 : Int32) (post : Bool → MO → Prop) : Prop := (((mo_length μ) ≤ (mo_at μ) → wpX4_stands_J28 μ post ) ∧ (¬ (mo_length μ) ≤ (mo_at μ) → (vp_in (mo_at μ) 60 ∧ ((((mo_text μ) (mo_at μ).toNatClampNeg) = p0 → wpX4_stands_J29 μ post true) ∧ (¬ ((mo_text μ) (mo_at μ).toNatClampNeg) = p0 → wpX4_stands_J28 μ post )))))
set_option maxHeartbeats 4000000 in
set_option maxRecDepth 100000 in
theorem c_X4_stands (l : Launch) (B : va_G) (k : KT) (a : Nat → Nat) (μ : MO) (p0 : Int32) (post : Bool → MO → Prop) (hw : wpX4_stands μ p0 post) : Cti l yX4_stands wsX4_stands rm_X4_stands 0 0 B k [.ref (a 0), .int p0] (wX4 k a μ) (fun u => wX4 k a u) (bpost post) := by
  refine Cti.of M_X4_stands (Nat.le_of_ble_eq_true rfl) ?_
  intro p e s m args below meth c A C hd ls hl
  have hx := C.1; have hb := C.2.1; have hml := C.2.2.1; have hts := C.2.2.2.2.1
  have hl : lv_has ls 3 [(0, .ref (a 0)), (1, .int p0)] := hl
  have J44 : ∀ (v29s0 : Bool) (v44s2 : Bool) (H : Heap) (locs : List Loc) (ls : Array Slot), Wd B A s.heap (wX4 k a μ) H locs → lv_has ls 3 [(2, .int (bi v29s0))] → wpX4_stands_J44 μ v29s0 post v44s2 → W p l e rm_X4_stands s m args below meth c H locs 0 0 (Qi below args s B A (fun u => wX4 k a u) (bpost post) 0 0) (F0 m 44 ls [.int (bi v44s2), .int (mo_at μ), .ref (a 0)]) := by
    intro v29s0 v44s2 H locs ls hd hl hw
    rw [wpX4_stands_J44] at hw
    refine lv_iadd hx hb dX4_stands_44 ?_
    refine g_put C hd iX4_stands_X4 tyX4 tyX4_ok nmX4 0 4 rfl rfl 9 (by decide) (List.mem_of_getElem? (i := 1) rfl) rfl rfl rfl (Nat.le_of_ble_eq_true rfl) (wX4 k a (mo_setAt μ ((mo_at μ) + (bi v44s2)))) (wX4_putAt k a _ _) dX4_stands_45 (fun H locs hd => ?_)
    refine lv_iload_n hx hb dX4_stands_48 rfl (lv_at hl 0 rfl) ?_
    exact r_z v29s0 C hd dX4_stands_49 (mo_setAt μ ((mo_at μ) + (bi v44s2))) rfl hw
  have J29 : ∀ (v29s0 : Bool) (H : Heap) (locs : List Loc) (ls : Array Slot), Wd B A s.heap (wX4 k a μ) H locs → lv_has ls 3 [(0, .ref (a 0))] → wpX4_stands_J29 μ post v29s0 → W p l e rm_X4_stands s m args below meth c H locs 0 0 (Qi below args s B A (fun u => wX4 k a u) (bpost post) 0 0) (F0 m 29 ls [.int (bi v29s0)]) := by
    intro v29s0 H locs ls hd hl hw
    rw [wpX4_stands_J29] at hw
    refine lv_istore_n (lv' := [(2, .int (bi v29s0)), (0, .ref (a 0))]) hx hb dX4_stands_29 rfl hl (by decide) rfl (fun ls hl => ?_)
    refine lv_aload_n hx hb dX4_stands_30 rfl (lv_at hl 1 rfl) ?_
    refine lv_dup hx hb dX4_stands_31 rfl ?_
    refine g_get (v := .int (mo_at μ)) C hd iX4_stands_X4 0 4 rfl rfl 9 (by decide) (List.mem_of_getElem? (i := 1) rfl) rfl dX4_stands_32 ?_
    refine lv_iload_n hx hb dX4_stands_35 rfl (lv_at hl 0 rfl) ?_
    refine lv_if_eq (tgt := 43) hx hb dX4_stands_36 (by decide) (fun c7 => ?_) (fun c7 => ?_)
    · replace hw := hw.2 ((bi_eq _).mp c7)
      refine lv_iconst (v := 0) hx hb dX4_stands_43 (by decide) ?_
      exact J44 v29s0 false _ _ _ hd (lv_sub hl [0] rfl) hw
    · replace hw := hw.1 ((bi_ne _).mp c7)
      refine lv_iconst (v := 1) hx hb dX4_stands_39 (by decide) ?_
      refine lv_goto (tgt := 44) hx hb dX4_stands_40 (by decide) ?_
      exact J44 v29s0 true _ _ _ hd (lv_sub hl [0] rfl) hw
  have J28 : ∀ (H : Heap) (locs : List Loc) (ls : Array Slot), Wd B A s.heap (wX4 k a μ) H locs → lv_has ls 3 [(0, .ref (a 0))] → wpX4_stands_J28 μ post  → W p l e rm_X4_stands s m args below meth c H locs 0 0 (Qi below args s B A (fun u => wX4 k a u) (bpost post) 0 0) (F0 m 28 ls []) := by
    intro  H locs ls hd hl hw
    rw [wpX4_stands_J28] at hw
    refine lv_iconst (v := 0) hx hb dX4_stands_28 (by decide) ?_
    exact J29 false _ _ _ hd (lv_sub hl [0] rfl) hw
  rw [wpX4_stands] at hw
  refine lv_aload_n hx hb dX4_stands_0 rfl (lv_at hl 0 rfl) ?_
  refine g_get (v := .int (mo_at μ)) C hd iX4_stands_X4 0 4 rfl rfl 9 (by decide) (List.mem_of_getElem? (i := 1) rfl) rfl dX4_stands_1 ?_
  refine lv_aload_n hx hb dX4_stands_4 rfl (lv_at hl 0 rfl) ?_
  refine g_get (v := .int (mo_length μ)) C hd iX4_stands_X4 0 4 rfl rfl 7 (by decide) (List.mem_of_getElem? (i := 2) rfl) rfl dX4_stands_5 ?_
  refine lv_icmp_ge (tgt := 28) hx hb dX4_stands_8 (by decide) (fun c8 => ?_) (fun c8 => ?_)
  · replace hw := hw.1 c8
    exact J28  _ _ _ hd (lv_sub hl [0] rfl) hw
  · replace hw := hw.2 c8
    refine lv_aload_n hx hb dX4_stands_11 rfl (lv_at hl 0 rfl) ?_
    refine g_get (v := .ref (a 6)) C hd iX4_stands_X4 0 4 rfl rfl 5 (by decide) (List.mem_of_getElem? (i := 3) rfl) rfl dX4_stands_12 ?_
    refine lv_aload_n hx hb dX4_stands_15 rfl (lv_at hl 0 rfl) ?_
    refine g_get (v := .int (mo_at μ)) C hd iX4_stands_X4 0 4 rfl rfl 9 (by decide) (List.mem_of_getElem? (i := 1) rfl) rfl dX4_stands_16 ?_
    obtain ⟨h2, hw⟩ := hw
    refine g_ild (f := mo_text μ) C hd 6 rfl h2 dX4_stands_19 ?_
    refine lv_iload_n hx hb dX4_stands_20 rfl (lv_at hl 1 rfl) ?_
    refine lv_icmp_ne (tgt := 28) hx hb dX4_stands_21 (by decide) (fun c9 => ?_) (fun c9 => ?_)
    · replace hw := hw.2 c9
      exact J28  _ _ _ hd (lv_sub hl [0] rfl) hw
    · replace hw := hw.1 c9
      refine lv_iconst (v := 1) hx hb dX4_stands_24 (by decide) ?_
      refine lv_goto (tgt := 29) hx hb dX4_stands_25 (by decide) ?_
      exact J29 true _ _ _ hd (lv_sub hl [0] rfl) hw
abbrev rm_X4_number : Room := { frames := 1, cells := 0, slots := 0, locals := 22 }
theorem M_X4_number : MI yX4_number wsX4_number cX4_number 3 (some .int) 1 := ⟨⟨_, rfl⟩, by decide +kernel, by decide +kernel, by decide +kernel, by decide +kernel⟩
theorem iX4_number_X4 : ∀ w ∈ wsX40, w ∈ wsX4_number := fun _ h => List.mem_cons_of_mem _ (List.mem_append_right _ h)
def wpX4_number_L55 (p0 : Int32) (post : Int32 → MO → Prop) : Nat → Int32 → MO → Prop
  | 0, _, _ => False
  | n + 1, v55l2, μ55 => ((v55l2 ≤ 0 → post v55l2 μ55) ∧ (¬ v55l2 ≤ 0 → (((mo_length μ55) ≤ (mo_at μ55) → post v55l2 μ55) ∧ (¬ (mo_length μ55) ≤ (mo_at μ55) → (vp_in (mo_at μ55) 60 ∧ wpX4_in ((mo_text μ55) (mo_at μ55).toNatClampNeg) 48 57 (fun b83 => ((b83 = true → ((p0 < (((10 * v55l2) + ((mo_text μ55) (mo_at μ55).toNatClampNeg)) - 48) → post v55l2 μ55) ∧ (¬ p0 < (((10 * v55l2) + ((mo_text μ55) (mo_at μ55).toNatClampNeg)) - 48) → wpX4_number_L55 p0 post n (((10 * v55l2) + ((mo_text μ55) (mo_at μ55).toNatClampNeg)) - 48) (mo_setAt μ55 ((mo_at μ55) + 1))))) ∧ (b83 = false → post v55l2 μ55))))))))
def wpX4_number (μ : MO) (p0 : Int32) (post : Int32 → MO → Prop) : Prop := (((mo_at μ) = (mo_length μ) → post (-1) μ) ∧ (¬ (mo_at μ) = (mo_length μ) → (vp_in (mo_at μ) 60 ∧ wpX4_in ((mo_text μ) (mo_at μ).toNatClampNeg) 48 57 (fun b24 => ((b24 = true → ∃ n : Nat, wpX4_number_L55 p0 post n (((mo_text μ) (mo_at μ).toNatClampNeg) - 48) (mo_setAt μ ((mo_at μ) + 1))) ∧ (b24 = false → post (-1) μ))))))
set_option maxHeartbeats 4000000 in
set_option maxRecDepth 100000 in
theorem c_X4_number (l : Launch) (B : va_G) (k : KT) (a : Nat → Nat) (μ : MO) (p0 : Int32) (post : Int32 → MO → Prop) (hw : wpX4_number μ p0 post) : Cti l yX4_number wsX4_number rm_X4_number 0 0 B k [.ref (a 0), .int p0] (wX4 k a μ) (fun u => wX4 k a u) post := by
  refine Cti.of M_X4_number (Nat.le_of_ble_eq_true rfl) ?_
  intro p e s m args below meth c A C hd ls hl
  have hx := C.1; have hb := C.2.1; have hml := C.2.2.1; have hts := C.2.2.2.2.1
  have hl : lv_has ls 3 [(0, .ref (a 0)), (1, .int p0)] := hl
  have L55 : ∀ (n : Nat), ∀ (v55l2 : Int32) (μ55 : MO) (H : Heap) (locs : List Loc) (ls : Array Slot), Wd B A s.heap (wX4 k a μ55) H locs → lv_has ls 3 [(0, .ref (a 0)), (1, .int p0), (2, .int v55l2)] → wpX4_number_L55 p0 post n v55l2 μ55 → W p l e rm_X4_number s m args below meth c H locs 0 0 (Qi below args s B A (fun u => wX4 k a u) post 0 0) (F0 m 55 ls []) := by
    intro n
    induction n with
    | zero => intro v55l2 μ55 H locs ls hd hl hw; exact absurd hw (by simp [wpX4_number_L55])
    | succ n ih =>
      intro v55l2 μ55 H locs ls hd hl hw
      rw [wpX4_number_L55] at hw
      refine lv_iload_n hx hb dX4_number_55 rfl (lv_at hl 2 rfl) ?_
      refine lv_if_le (tgt := 141) hx hb dX4_number_56 (by decide) (fun c19 => ?_) (fun c19 => ?_)
      · replace hw := hw.1 c19
        refine lv_iload_n hx hb dX4_number_141 rfl (lv_at hl 2 rfl) ?_
        exact r_i C hd dX4_number_142 μ55 rfl hw
      · replace hw := hw.2 c19
        refine lv_aload_n hx hb dX4_number_59 rfl (lv_at hl 0 rfl) ?_
        refine g_get (v := .int (mo_at μ55)) C hd iX4_number_X4 0 4 rfl rfl 9 (by decide) (List.mem_of_getElem? (i := 1) rfl) rfl dX4_number_60 ?_
        refine lv_aload_n hx hb dX4_number_63 rfl (lv_at hl 0 rfl) ?_
        refine g_get (v := .int (mo_length μ55)) C hd iX4_number_X4 0 4 rfl rfl 7 (by decide) (List.mem_of_getElem? (i := 2) rfl) rfl dX4_number_64 ?_
        refine lv_icmp_ge (tgt := 141) hx hb dX4_number_67 (by decide) (fun c20 => ?_) (fun c20 => ?_)
        · replace hw := hw.1 c20
          refine lv_iload_n hx hb dX4_number_141 rfl (lv_at hl 2 rfl) ?_
          exact r_i C hd dX4_number_142 μ55 rfl hw
        · replace hw := hw.2 c20
          refine lv_aload_n hx hb dX4_number_70 rfl (lv_at hl 0 rfl) ?_
          refine g_get (v := .ref (a 6)) C hd iX4_number_X4 0 4 rfl rfl 5 (by decide) (List.mem_of_getElem? (i := 3) rfl) rfl dX4_number_71 ?_
          refine lv_aload_n hx hb dX4_number_74 rfl (lv_at hl 0 rfl) ?_
          refine g_get (v := .int (mo_at μ55)) C hd iX4_number_X4 0 4 rfl rfl 9 (by decide) (List.mem_of_getElem? (i := 1) rfl) rfl dX4_number_75 ?_
          obtain ⟨h6, hw⟩ := hw
          refine g_ild (f := mo_text μ55) C hd 6 rfl h6 dX4_number_78 ?_
          refine lv_bipush (v := 48) hx hb dX4_number_79 (by decide) ?_
          refine lv_bipush (v := 57) hx hb dX4_number_81 (by decide) ?_
          refine s_i C hd hl M_X4_in gX4_number_X4_in rfl (c_X4_in l B k ((mo_text μ55) (mo_at μ55).toNatClampNeg) 48 57 _ hw) ⟨rfl, rfl⟩ ⟨Nat.le_of_ble_eq_true rfl, Nat.le_of_ble_eq_true rfl⟩ (pm_non _) (fun _ => wX4 k a μ55) (fun _ => List.Perm.refl _) rfl rfl (Nat.le_of_ble_eq_true rfl) dX4_number_83 ⟨Nat.le_of_ble_eq_true rfl, Nat.le_of_ble_eq_true rfl⟩ (fun r _ H locs hp hd => ?_)
          obtain ⟨b83, rfl, hw⟩ := hp
          refine lv_if_eq (tgt := 141) hx hb dX4_number_86 (by decide) (fun c22 => ?_) (fun c22 => ?_)
          · replace hw := hw.2 ((bi_eq _).mp c22)
            refine lv_iload_n hx hb dX4_number_141 rfl (lv_at hl 2 rfl) ?_
            exact r_i C hd dX4_number_142 μ55 rfl hw
          · replace hw := hw.1 ((bi_ne _).mp c22)
            refine lv_bipush (v := 10) hx hb dX4_number_89 (by decide) ?_
            refine lv_iload_n hx hb dX4_number_91 rfl (lv_at hl 2 rfl) ?_
            refine lv_imul hx hb dX4_number_92 ?_
            refine lv_aload_n hx hb dX4_number_93 rfl (lv_at hl 0 rfl) ?_
            refine g_get (v := .ref (a 6)) C hd iX4_number_X4 0 4 rfl rfl 5 (by decide) (List.mem_of_getElem? (i := 3) rfl) rfl dX4_number_94 ?_
            refine lv_aload_n hx hb dX4_number_97 rfl (lv_at hl 0 rfl) ?_
            refine g_get (v := .int (mo_at μ55)) C hd iX4_number_X4 0 4 rfl rfl 9 (by decide) (List.mem_of_getElem? (i := 1) rfl) rfl dX4_number_98 ?_
            refine g_ild (f := mo_text μ55) C hd 6 rfl h6 dX4_number_101 ?_
            refine lv_iadd hx hb dX4_number_102 ?_
            refine lv_bipush (v := 48) hx hb dX4_number_103 (by decide) ?_
            refine lv_isub hx hb dX4_number_105 ?_
            refine lv_iload_n hx hb dX4_number_106 rfl (lv_at hl 1 rfl) ?_
            refine lv_icmp_gt (tgt := 141) hx hb dX4_number_107 (by decide) (fun c21 => ?_) (fun c21 => ?_)
            · replace hw := hw.1 c21
              refine lv_iload_n hx hb dX4_number_141 rfl (lv_at hl 2 rfl) ?_
              exact r_i C hd dX4_number_142 μ55 rfl hw
            · replace hw := hw.2 c21
              refine lv_bipush (v := 10) hx hb dX4_number_110 (by decide) ?_
              refine lv_iload_n hx hb dX4_number_112 rfl (lv_at hl 2 rfl) ?_
              refine lv_imul hx hb dX4_number_113 ?_
              refine lv_aload_n hx hb dX4_number_114 rfl (lv_at hl 0 rfl) ?_
              refine g_get (v := .ref (a 6)) C hd iX4_number_X4 0 4 rfl rfl 5 (by decide) (List.mem_of_getElem? (i := 3) rfl) rfl dX4_number_115 ?_
              refine lv_aload_n hx hb dX4_number_118 rfl (lv_at hl 0 rfl) ?_
              refine g_get (v := .int (mo_at μ55)) C hd iX4_number_X4 0 4 rfl rfl 9 (by decide) (List.mem_of_getElem? (i := 1) rfl) rfl dX4_number_119 ?_
              refine g_ild (f := mo_text μ55) C hd 6 rfl h6 dX4_number_122 ?_
              refine lv_iadd hx hb dX4_number_123 ?_
              refine lv_bipush (v := 48) hx hb dX4_number_124 (by decide) ?_
              refine lv_isub hx hb dX4_number_126 ?_
              refine lv_istore_n (lv' := [(2, .int (((10 * v55l2) + ((mo_text μ55) (mo_at μ55).toNatClampNeg)) - 48)), (0, .ref (a 0)), (1, .int p0)]) hx hb dX4_number_127 rfl hl (by decide) rfl (fun ls hl => ?_)
              refine lv_aload_n hx hb dX4_number_128 rfl (lv_at hl 1 rfl) ?_
              refine lv_dup hx hb dX4_number_129 rfl ?_
              refine g_get (v := .int (mo_at μ55)) C hd iX4_number_X4 0 4 rfl rfl 9 (by decide) (List.mem_of_getElem? (i := 1) rfl) rfl dX4_number_130 ?_
              refine lv_iconst (v := 1) hx hb dX4_number_133 (by decide) ?_
              refine lv_iadd hx hb dX4_number_134 ?_
              refine g_put C hd iX4_number_X4 tyX4 tyX4_ok nmX4 0 4 rfl rfl 9 (by decide) (List.mem_of_getElem? (i := 1) rfl) rfl rfl rfl (Nat.le_of_ble_eq_true rfl) (wX4 k a (mo_setAt μ55 ((mo_at μ55) + 1))) (wX4_putAt k a _ _) dX4_number_135 (fun H locs hd => ?_)
              refine lv_goto (tgt := 55) hx hb dX4_number_138 (by decide) ?_
              exact ih (((10 * v55l2) + ((mo_text μ55) (mo_at μ55).toNatClampNeg)) - 48) (mo_setAt μ55 ((mo_at μ55) + 1)) _ _ _ hd (lv_sub hl [1, 2, 0] rfl) hw
  rw [wpX4_number] at hw
  refine lv_aload_n hx hb dX4_number_0 rfl (lv_at hl 0 rfl) ?_
  refine g_get (v := .int (mo_at μ)) C hd iX4_number_X4 0 4 rfl rfl 9 (by decide) (List.mem_of_getElem? (i := 1) rfl) rfl dX4_number_1 ?_
  refine lv_aload_n hx hb dX4_number_4 rfl (lv_at hl 0 rfl) ?_
  refine g_get (v := .int (mo_length μ)) C hd iX4_number_X4 0 4 rfl rfl 7 (by decide) (List.mem_of_getElem? (i := 2) rfl) rfl dX4_number_5 ?_
  refine lv_icmp_eq (tgt := 30) hx hb dX4_number_8 (by decide) (fun c23 => ?_) (fun c23 => ?_)
  · replace hw := hw.1 c23
    refine lv_iconst (v := (-1)) hx hb dX4_number_30 (by decide) ?_
    exact r_i C hd dX4_number_31 μ rfl hw
  · replace hw := hw.2 c23
    refine lv_aload_n hx hb dX4_number_11 rfl (lv_at hl 0 rfl) ?_
    refine g_get (v := .ref (a 6)) C hd iX4_number_X4 0 4 rfl rfl 5 (by decide) (List.mem_of_getElem? (i := 3) rfl) rfl dX4_number_12 ?_
    refine lv_aload_n hx hb dX4_number_15 rfl (lv_at hl 0 rfl) ?_
    refine g_get (v := .int (mo_at μ)) C hd iX4_number_X4 0 4 rfl rfl 9 (by decide) (List.mem_of_getElem? (i := 1) rfl) rfl dX4_number_16 ?_
    obtain ⟨h7, hw⟩ := hw
    refine g_ild (f := mo_text μ) C hd 6 rfl h7 dX4_number_19 ?_
    refine lv_bipush (v := 48) hx hb dX4_number_20 (by decide) ?_
    refine lv_bipush (v := 57) hx hb dX4_number_22 (by decide) ?_
    refine s_i C hd hl M_X4_in gX4_number_X4_in rfl (c_X4_in l B k ((mo_text μ) (mo_at μ).toNatClampNeg) 48 57 _ hw) ⟨rfl, rfl⟩ ⟨Nat.le_of_ble_eq_true rfl, Nat.le_of_ble_eq_true rfl⟩ (pm_non _) (fun _ => wX4 k a μ) (fun _ => List.Perm.refl _) rfl rfl (Nat.le_of_ble_eq_true rfl) dX4_number_24 ⟨Nat.le_of_ble_eq_true rfl, Nat.le_of_ble_eq_true rfl⟩ (fun r _ H locs hp hd => ?_)
    obtain ⟨b24, rfl, hw⟩ := hp
    refine lv_if_ne (tgt := 32) hx hb dX4_number_27 (by decide) (fun c24 => ?_) (fun c24 => ?_)
    · replace hw := hw.1 ((bi_ne _).mp c24)
      refine lv_aload_n hx hb dX4_number_32 rfl (lv_at hl 0 rfl) ?_
      refine g_get (v := .ref (a 6)) C hd iX4_number_X4 0 4 rfl rfl 5 (by decide) (List.mem_of_getElem? (i := 3) rfl) rfl dX4_number_33 ?_
      refine lv_aload_n hx hb dX4_number_36 rfl (lv_at hl 0 rfl) ?_
      refine g_get (v := .int (mo_at μ)) C hd iX4_number_X4 0 4 rfl rfl 9 (by decide) (List.mem_of_getElem? (i := 1) rfl) rfl dX4_number_37 ?_
      refine g_ild (f := mo_text μ) C hd 6 rfl h7 dX4_number_40 ?_
      refine lv_bipush (v := 48) hx hb dX4_number_41 (by decide) ?_
      refine lv_isub hx hb dX4_number_43 ?_
      refine lv_istore_n (lv' := [(2, .int (((mo_text μ) (mo_at μ).toNatClampNeg) - 48)), (0, .ref (a 0)), (1, .int p0)]) hx hb dX4_number_44 rfl hl (by decide) rfl (fun ls hl => ?_)
      refine lv_aload_n hx hb dX4_number_45 rfl (lv_at hl 1 rfl) ?_
      refine lv_dup hx hb dX4_number_46 rfl ?_
      refine g_get (v := .int (mo_at μ)) C hd iX4_number_X4 0 4 rfl rfl 9 (by decide) (List.mem_of_getElem? (i := 1) rfl) rfl dX4_number_47 ?_
      refine lv_iconst (v := 1) hx hb dX4_number_50 (by decide) ?_
      refine lv_iadd hx hb dX4_number_51 ?_
      refine g_put C hd iX4_number_X4 tyX4 tyX4_ok nmX4 0 4 rfl rfl 9 (by decide) (List.mem_of_getElem? (i := 1) rfl) rfl rfl rfl (Nat.le_of_ble_eq_true rfl) (wX4 k a (mo_setAt μ ((mo_at μ) + 1))) (wX4_putAt k a _ _) dX4_number_52 (fun H locs hd => ?_)
      obtain ⟨n, hw⟩ := hw
      exact L55 n (((mo_text μ) (mo_at μ).toNatClampNeg) - 48) (mo_setAt μ ((mo_at μ) + 1)) _ _ _ hd (lv_sub hl [1, 2, 0] rfl) hw
    · replace hw := hw.2 ((bi_eq _).mp c24)
      refine lv_iconst (v := (-1)) hx hb dX4_number_30 (by decide) ?_
      exact r_i C hd dX4_number_31 μ rfl hw
abbrev rm_X4_command : Room := { frames := 8, cells := 0, slots := 0, locals := 179 }
theorem M_X4_command : MI yX4_command wsX4_command cX4_command 5 (some .int) 1 := ⟨⟨_, rfl⟩, by decide +kernel, by decide +kernel, by decide +kernel, by decide +kernel⟩
theorem iX4_command_X4 : ∀ w ∈ wsX40, w ∈ wsX4_command := fun _ h => List.mem_cons_of_mem _ (List.mem_append_right _ h)
def wpX4_command_J67 (p0 : Int32) (b3 : Bool) (r27 : Int32) (post : Int32 → MO → Prop) (v67s0 : Int32) (μ67 : MO) : Prop := ((0 ≤ v67s0 → ((p0 = 0 → post 0 μ67) ∧ (¬ p0 = 0 → ((b3 = true → wpX4_reads μ67 r27 (fun r92 μ92 => post r92 μ92)) ∧ (b3 = false → wpX4_writes μ67 r27 v67s0 (fun r102 μ102 => post r102 μ102)))))) ∧ (¬ 0 ≤ v67s0 → post (-1000) μ67))
def wpX4_command_J52 (p0 : Int32) (b3 : Bool) (r27 : Int32) (post : Int32 → MO → Prop) (μ52 : MO) : Prop := ((b3 = true → wpX4_command_J67 p0 b3 r27 post 0 μ52) ∧ (b3 = false → wpX4_number μ52 999 (fun r64 μ64 => wpX4_command_J67 p0 b3 r27 post r64 μ64)))
def wpX4_command_J24 (p0 : Int32) (b3 : Bool) (post : Int32 → MO → Prop) (μ24 : MO) : Prop := wpX4_number μ24 63 (fun r27 μ27 => ((r27 < 0 → post (-1000) μ27) ∧ (¬ r27 < 0 → ((b3 = true → wpX4_command_J52 p0 b3 r27 post μ27) ∧ (b3 = false → wpX4_stands μ27 61 (fun b42 μ42 => ((b42 = true → wpX4_command_J52 p0 b3 r27 post μ42) ∧ (b42 = false → post (-1000) μ42))))))))
def wpX4_command (μ : MO) (p0 : Int32) (post : Int32 → MO → Prop) : Prop := wpX4_stands μ 114 (fun b3 μ3 => ((b3 = true → wpX4_command_J24 p0 b3 post μ3) ∧ (b3 = false → wpX4_stands μ3 119 (fun b14 μ14 => ((b14 = true → wpX4_command_J24 p0 b3 post μ14) ∧ (b14 = false → post (-1000) μ14))))))
set_option maxHeartbeats 4000000 in
set_option maxRecDepth 100000 in
theorem c_X4_command (l : Launch) (B : va_G) (k : KT) (a : Nat → Nat) (μ : MO) (p0 : Int32) (post : Int32 → MO → Prop) (hw : wpX4_command μ p0 post) : Cti l yX4_command wsX4_command rm_X4_command 0 0 B k [.ref (a 0), .int p0] (wX4 k a μ) (fun u => wX4 k a u) post := by
  refine Cti.of M_X4_command (Nat.le_of_ble_eq_true rfl) ?_
  intro p e s m args below meth c A C hd ls hl
  have hx := C.1; have hb := C.2.1; have hml := C.2.2.1; have hts := C.2.2.2.2.1
  have hl : lv_has ls 5 [(0, .ref (a 0)), (1, .int p0)] := hl
  have J67 : ∀ (b3 : Bool) (r27 : Int32) (v67s0 : Int32) (μ67 : MO) (H : Heap) (locs : List Loc) (ls : Array Slot), Wd B A s.heap (wX4 k a μ67) H locs → lv_has ls 5 [(0, .ref (a 0)), (1, .int p0), (2, .int (bi b3)), (3, .int r27)] → wpX4_command_J67 p0 b3 r27 post v67s0 μ67 → W p l e rm_X4_command s m args below meth c H locs 0 0 (Qi below args s B A (fun u => wX4 k a u) post 0 0) (F0 m 67 ls [.int v67s0]) := by
    intro b3 r27 v67s0 μ67 H locs ls hd hl hw
    rw [wpX4_command_J67] at hw
    refine lv_istore (lv' := [(4, .int v67s0), (0, .ref (a 0)), (1, .int p0), (2, .int (bi b3)), (3, .int r27)]) hx hb dX4_command_67 hl (by decide) rfl (fun ls hl => ?_)
    refine lv_iload hx hb dX4_command_69 (lv_at hl 0 rfl) ?_
    refine lv_if_ge (tgt := 78) hx hb dX4_command_71 (by decide) (fun c31 => ?_) (fun c31 => ?_)
    · replace hw := hw.1 c31
      refine lv_iload_n hx hb dX4_command_78 rfl (lv_at hl 2 rfl) ?_
      refine lv_if_ne (tgt := 86) hx hb dX4_command_79 (by decide) (fun c32 => ?_) (fun c32 => ?_)
      · replace hw := hw.2 c32
        refine lv_iload_n hx hb dX4_command_86 rfl (lv_at hl 3 rfl) ?_
        refine lv_if_eq (tgt := 98) hx hb dX4_command_87 (by decide) (fun c33 => ?_) (fun c33 => ?_)
        · replace hw := hw.2 ((bi_eq _).mp c33)
          refine lv_aload_n hx hb dX4_command_98 rfl (lv_at hl 1 rfl) ?_
          refine lv_iload_n hx hb dX4_command_99 rfl (lv_at hl 4 rfl) ?_
          refine lv_iload hx hb dX4_command_100 (lv_at hl 0 rfl) ?_
          refine v_i C hd hl M_X4_writes gX4_command_X4_writes (c_X4_writes l B k a μ67 r27 v67s0 _ hw) ⟨rfl, rfl⟩ ⟨Nat.le_of_ble_eq_true rfl, Nat.le_of_ble_eq_true rfl⟩ (pm_all _) (fun u => wX4 k a u) (fun _ => (pm_all _).symm) 0 4 rfl rfl rfl rfl rfl (Nat.le_of_ble_eq_true rfl) dX4_command_102 ⟨Nat.le_of_ble_eq_true rfl, Nat.le_of_ble_eq_true rfl⟩ (fun r102 μ102 H locs hw hd => ?_)
          exact r_i C hd dX4_command_105 μ102 rfl hw
        · replace hw := hw.1 ((bi_ne _).mp c33)
          refine lv_aload_n hx hb dX4_command_90 rfl (lv_at hl 1 rfl) ?_
          refine lv_iload_n hx hb dX4_command_91 rfl (lv_at hl 4 rfl) ?_
          refine v_i C hd hl M_X4_reads gX4_command_X4_reads (c_X4_reads l B k a μ67 r27 _ hw) ⟨rfl, rfl⟩ ⟨Nat.le_of_ble_eq_true rfl, Nat.le_of_ble_eq_true rfl⟩ (pm_all _) (fun u => wX4 k a u) (fun _ => (pm_all _).symm) 0 4 rfl rfl rfl rfl rfl (Nat.le_of_ble_eq_true rfl) dX4_command_92 ⟨Nat.le_of_ble_eq_true rfl, Nat.le_of_ble_eq_true rfl⟩ (fun r92 μ92 H locs hw hd => ?_)
          refine lv_goto (tgt := 105) hx hb dX4_command_95 (by decide) ?_
          exact r_i C hd dX4_command_105 μ92 rfl hw
      · replace hw := hw.1 c32
        refine lv_iconst (v := 0) hx hb dX4_command_82 (by decide) ?_
        refine lv_goto (tgt := 105) hx hb dX4_command_83 (by decide) ?_
        exact r_i C hd dX4_command_105 μ67 rfl hw
    · replace hw := hw.2 c31
      refine lv_sipush (v := (-1000)) hx hb dX4_command_74 (by decide) ?_
      exact r_i C hd dX4_command_77 μ67 rfl hw
  have J52 : ∀ (b3 : Bool) (r27 : Int32) (μ52 : MO) (H : Heap) (locs : List Loc) (ls : Array Slot), Wd B A s.heap (wX4 k a μ52) H locs → lv_has ls 5 [(0, .ref (a 0)), (1, .int p0), (2, .int (bi b3)), (3, .int r27)] → wpX4_command_J52 p0 b3 r27 post μ52 → W p l e rm_X4_command s m args below meth c H locs 0 0 (Qi below args s B A (fun u => wX4 k a u) post 0 0) (F0 m 52 ls []) := by
    intro b3 r27 μ52 H locs ls hd hl hw
    rw [wpX4_command_J52] at hw
    refine lv_iload_n hx hb dX4_command_52 rfl (lv_at hl 2 rfl) ?_
    refine lv_if_eq (tgt := 60) hx hb dX4_command_53 (by decide) (fun c34 => ?_) (fun c34 => ?_)
    · replace hw := hw.2 ((bi_eq _).mp c34)
      refine lv_aload_n hx hb dX4_command_60 rfl (lv_at hl 0 rfl) ?_
      refine lv_sipush (v := 999) hx hb dX4_command_61 (by decide) ?_
      refine v_i C hd hl M_X4_number gX4_command_X4_number (c_X4_number l B k a μ52 999 _ hw) ⟨rfl, rfl⟩ ⟨Nat.le_of_ble_eq_true rfl, Nat.le_of_ble_eq_true rfl⟩ (pm_all _) (fun u => wX4 k a u) (fun _ => (pm_all _).symm) 0 4 rfl rfl rfl rfl rfl (Nat.le_of_ble_eq_true rfl) dX4_command_64 ⟨Nat.le_of_ble_eq_true rfl, Nat.le_of_ble_eq_true rfl⟩ (fun r64 μ64 H locs hw hd => ?_)
      exact J67 b3 r27 r64 μ64 _ _ _ hd (lv_sub hl [0, 1, 2, 3] rfl) hw
    · replace hw := hw.1 ((bi_ne _).mp c34)
      refine lv_iconst (v := 0) hx hb dX4_command_56 (by decide) ?_
      refine lv_goto (tgt := 67) hx hb dX4_command_57 (by decide) ?_
      exact J67 b3 r27 0 μ52 _ _ _ hd (lv_sub hl [0, 1, 2, 3] rfl) hw
  have J24 : ∀ (b3 : Bool) (μ24 : MO) (H : Heap) (locs : List Loc) (ls : Array Slot), Wd B A s.heap (wX4 k a μ24) H locs → lv_has ls 5 [(0, .ref (a 0)), (1, .int p0), (2, .int (bi b3))] → wpX4_command_J24 p0 b3 post μ24 → W p l e rm_X4_command s m args below meth c H locs 0 0 (Qi below args s B A (fun u => wX4 k a u) post 0 0) (F0 m 24 ls []) := by
    intro b3 μ24 H locs ls hd hl hw
    rw [wpX4_command_J24] at hw
    refine lv_aload_n hx hb dX4_command_24 rfl (lv_at hl 0 rfl) ?_
    refine lv_bipush (v := 63) hx hb dX4_command_25 (by decide) ?_
    refine v_i C hd hl M_X4_number gX4_command_X4_number (c_X4_number l B k a μ24 63 _ hw) ⟨rfl, rfl⟩ ⟨Nat.le_of_ble_eq_true rfl, Nat.le_of_ble_eq_true rfl⟩ (pm_all _) (fun u => wX4 k a u) (fun _ => (pm_all _).symm) 0 4 rfl rfl rfl rfl rfl (Nat.le_of_ble_eq_true rfl) dX4_command_27 ⟨Nat.le_of_ble_eq_true rfl, Nat.le_of_ble_eq_true rfl⟩ (fun r27 μ27 H locs hw hd => ?_)
    refine lv_istore_n (lv' := [(3, .int r27), (0, .ref (a 0)), (1, .int p0), (2, .int (bi b3))]) hx hb dX4_command_30 rfl hl (by decide) rfl (fun ls hl => ?_)
    refine lv_iload_n hx hb dX4_command_31 rfl (lv_at hl 0 rfl) ?_
    refine lv_if_lt (tgt := 48) hx hb dX4_command_32 (by decide) (fun c35 => ?_) (fun c35 => ?_)
    · replace hw := hw.1 c35
      refine lv_sipush (v := (-1000)) hx hb dX4_command_48 (by decide) ?_
      exact r_i C hd dX4_command_51 μ27 rfl hw
    · replace hw := hw.2 c35
      refine lv_iload_n hx hb dX4_command_35 rfl (lv_at hl 3 rfl) ?_
      refine lv_if_ne (tgt := 52) hx hb dX4_command_36 (by decide) (fun c37 => ?_) (fun c37 => ?_)
      · replace hw := hw.1 ((bi_ne _).mp c37)
        exact J52 b3 r27 μ27 _ _ _ hd (lv_sub hl [1, 2, 3, 0] rfl) hw
      · replace hw := hw.2 ((bi_eq _).mp c37)
        refine lv_aload_n hx hb dX4_command_39 rfl (lv_at hl 1 rfl) ?_
        refine lv_bipush (v := 61) hx hb dX4_command_40 (by decide) ?_
        refine v_i C hd hl M_X4_stands gX4_command_X4_stands (c_X4_stands l B k a μ27 61 _ hw) ⟨rfl, rfl⟩ ⟨Nat.le_of_ble_eq_true rfl, Nat.le_of_ble_eq_true rfl⟩ (pm_all _) (fun u => wX4 k a u) (fun _ => (pm_all _).symm) 0 4 rfl rfl rfl rfl rfl (Nat.le_of_ble_eq_true rfl) dX4_command_42 ⟨Nat.le_of_ble_eq_true rfl, Nat.le_of_ble_eq_true rfl⟩ (fun r μ42 H locs hp hd => ?_)
        obtain ⟨b42, rfl, hw⟩ := hp
        refine lv_if_ne (tgt := 52) hx hb dX4_command_45 (by decide) (fun c36 => ?_) (fun c36 => ?_)
        · replace hw := hw.1 ((bi_ne _).mp c36)
          exact J52 b3 r27 μ42 _ _ _ hd (lv_sub hl [1, 2, 3, 0] rfl) hw
        · replace hw := hw.2 ((bi_eq _).mp c36)
          refine lv_sipush (v := (-1000)) hx hb dX4_command_48 (by decide) ?_
          exact r_i C hd dX4_command_51 μ42 rfl hw
  rw [wpX4_command] at hw
  refine lv_aload_n hx hb dX4_command_0 rfl (lv_at hl 0 rfl) ?_
  refine lv_bipush (v := 114) hx hb dX4_command_1 (by decide) ?_
  refine v_i C hd hl M_X4_stands gX4_command_X4_stands (c_X4_stands l B k a μ 114 _ hw) ⟨rfl, rfl⟩ ⟨Nat.le_of_ble_eq_true rfl, Nat.le_of_ble_eq_true rfl⟩ (pm_all _) (fun u => wX4 k a u) (fun _ => (pm_all _).symm) 0 4 rfl rfl rfl rfl rfl (Nat.le_of_ble_eq_true rfl) dX4_command_3 ⟨Nat.le_of_ble_eq_true rfl, Nat.le_of_ble_eq_true rfl⟩ (fun r μ3 H locs hp hd => ?_)
  obtain ⟨b3, rfl, hw⟩ := hp
  refine lv_istore_n (lv' := [(2, .int (bi b3)), (0, .ref (a 0)), (1, .int p0)]) hx hb dX4_command_6 rfl hl (by decide) rfl (fun ls hl => ?_)
  refine lv_iload_n hx hb dX4_command_7 rfl (lv_at hl 0 rfl) ?_
  refine lv_if_ne (tgt := 24) hx hb dX4_command_8 (by decide) (fun c39 => ?_) (fun c39 => ?_)
  · replace hw := hw.1 ((bi_ne _).mp c39)
    exact J24 b3 μ3 _ _ _ hd (lv_sub hl [1, 2, 0] rfl) hw
  · replace hw := hw.2 ((bi_eq _).mp c39)
    refine lv_aload_n hx hb dX4_command_11 rfl (lv_at hl 1 rfl) ?_
    refine lv_bipush (v := 119) hx hb dX4_command_12 (by decide) ?_
    refine v_i C hd hl M_X4_stands gX4_command_X4_stands (c_X4_stands l B k a μ3 119 _ hw) ⟨rfl, rfl⟩ ⟨Nat.le_of_ble_eq_true rfl, Nat.le_of_ble_eq_true rfl⟩ (pm_all _) (fun u => wX4 k a u) (fun _ => (pm_all _).symm) 0 4 rfl rfl rfl rfl rfl (Nat.le_of_ble_eq_true rfl) dX4_command_14 ⟨Nat.le_of_ble_eq_true rfl, Nat.le_of_ble_eq_true rfl⟩ (fun r μ14 H locs hp hd => ?_)
    obtain ⟨b14, rfl, hw⟩ := hp
    refine lv_if_ne (tgt := 24) hx hb dX4_command_17 (by decide) (fun c38 => ?_) (fun c38 => ?_)
    · replace hw := hw.1 ((bi_ne _).mp c38)
      exact J24 b3 μ14 _ _ _ hd (lv_sub hl [1, 2, 0] rfl) hw
    · replace hw := hw.2 ((bi_eq _).mp c38)
      refine lv_sipush (v := (-1000)) hx hb dX4_command_20 (by decide) ?_
      exact r_i C hd dX4_command_23 μ14 rfl hw
abbrev rm_X4_commands : Room := { frames := 9, cells := 0, slots := 0, locals := 203 }
theorem M_X4_commands : MI yX4_commands wsX4_commands cX4_commands 2 (some .int) 0 := ⟨⟨_, rfl⟩, by decide +kernel, by decide +kernel, by decide +kernel, by decide +kernel⟩
theorem iX4_commands_X4 : ∀ w ∈ wsX40, w ∈ wsX4_commands := fun _ h => List.mem_cons_of_mem _ (List.mem_append_right _ h)
def wpX4_commands_L7  (post : Int32 → MO → Prop) : Nat → Int32 → MO → Prop
  | 0, _, _ => False
  | n + 1, v7l1, μ7 => wpX4_command μ7 0 (fun r9 μ9 => ((r9 < 0 → post 0 μ9) ∧ (¬ r9 < 0 → (((mo_at μ9) = (mo_length μ9) → post (v7l1 + 1) μ9) ∧ (¬ (mo_at μ9) = (mo_length μ9) → wpX4_stands μ9 59 (fun b34 μ34 => ((b34 = true → wpX4_commands_L7 post n (v7l1 + 1) μ34) ∧ (b34 = false → post 0 μ34))))))))
def wpX4_commands (μ : MO) (post : Int32 → MO → Prop) : Prop := ∃ n : Nat, wpX4_commands_L7 post n 0 (mo_setAt μ 0)
set_option maxHeartbeats 4000000 in
set_option maxRecDepth 100000 in
theorem c_X4_commands (l : Launch) (B : va_G) (k : KT) (a : Nat → Nat) (μ : MO) (post : Int32 → MO → Prop) (hw : wpX4_commands μ post) : Cti l yX4_commands wsX4_commands rm_X4_commands 0 0 B k [.ref (a 0)] (wX4 k a μ) (fun u => wX4 k a u) post := by
  refine Cti.of M_X4_commands (Nat.le_of_ble_eq_true rfl) ?_
  intro p e s m args below meth c A C hd ls hl
  have hx := C.1; have hb := C.2.1; have hml := C.2.2.1; have hts := C.2.2.2.2.1
  have hl : lv_has ls 2 [(0, .ref (a 0))] := hl
  have L7 : ∀ (n : Nat), ∀ (v7l1 : Int32) (μ7 : MO) (H : Heap) (locs : List Loc) (ls : Array Slot), Wd B A s.heap (wX4 k a μ7) H locs → lv_has ls 2 [(0, .ref (a 0)), (1, .int v7l1)] → wpX4_commands_L7  post n v7l1 μ7 → W p l e rm_X4_commands s m args below meth c H locs 0 0 (Qi below args s B A (fun u => wX4 k a u) post 0 0) (F0 m 7 ls []) := by
    intro n
    induction n with
    | zero => intro v7l1 μ7 H locs ls hd hl hw; exact absurd hw (by simp [wpX4_commands_L7])
    | succ n ih =>
      intro v7l1 μ7 H locs ls hd hl hw
      rw [wpX4_commands_L7] at hw
      refine lv_aload_n hx hb dX4_commands_7 rfl (lv_at hl 0 rfl) ?_
      refine lv_iconst (v := 0) hx hb dX4_commands_8 (by decide) ?_
      refine v_i C hd hl M_X4_command gX4_commands_X4_command (c_X4_command l B k a μ7 0 _ hw) ⟨rfl, rfl⟩ ⟨Nat.le_of_ble_eq_true rfl, Nat.le_of_ble_eq_true rfl⟩ (pm_all _) (fun u => wX4 k a u) (fun _ => (pm_all _).symm) 0 4 rfl rfl rfl rfl rfl (Nat.le_of_ble_eq_true rfl) dX4_commands_9 ⟨Nat.le_of_ble_eq_true rfl, Nat.le_of_ble_eq_true rfl⟩ (fun r9 μ9 H locs hw hd => ?_)
      refine lv_if_lt (tgt := 42) hx hb dX4_commands_12 (by decide) (fun c13 => ?_) (fun c13 => ?_)
      · replace hw := hw.1 c13
        refine lv_iconst (v := 0) hx hb dX4_commands_42 (by decide) ?_
        exact r_i C hd dX4_commands_43 μ9 rfl hw
      · replace hw := hw.2 c13
        refine lv_iinc (v := v7l1 + 1) (lv' := [(1, .int (v7l1 + 1)), (0, .ref (a 0))]) hx hb dX4_commands_15 hl (k := 1) rfl rfl (by decide) rfl (fun ls hl => ?_)
        refine lv_aload_n hx hb dX4_commands_18 rfl (lv_at hl 1 rfl) ?_
        refine g_get (v := .int (mo_at μ9)) C hd iX4_commands_X4 0 4 rfl rfl 9 (by decide) (List.mem_of_getElem? (i := 1) rfl) rfl dX4_commands_19 ?_
        refine lv_aload_n hx hb dX4_commands_22 rfl (lv_at hl 1 rfl) ?_
        refine g_get (v := .int (mo_length μ9)) C hd iX4_commands_X4 0 4 rfl rfl 7 (by decide) (List.mem_of_getElem? (i := 2) rfl) rfl dX4_commands_23 ?_
        refine lv_icmp_ne (tgt := 31) hx hb dX4_commands_26 (by decide) (fun c14 => ?_) (fun c14 => ?_)
        · replace hw := hw.2 c14
          refine lv_aload_n hx hb dX4_commands_31 rfl (lv_at hl 1 rfl) ?_
          refine lv_bipush (v := 59) hx hb dX4_commands_32 (by decide) ?_
          refine v_i C hd hl M_X4_stands gX4_commands_X4_stands (c_X4_stands l B k a μ9 59 _ hw) ⟨rfl, rfl⟩ ⟨Nat.le_of_ble_eq_true rfl, Nat.le_of_ble_eq_true rfl⟩ (pm_all _) (fun u => wX4 k a u) (fun _ => (pm_all _).symm) 0 4 rfl rfl rfl rfl rfl (Nat.le_of_ble_eq_true rfl) dX4_commands_34 ⟨Nat.le_of_ble_eq_true rfl, Nat.le_of_ble_eq_true rfl⟩ (fun r μ34 H locs hp hd => ?_)
          obtain ⟨b34, rfl, hw⟩ := hp
          refine lv_if_ne (tgt := 7) hx hb dX4_commands_37 (by decide) (fun c15 => ?_) (fun c15 => ?_)
          · replace hw := hw.1 ((bi_ne _).mp c15)
            exact ih (v7l1 + 1) μ34 _ _ _ hd (lv_sub hl [1, 0] rfl) hw
          · replace hw := hw.2 ((bi_eq _).mp c15)
            refine lv_iconst (v := 0) hx hb dX4_commands_40 (by decide) ?_
            exact r_i C hd dX4_commands_41 μ34 rfl hw
        · replace hw := hw.1 c14
          refine lv_iload_n hx hb dX4_commands_29 rfl (lv_at hl 0 rfl) ?_
          exact r_i C hd dX4_commands_30 μ9 rfl hw
  rw [wpX4_commands] at hw
  refine lv_aload_n hx hb dX4_commands_0 rfl (lv_at hl 0 rfl) ?_
  refine lv_iconst (v := 0) hx hb dX4_commands_1 (by decide) ?_
  refine g_put C hd iX4_commands_X4 tyX4 tyX4_ok nmX4 0 4 rfl rfl 9 (by decide) (List.mem_of_getElem? (i := 1) rfl) rfl rfl rfl (Nat.le_of_ble_eq_true rfl) (wX4 k a (mo_setAt μ 0)) (wX4_putAt k a _ _) dX4_commands_2 (fun H locs hd => ?_)
  refine lv_iconst (v := 0) hx hb dX4_commands_5 (by decide) ?_
  refine lv_istore_n (lv' := [(1, .int 0), (0, .ref (a 0))]) hx hb dX4_commands_6 rfl hl (by decide) rfl (fun ls hl => ?_)
  obtain ⟨n, hw⟩ := hw
  exact L7 n 0 (mo_setAt μ 0) _ _ _ hd (lv_sub hl [1, 0] rfl) hw
abbrev rm_X4_perform : Room := { frames := 10, cells := 0, slots := 0, locals := 224 }
theorem M_X4_perform : MI yX4_perform wsX4_perform cX4_perform 4 (some .int) 0 := ⟨⟨_, rfl⟩, by decide +kernel, by decide +kernel, by decide +kernel, by decide +kernel⟩
theorem iX4_perform_X4 : ∀ w ∈ wsX40, w ∈ wsX4_perform := fun _ h => List.mem_cons_of_mem _ (List.mem_append_right _ h)
def wpX4_perform_L35 (r1 : Int32) (post : Int32 → MO → Prop) : Nat → Int32 → MO → Prop
  | 0, _, _ => False
  | n + 1, v35l2, μ35 => ((r1 ≤ v35l2 → wpX4_record (mo_spare μ35) (mo_history μ35, mo_kept μ35) (fun η84 => post r1 (mo_setKept (mo_setHistory μ35 (rk_history η84)) (rk_kept η84)))) ∧ (¬ r1 ≤ v35l2 → wpX4_command μ35 1 (fun r42 μ42 => ((0 ≤ r42 → wpX4_perform_L35 r1 post n (v35l2 + 1) (mo_setAt μ42 ((mo_at μ42) + 1))) ∧ (¬ 0 ≤ r42 → wpX4_copies (mo_spare μ42) (mo_now μ42) (fun g58 => post r42 (mo_setNow μ42 g58)))))))
def wpX4_perform (μ : MO) (post : Int32 → MO → Prop) : Prop := wpX4_commands μ (fun r1 μ1 => ((r1 = 0 → post ((-100) - (mo_at μ1)) μ1) ∧ (¬ r1 = 0 → wpX4_copies (mo_now μ1) (mo_spare μ1) (fun g25 => ∃ n : Nat, wpX4_perform_L35 r1 post n 0 (mo_setAt (mo_setSpare μ1 g25) 0)))))
set_option maxHeartbeats 4000000 in
set_option maxRecDepth 100000 in
theorem c_X4_perform (l : Launch) (B : va_G) (k : KT) (a : Nat → Nat) (μ : MO) (post : Int32 → MO → Prop) (hw : wpX4_perform μ post) : Cti l yX4_perform wsX4_perform rm_X4_perform 0 0 B k [.ref (a 0)] (wX4 k a μ) (fun u => wX4 k a u) post := by
  refine Cti.of M_X4_perform (Nat.le_of_ble_eq_true rfl) ?_
  intro p e s m args below meth c A C hd ls hl
  have hx := C.1; have hb := C.2.1; have hml := C.2.2.1; have hts := C.2.2.2.2.1
  have hl : lv_has ls 4 [(0, .ref (a 0))] := hl
  have L35 : ∀ (n : Nat), ∀ (r1 : Int32) (v35l2 : Int32) (μ35 : MO) (H : Heap) (locs : List Loc) (ls : Array Slot), Wd B A s.heap (wX4 k a μ35) H locs → lv_has ls 4 [(0, .ref (a 0)), (1, .int r1), (2, .int v35l2)] → wpX4_perform_L35 r1 post n v35l2 μ35 → W p l e rm_X4_perform s m args below meth c H locs 0 0 (Qi below args s B A (fun u => wX4 k a u) post 0 0) (F0 m 35 ls []) := by
    intro n
    induction n with
    | zero => intro r1 v35l2 μ35 H locs ls hd hl hw; exact absurd hw (by simp [wpX4_perform_L35])
    | succ n ih =>
      intro r1 v35l2 μ35 H locs ls hd hl hw
      rw [wpX4_perform_L35] at hw
      refine lv_iload_n hx hb dX4_perform_35 rfl (lv_at hl 2 rfl) ?_
      refine lv_iload_n hx hb dX4_perform_36 rfl (lv_at hl 1 rfl) ?_
      refine lv_icmp_ge (tgt := 79) hx hb dX4_perform_37 (by decide) (fun c10 => ?_) (fun c10 => ?_)
      · replace hw := hw.1 c10
        refine lv_aload_n hx hb dX4_perform_79 rfl (lv_at hl 0 rfl) ?_
        refine lv_aload_n hx hb dX4_perform_80 rfl (lv_at hl 0 rfl) ?_
        refine g_get (v := .ref (a 2)) C hd iX4_perform_X4 0 4 rfl rfl 1 (by decide) (List.mem_of_getElem? (i := 3) rfl) rfl dX4_perform_81 ?_
        refine v_v C hd hl M_X4_record gX4_perform_X4_record (c_X4_record l B k a μ35 (a 2) (mo_spare μ35) (mo_history μ35, mo_kept μ35) _ hw) ⟨rfl, rfl⟩ ⟨Nat.le_of_ble_eq_true rfl, Nat.le_of_ble_eq_true rfl⟩ (pm_pick3 0 4 1 rfl rfl rfl) (fun u => wX4 k a (mo_setKept (mo_setHistory μ35 (rk_history u)) (rk_kept u))) (fun u => (pm_pick3 (ws := wX4 k a (mo_setKept (mo_setHistory μ35 (rk_history u)) (rk_kept u))) 0 4 1 rfl rfl rfl).symm) 0 4 rfl rfl rfl rfl rfl (Nat.le_of_ble_eq_true rfl) dX4_perform_84 ⟨Nat.le_of_ble_eq_true rfl, Nat.le_of_ble_eq_true rfl⟩ (fun η84 H locs hw hd => ?_)
        refine lv_iload_n hx hb dX4_perform_87 rfl (lv_at hl 1 rfl) ?_
        exact r_i C hd dX4_perform_88 (mo_setKept (mo_setHistory μ35 (rk_history η84)) (rk_kept η84)) rfl hw
      · replace hw := hw.2 c10
        refine lv_aload_n hx hb dX4_perform_40 rfl (lv_at hl 0 rfl) ?_
        refine lv_iconst (v := 1) hx hb dX4_perform_41 (by decide) ?_
        refine v_i C hd hl M_X4_command gX4_perform_X4_command (c_X4_command l B k a μ35 1 _ hw) ⟨rfl, rfl⟩ ⟨Nat.le_of_ble_eq_true rfl, Nat.le_of_ble_eq_true rfl⟩ (pm_all _) (fun u => wX4 k a u) (fun _ => (pm_all _).symm) 0 4 rfl rfl rfl rfl rfl (Nat.le_of_ble_eq_true rfl) dX4_perform_42 ⟨Nat.le_of_ble_eq_true rfl, Nat.le_of_ble_eq_true rfl⟩ (fun r42 μ42 H locs hw hd => ?_)
        refine lv_istore_n (lv' := [(3, .int r42), (0, .ref (a 0)), (1, .int r1), (2, .int v35l2)]) hx hb dX4_perform_45 rfl hl (by decide) rfl (fun ls hl => ?_)
        refine lv_iload_n hx hb dX4_perform_46 rfl (lv_at hl 0 rfl) ?_
        refine lv_if_ge (tgt := 63) hx hb dX4_perform_47 (by decide) (fun c11 => ?_) (fun c11 => ?_)
        · replace hw := hw.1 c11
          refine lv_aload_n hx hb dX4_perform_63 rfl (lv_at hl 1 rfl) ?_
          refine lv_dup hx hb dX4_perform_64 rfl ?_
          refine g_get (v := .int (mo_at μ42)) C hd iX4_perform_X4 0 4 rfl rfl 9 (by decide) (List.mem_of_getElem? (i := 1) rfl) rfl dX4_perform_65 ?_
          refine lv_iconst (v := 1) hx hb dX4_perform_68 (by decide) ?_
          refine lv_iadd hx hb dX4_perform_69 ?_
          refine g_put C hd iX4_perform_X4 tyX4 tyX4_ok nmX4 0 4 rfl rfl 9 (by decide) (List.mem_of_getElem? (i := 1) rfl) rfl rfl rfl (Nat.le_of_ble_eq_true rfl) (wX4 k a (mo_setAt μ42 ((mo_at μ42) + 1))) (wX4_putAt k a _ _) dX4_perform_70 (fun H locs hd => ?_)
          refine lv_iinc (v := v35l2 + 1) (lv' := [(2, .int (v35l2 + 1)), (3, .int r42), (0, .ref (a 0)), (1, .int r1)]) hx hb dX4_perform_73 hl (k := 3) rfl rfl (by decide) rfl (fun ls hl => ?_)
          refine lv_goto (tgt := 35) hx hb dX4_perform_76 (by decide) ?_
          exact ih r1 (v35l2 + 1) (mo_setAt μ42 ((mo_at μ42) + 1)) _ _ _ hd (lv_sub hl [2, 3, 0] rfl) hw
        · replace hw := hw.2 c11
          refine lv_aload_n hx hb dX4_perform_50 rfl (lv_at hl 1 rfl) ?_
          refine g_get (v := .ref (a 2)) C hd iX4_perform_X4 0 4 rfl rfl 1 (by decide) (List.mem_of_getElem? (i := 3) rfl) rfl dX4_perform_51 ?_
          refine lv_aload_n hx hb dX4_perform_54 rfl (lv_at hl 1 rfl) ?_
          refine g_get (v := .ref (a 1)) C hd iX4_perform_X4 0 4 rfl rfl 0 (by decide) (List.mem_of_getElem? (i := 2) rfl) rfl dX4_perform_55 ?_
          refine s_v C hd hl M_X4_copies gX4_perform_X4_copies rfl (c_X4_copies l B k (a 2) (a 1) (mo_spare μ42) (mo_now μ42) _ hw) ⟨rfl, rfl⟩ ⟨Nat.le_of_ble_eq_true rfl, Nat.le_of_ble_eq_true rfl⟩ (pm_pick2 2 1 rfl rfl) (fun u => wX4 k a (mo_setNow μ42 u)) (fun u => (pm_pick2 (ws := wX4 k a (mo_setNow μ42 u)) 2 1 rfl rfl).symm) rfl rfl (Nat.le_of_ble_eq_true rfl) dX4_perform_58 ⟨Nat.le_of_ble_eq_true rfl, Nat.le_of_ble_eq_true rfl⟩ (fun g58 H locs hw hd => ?_)
          refine lv_iload_n hx hb dX4_perform_61 rfl (lv_at hl 0 rfl) ?_
          exact r_i C hd dX4_perform_62 (mo_setNow μ42 g58) rfl hw
  rw [wpX4_perform] at hw
  refine lv_aload_n hx hb dX4_perform_0 rfl (lv_at hl 0 rfl) ?_
  refine v_i C hd hl M_X4_commands gX4_perform_X4_commands (c_X4_commands l B k a μ _ hw) ⟨rfl, rfl⟩ ⟨Nat.le_of_ble_eq_true rfl, Nat.le_of_ble_eq_true rfl⟩ (pm_all _) (fun u => wX4 k a u) (fun _ => (pm_all _).symm) 0 4 rfl rfl rfl rfl rfl (Nat.le_of_ble_eq_true rfl) dX4_perform_1 ⟨Nat.le_of_ble_eq_true rfl, Nat.le_of_ble_eq_true rfl⟩ (fun r1 μ1 H locs hw hd => ?_)
  refine lv_istore_n (lv' := [(1, .int r1), (0, .ref (a 0))]) hx hb dX4_perform_4 rfl hl (by decide) rfl (fun ls hl => ?_)
  refine lv_iload_n hx hb dX4_perform_5 rfl (lv_at hl 0 rfl) ?_
  refine lv_if_ne (tgt := 17) hx hb dX4_perform_6 (by decide) (fun c12 => ?_) (fun c12 => ?_)
  · replace hw := hw.2 c12
    refine lv_aload_n hx hb dX4_perform_17 rfl (lv_at hl 1 rfl) ?_
    refine g_get (v := .ref (a 1)) C hd iX4_perform_X4 0 4 rfl rfl 0 (by decide) (List.mem_of_getElem? (i := 2) rfl) rfl dX4_perform_18 ?_
    refine lv_aload_n hx hb dX4_perform_21 rfl (lv_at hl 1 rfl) ?_
    refine g_get (v := .ref (a 2)) C hd iX4_perform_X4 0 4 rfl rfl 1 (by decide) (List.mem_of_getElem? (i := 3) rfl) rfl dX4_perform_22 ?_
    refine s_v C hd hl M_X4_copies gX4_perform_X4_copies rfl (c_X4_copies l B k (a 1) (a 2) (mo_now μ1) (mo_spare μ1) _ hw) ⟨rfl, rfl⟩ ⟨Nat.le_of_ble_eq_true rfl, Nat.le_of_ble_eq_true rfl⟩ (pm_pick2 1 1 rfl rfl) (fun u => wX4 k a (mo_setSpare μ1 u)) (fun u => (pm_pick2 (ws := wX4 k a (mo_setSpare μ1 u)) 1 1 rfl rfl).symm) rfl rfl (Nat.le_of_ble_eq_true rfl) dX4_perform_25 ⟨Nat.le_of_ble_eq_true rfl, Nat.le_of_ble_eq_true rfl⟩ (fun g25 H locs hw hd => ?_)
    refine lv_aload_n hx hb dX4_perform_28 rfl (lv_at hl 1 rfl) ?_
    refine lv_iconst (v := 0) hx hb dX4_perform_29 (by decide) ?_
    refine g_put C hd iX4_perform_X4 tyX4 tyX4_ok nmX4 0 4 rfl rfl 9 (by decide) (List.mem_of_getElem? (i := 1) rfl) rfl rfl rfl (Nat.le_of_ble_eq_true rfl) (wX4 k a (mo_setAt (mo_setSpare μ1 g25) 0)) (wX4_putAt k a _ _) dX4_perform_30 (fun H locs hd => ?_)
    refine lv_iconst (v := 0) hx hb dX4_perform_33 (by decide) ?_
    refine lv_istore_n (lv' := [(2, .int 0), (1, .int r1), (0, .ref (a 0))]) hx hb dX4_perform_34 rfl hl (by decide) rfl (fun ls hl => ?_)
    obtain ⟨n, hw⟩ := hw
    exact L35 n r1 0 (mo_setAt (mo_setSpare μ1 g25) 0) _ _ _ hd (lv_sub hl [2, 1, 0] rfl) hw
  · replace hw := hw.1 c12
    refine lv_bipush (v := (-100)) hx hb dX4_perform_9 (by decide) ?_
    refine lv_aload_n hx hb dX4_perform_11 rfl (lv_at hl 1 rfl) ?_
    refine g_get (v := .int (mo_at μ1)) C hd iX4_perform_X4 0 4 rfl rfl 9 (by decide) (List.mem_of_getElem? (i := 1) rfl) rfl dX4_perform_12 ?_
    refine lv_isub hx hb dX4_perform_15 ?_
    exact r_i C hd dX4_perform_16 μ1 rfl hw
abbrev rm_X4_type : Room := { frames := 0, cells := 0, slots := 0, locals := 0 }
theorem M_X4_type : MI yX4_type wsX4_type cX4_type 2 (some .int) 1 := ⟨⟨_, rfl⟩, by decide +kernel, by decide +kernel, by decide +kernel, by decide +kernel⟩
theorem iX4_type_X4 : ∀ w ∈ wsX40, w ∈ wsX4_type := fun _ h => List.mem_cons_of_mem _ (List.mem_append_right _ h)
def wpX4_type (μ : MO) (p0 : Int32) (post : Int32 → MO → Prop) : Prop := (((mo_length μ) = 60 → post (-3) μ) ∧ (¬ (mo_length μ) = 60 → (vp_in (mo_length μ) 60 ∧ post ((mo_length μ) + 1) (mo_setLength (mo_setText μ (upd (mo_text μ) (mo_length μ).toNatClampNeg p0)) ((mo_length μ) + 1)))))
set_option maxHeartbeats 4000000 in
set_option maxRecDepth 100000 in
theorem c_X4_type (l : Launch) (B : va_G) (k : KT) (a : Nat → Nat) (μ : MO) (p0 : Int32) (post : Int32 → MO → Prop) (hw : wpX4_type μ p0 post) : Cti l yX4_type wsX4_type rm_X4_type 0 0 B k [.ref (a 0), .int p0] (wX4 k a μ) (fun u => wX4 k a u) post := by
  refine Cti.of M_X4_type (Nat.le_of_ble_eq_true rfl) ?_
  intro p e s m args below meth c A C hd ls hl
  have hx := C.1; have hb := C.2.1; have hml := C.2.2.1; have hts := C.2.2.2.2.1
  have hl : lv_has ls 2 [(0, .ref (a 0)), (1, .int p0)] := hl
  rw [wpX4_type] at hw
  refine lv_aload_n hx hb dX4_type_0 rfl (lv_at hl 0 rfl) ?_
  refine g_get (v := .int (mo_length μ)) C hd iX4_type_X4 0 4 rfl rfl 7 (by decide) (List.mem_of_getElem? (i := 1) rfl) rfl dX4_type_1 ?_
  refine lv_bipush (v := 60) hx hb dX4_type_4 (by decide) ?_
  refine lv_icmp_ne (tgt := 12) hx hb dX4_type_6 (by decide) (fun c2 => ?_) (fun c2 => ?_)
  · replace hw := hw.2 c2
    refine lv_aload_n hx hb dX4_type_12 rfl (lv_at hl 0 rfl) ?_
    refine g_get (v := .ref (a 6)) C hd iX4_type_X4 0 4 rfl rfl 5 (by decide) (List.mem_of_getElem? (i := 2) rfl) rfl dX4_type_13 ?_
    refine lv_aload_n hx hb dX4_type_16 rfl (lv_at hl 0 rfl) ?_
    refine g_get (v := .int (mo_length μ)) C hd iX4_type_X4 0 4 rfl rfl 7 (by decide) (List.mem_of_getElem? (i := 1) rfl) rfl dX4_type_17 ?_
    refine lv_iload_n hx hb dX4_type_20 rfl (lv_at hl 1 rfl) ?_
    obtain ⟨h2, hw⟩ := hw
    refine g_ist (f := mo_text μ) C hd 6 rfl h2 (wX4 k a (mo_setText μ (upd (mo_text μ) (mo_length μ).toNatClampNeg p0))) (wX4_stText k a _ _) dX4_type_21 (fun H locs hd => ?_)
    refine lv_aload_n hx hb dX4_type_22 rfl (lv_at hl 0 rfl) ?_
    refine lv_dup hx hb dX4_type_23 rfl ?_
    refine g_get (v := .int (mo_length μ)) C hd iX4_type_X4 0 4 rfl rfl 7 (by decide) (List.mem_of_getElem? (i := 1) rfl) rfl dX4_type_24 ?_
    refine lv_iconst (v := 1) hx hb dX4_type_27 (by decide) ?_
    refine lv_iadd hx hb dX4_type_28 ?_
    refine g_put C hd iX4_type_X4 tyX4 tyX4_ok nmX4 0 4 rfl rfl 7 (by decide) (List.mem_of_getElem? (i := 1) rfl) rfl rfl rfl (Nat.le_of_ble_eq_true rfl) (wX4 k a (mo_setLength (mo_setText μ (upd (mo_text μ) (mo_length μ).toNatClampNeg p0)) ((mo_length μ) + 1))) (wX4_putLength k a _ _) dX4_type_29 (fun H locs hd => ?_)
    refine lv_aload_n hx hb dX4_type_32 rfl (lv_at hl 0 rfl) ?_
    refine g_get (v := .int ((mo_length μ) + 1)) C hd iX4_type_X4 0 4 rfl rfl 7 (by decide) (List.mem_of_getElem? (i := 1) rfl) rfl dX4_type_33 ?_
    exact r_i C hd dX4_type_36 (mo_setLength (mo_setText μ (upd (mo_text μ) (mo_length μ).toNatClampNeg p0)) ((mo_length μ) + 1)) rfl hw
  · replace hw := hw.1 c2
    refine lv_bipush (v := (-3)) hx hb dX4_type_9 (by decide) ?_
    exact r_i C hd dX4_type_11 μ rfl hw
abbrev rm_X4_clearText : Room := { frames := 0, cells := 0, slots := 0, locals := 0 }
theorem M_X4_clearText : MI yX4_clearText wsX4_clearText cX4_clearText 2 (some .int) 0 := ⟨⟨_, rfl⟩, by decide +kernel, by decide +kernel, by decide +kernel, by decide +kernel⟩
theorem iX4_clearText_X4 : ∀ w ∈ wsX40, w ∈ wsX4_clearText := fun _ h => List.mem_cons_of_mem _ (List.mem_append_right _ h)
def wpX4_clearText (μ : MO) (post : Int32 → MO → Prop) : Prop := post (mo_length μ) (mo_setLength μ 0)
set_option maxHeartbeats 4000000 in
set_option maxRecDepth 100000 in
theorem c_X4_clearText (l : Launch) (B : va_G) (k : KT) (a : Nat → Nat) (μ : MO) (post : Int32 → MO → Prop) (hw : wpX4_clearText μ post) : Cti l yX4_clearText wsX4_clearText rm_X4_clearText 0 0 B k [.ref (a 0)] (wX4 k a μ) (fun u => wX4 k a u) post := by
  refine Cti.of M_X4_clearText (Nat.le_of_ble_eq_true rfl) ?_
  intro p e s m args below meth c A C hd ls hl
  have hx := C.1; have hb := C.2.1; have hml := C.2.2.1; have hts := C.2.2.2.2.1
  have hl : lv_has ls 2 [(0, .ref (a 0))] := hl
  rw [wpX4_clearText] at hw
  refine lv_aload_n hx hb dX4_clearText_0 rfl (lv_at hl 0 rfl) ?_
  refine g_get (v := .int (mo_length μ)) C hd iX4_clearText_X4 0 4 rfl rfl 7 (by decide) (List.mem_of_getElem? (i := 1) rfl) rfl dX4_clearText_1 ?_
  refine lv_istore_n (lv' := [(1, .int (mo_length μ)), (0, .ref (a 0))]) hx hb dX4_clearText_4 rfl hl (by decide) rfl (fun ls hl => ?_)
  refine lv_aload_n hx hb dX4_clearText_5 rfl (lv_at hl 1 rfl) ?_
  refine lv_iconst (v := 0) hx hb dX4_clearText_6 (by decide) ?_
  refine g_put C hd iX4_clearText_X4 tyX4 tyX4_ok nmX4 0 4 rfl rfl 7 (by decide) (List.mem_of_getElem? (i := 1) rfl) rfl rfl rfl (Nat.le_of_ble_eq_true rfl) (wX4 k a (mo_setLength μ 0)) (wX4_putLength k a _ _) dX4_clearText_7 (fun H locs hd => ?_)
  refine lv_iload_n hx hb dX4_clearText_10 rfl (lv_at hl 0 rfl) ?_
  exact r_i C hd dX4_clearText_11 (mo_setLength μ 0) rfl hw
abbrev rm_X4_undo : Room := { frames := 0, cells := 0, slots := 0, locals := 0 }
theorem M_X4_undo : MI yX4_undo wsX4_undo cX4_undo 2 (some .int) 0 := ⟨⟨_, rfl⟩, by decide +kernel, by decide +kernel, by decide +kernel, by decide +kernel⟩
theorem iX4_undo_X4 : ∀ w ∈ wsX40, w ∈ wsX4_undo := fun _ h => List.mem_cons_of_mem _ (List.mem_append_right _ h)
def wpX4_undo_L22  (post : Int32 → MO → Prop) : Nat → Int32 → MO → Prop
  | 0, _, _ => False
  | n + 1, v22l1, μ22 => ((276 ≤ v22l1 → post (mo_kept μ22) μ22) ∧ (¬ 276 ≤ v22l1 → (vp_in ((276 * (mo_kept μ22)) + v22l1) 1104 ∧ (vp_in v22l1 276 ∧ wpX4_undo_L22 post n (v22l1 + 1) (mo_setNow μ22 (upd (mo_now μ22) v22l1.toNatClampNeg ((mo_history μ22) ((276 * (mo_kept μ22)) + v22l1).toNatClampNeg)))))))
def wpX4_undo (μ : MO) (post : Int32 → MO → Prop) : Prop := (((mo_kept μ) = 0 → post (-5) μ) ∧ (¬ (mo_kept μ) = 0 → ∃ n : Nat, wpX4_undo_L22 post n 0 (mo_setKept μ ((mo_kept μ) - 1))))
set_option maxHeartbeats 4000000 in
set_option maxRecDepth 100000 in
theorem c_X4_undo (l : Launch) (B : va_G) (k : KT) (a : Nat → Nat) (μ : MO) (post : Int32 → MO → Prop) (hw : wpX4_undo μ post) : Cti l yX4_undo wsX4_undo rm_X4_undo 0 0 B k [.ref (a 0)] (wX4 k a μ) (fun u => wX4 k a u) post := by
  refine Cti.of M_X4_undo (Nat.le_of_ble_eq_true rfl) ?_
  intro p e s m args below meth c A C hd ls hl
  have hx := C.1; have hb := C.2.1; have hml := C.2.2.1; have hts := C.2.2.2.2.1
  have hl : lv_has ls 2 [(0, .ref (a 0))] := hl
  have L22 : ∀ (n : Nat), ∀ (v22l1 : Int32) (μ22 : MO) (H : Heap) (locs : List Loc) (ls : Array Slot), Wd B A s.heap (wX4 k a μ22) H locs → lv_has ls 2 [(0, .ref (a 0)), (1, .int v22l1)] → wpX4_undo_L22  post n v22l1 μ22 → W p l e rm_X4_undo s m args below meth c H locs 0 0 (Qi below args s B A (fun u => wX4 k a u) post 0 0) (F0 m 22 ls []) := by
    intro n
    induction n with
    | zero => intro v22l1 μ22 H locs ls hd hl hw; exact absurd hw (by simp [wpX4_undo_L22])
    | succ n ih =>
      intro v22l1 μ22 H locs ls hd hl hw
      rw [wpX4_undo_L22] at hw
      refine lv_iload_n hx hb dX4_undo_22 rfl (lv_at hl 1 rfl) ?_
      refine lv_sipush (v := 276) hx hb dX4_undo_23 (by decide) ?_
      refine lv_icmp_ge (tgt := 56) hx hb dX4_undo_26 (by decide) (fun c6 => ?_) (fun c6 => ?_)
      · replace hw := hw.1 c6
        refine lv_aload_n hx hb dX4_undo_56 rfl (lv_at hl 0 rfl) ?_
        refine g_get (v := .int (mo_kept μ22)) C hd iX4_undo_X4 0 4 rfl rfl 6 (by decide) (List.mem_of_getElem? (i := 1) rfl) rfl dX4_undo_57 ?_
        exact r_i C hd dX4_undo_60 μ22 rfl hw
      · replace hw := hw.2 c6
        refine lv_aload_n hx hb dX4_undo_29 rfl (lv_at hl 0 rfl) ?_
        refine g_get (v := .ref (a 1)) C hd iX4_undo_X4 0 4 rfl rfl 0 (by decide) (List.mem_of_getElem? (i := 2) rfl) rfl dX4_undo_30 ?_
        refine lv_iload_n hx hb dX4_undo_33 rfl (lv_at hl 1 rfl) ?_
        refine lv_aload_n hx hb dX4_undo_34 rfl (lv_at hl 0 rfl) ?_
        refine g_get (v := .ref (a 5)) C hd iX4_undo_X4 0 4 rfl rfl 4 (by decide) (List.mem_of_getElem? (i := 3) rfl) rfl dX4_undo_35 ?_
        refine lv_sipush (v := 276) hx hb dX4_undo_38 (by decide) ?_
        refine lv_aload_n hx hb dX4_undo_41 rfl (lv_at hl 0 rfl) ?_
        refine g_get (v := .int (mo_kept μ22)) C hd iX4_undo_X4 0 4 rfl rfl 6 (by decide) (List.mem_of_getElem? (i := 1) rfl) rfl dX4_undo_42 ?_
        refine lv_imul hx hb dX4_undo_45 ?_
        refine lv_iload_n hx hb dX4_undo_46 rfl (lv_at hl 1 rfl) ?_
        refine lv_iadd hx hb dX4_undo_47 ?_
        obtain ⟨h9, hw⟩ := hw
        refine g_ild (f := mo_history μ22) C hd 5 rfl h9 dX4_undo_48 ?_
        obtain ⟨h10, hw⟩ := hw
        refine g_ist (f := mo_now μ22) C hd 1 rfl h10 (wX4 k a (mo_setNow μ22 (upd (mo_now μ22) v22l1.toNatClampNeg ((mo_history μ22) ((276 * (mo_kept μ22)) + v22l1).toNatClampNeg)))) (wX4_stNow k a _ _) dX4_undo_49 (fun H locs hd => ?_)
        refine lv_iinc (v := v22l1 + 1) (lv' := [(1, .int (v22l1 + 1)), (0, .ref (a 0))]) hx hb dX4_undo_50 hl (k := 1) rfl rfl (by decide) rfl (fun ls hl => ?_)
        refine lv_goto (tgt := 22) hx hb dX4_undo_53 (by decide) ?_
        exact ih (v22l1 + 1) (mo_setNow μ22 (upd (mo_now μ22) v22l1.toNatClampNeg ((mo_history μ22) ((276 * (mo_kept μ22)) + v22l1).toNatClampNeg))) _ _ _ hd (lv_sub hl [1, 0] rfl) hw
  rw [wpX4_undo] at hw
  refine lv_aload_n hx hb dX4_undo_0 rfl (lv_at hl 0 rfl) ?_
  refine g_get (v := .int (mo_kept μ)) C hd iX4_undo_X4 0 4 rfl rfl 6 (by decide) (List.mem_of_getElem? (i := 1) rfl) rfl dX4_undo_1 ?_
  refine lv_if_ne (tgt := 10) hx hb dX4_undo_4 (by decide) (fun c7 => ?_) (fun c7 => ?_)
  · replace hw := hw.2 c7
    refine lv_aload_n hx hb dX4_undo_10 rfl (lv_at hl 0 rfl) ?_
    refine lv_dup hx hb dX4_undo_11 rfl ?_
    refine g_get (v := .int (mo_kept μ)) C hd iX4_undo_X4 0 4 rfl rfl 6 (by decide) (List.mem_of_getElem? (i := 1) rfl) rfl dX4_undo_12 ?_
    refine lv_iconst (v := 1) hx hb dX4_undo_15 (by decide) ?_
    refine lv_isub hx hb dX4_undo_16 ?_
    refine g_put C hd iX4_undo_X4 tyX4 tyX4_ok nmX4 0 4 rfl rfl 6 (by decide) (List.mem_of_getElem? (i := 1) rfl) rfl rfl rfl (Nat.le_of_ble_eq_true rfl) (wX4 k a (mo_setKept μ ((mo_kept μ) - 1))) (wX4_putKept k a _ _) dX4_undo_17 (fun H locs hd => ?_)
    refine lv_iconst (v := 0) hx hb dX4_undo_20 (by decide) ?_
    refine lv_istore_n (lv' := [(1, .int 0), (0, .ref (a 0))]) hx hb dX4_undo_21 rfl hl (by decide) rfl (fun ls hl => ?_)
    obtain ⟨n, hw⟩ := hw
    exact L22 n 0 (mo_setKept μ ((mo_kept μ) - 1)) _ _ _ hd (lv_sub hl [1, 0] rfl) hw
  · replace hw := hw.1 c7
    refine lv_bipush (v := (-5)) hx hb dX4_undo_7 (by decide) ?_
    exact r_i C hd dX4_undo_9 μ rfl hw
abbrev rm_X4_keep : Room := { frames := 1, cells := 0, slots := 0, locals := 22 }
theorem M_X4_keep : MI yX4_keep wsX4_keep cX4_keep 1 (some .int) 0 := ⟨⟨_, rfl⟩, by decide +kernel, by decide +kernel, by decide +kernel, by decide +kernel⟩
theorem iX4_keep_X4 : ∀ w ∈ wsX40, w ∈ wsX4_keep := fun _ h => List.mem_cons_of_mem _ (List.mem_append_right _ h)
def wpX4_keep (μ : MO) (post : Int32 → MO → Prop) : Prop := wpX4_copies (mo_now μ) (mo_slot μ) (fun g8 => (vp_in 3 276 ∧ post ((mo_now μ) (3 : Int32).toNatClampNeg) (mo_setIsFilled (mo_setSlot μ g8) 1)))
set_option maxHeartbeats 4000000 in
set_option maxRecDepth 100000 in
theorem c_X4_keep (l : Launch) (B : va_G) (k : KT) (a : Nat → Nat) (μ : MO) (post : Int32 → MO → Prop) (hw : wpX4_keep μ post) : Cti l yX4_keep wsX4_keep rm_X4_keep 0 0 B k [.ref (a 0)] (wX4 k a μ) (fun u => wX4 k a u) post := by
  refine Cti.of M_X4_keep (Nat.le_of_ble_eq_true rfl) ?_
  intro p e s m args below meth c A C hd ls hl
  have hx := C.1; have hb := C.2.1; have hml := C.2.2.1; have hts := C.2.2.2.2.1
  have hl : lv_has ls 1 [(0, .ref (a 0))] := hl
  rw [wpX4_keep] at hw
  refine lv_aload_n hx hb dX4_keep_0 rfl (lv_at hl 0 rfl) ?_
  refine g_get (v := .ref (a 1)) C hd iX4_keep_X4 0 4 rfl rfl 0 (by decide) (List.mem_of_getElem? (i := 1) rfl) rfl dX4_keep_1 ?_
  refine lv_aload_n hx hb dX4_keep_4 rfl (lv_at hl 0 rfl) ?_
  refine g_get (v := .ref (a 4)) C hd iX4_keep_X4 0 4 rfl rfl 3 (by decide) (List.mem_of_getElem? (i := 2) rfl) rfl dX4_keep_5 ?_
  refine s_v C hd hl M_X4_copies gX4_keep_X4_copies rfl (c_X4_copies l B k (a 1) (a 4) (mo_now μ) (mo_slot μ) _ hw) ⟨rfl, rfl⟩ ⟨Nat.le_of_ble_eq_true rfl, Nat.le_of_ble_eq_true rfl⟩ (pm_pick2 1 3 rfl rfl) (fun u => wX4 k a (mo_setSlot μ u)) (fun u => (pm_pick2 (ws := wX4 k a (mo_setSlot μ u)) 1 3 rfl rfl).symm) rfl rfl (Nat.le_of_ble_eq_true rfl) dX4_keep_8 ⟨Nat.le_of_ble_eq_true rfl, Nat.le_of_ble_eq_true rfl⟩ (fun g8 H locs hw hd => ?_)
  refine lv_aload_n hx hb dX4_keep_11 rfl (lv_at hl 0 rfl) ?_
  refine lv_iconst (v := 1) hx hb dX4_keep_12 (by decide) ?_
  refine g_put C hd iX4_keep_X4 tyX4 tyX4_ok nmX4 0 4 rfl rfl 8 (by decide) (List.mem_of_getElem? (i := 3) rfl) rfl rfl rfl (Nat.le_of_ble_eq_true rfl) (wX4 k a (mo_setIsFilled (mo_setSlot μ g8) 1)) (wX4_putIsFilled k a _ _) dX4_keep_13 (fun H locs hd => ?_)
  refine lv_aload_n hx hb dX4_keep_16 rfl (lv_at hl 0 rfl) ?_
  refine g_get (v := .ref (a 1)) C hd iX4_keep_X4 0 4 rfl rfl 0 (by decide) (List.mem_of_getElem? (i := 1) rfl) rfl dX4_keep_17 ?_
  refine lv_iconst (v := 3) hx hb dX4_keep_20 (by decide) ?_
  obtain ⟨h2, hw⟩ := hw
  refine g_ild (f := mo_now μ) C hd 1 rfl h2 dX4_keep_21 ?_
  exact r_i C hd dX4_keep_22 (mo_setIsFilled (mo_setSlot μ g8) 1) rfl hw
abbrev rm_X4_restore : Room := { frames := 1, cells := 0, slots := 0, locals := 22 }
theorem M_X4_restore : MI yX4_restore wsX4_restore cX4_restore 1 (some .int) 0 := ⟨⟨_, rfl⟩, by decide +kernel, by decide +kernel, by decide +kernel, by decide +kernel⟩
theorem iX4_restore_X4 : ∀ w ∈ wsX40, w ∈ wsX4_restore := fun _ h => List.mem_cons_of_mem _ (List.mem_append_right _ h)
def wpX4_restore (μ : MO) (post : Int32 → MO → Prop) : Prop := (((mo_isFilled μ) = 0 → post (-5) μ) ∧ (¬ (mo_isFilled μ) = 0 → wpX4_record (mo_now μ) (mo_history μ, mo_kept μ) (fun η15 => wpX4_copies (mo_slot μ) (mo_now μ) (fun g26 => (vp_in 3 276 ∧ post (g26 (3 : Int32).toNatClampNeg) (mo_setNow (mo_setKept (mo_setHistory μ (rk_history η15)) (rk_kept η15)) g26))))))
set_option maxHeartbeats 4000000 in
set_option maxRecDepth 100000 in
theorem c_X4_restore (l : Launch) (B : va_G) (k : KT) (a : Nat → Nat) (μ : MO) (post : Int32 → MO → Prop) (hw : wpX4_restore μ post) : Cti l yX4_restore wsX4_restore rm_X4_restore 0 0 B k [.ref (a 0)] (wX4 k a μ) (fun u => wX4 k a u) post := by
  refine Cti.of M_X4_restore (Nat.le_of_ble_eq_true rfl) ?_
  intro p e s m args below meth c A C hd ls hl
  have hx := C.1; have hb := C.2.1; have hml := C.2.2.1; have hts := C.2.2.2.2.1
  have hl : lv_has ls 1 [(0, .ref (a 0))] := hl
  rw [wpX4_restore] at hw
  refine lv_aload_n hx hb dX4_restore_0 rfl (lv_at hl 0 rfl) ?_
  refine g_get (v := .int (mo_isFilled μ)) C hd iX4_restore_X4 0 4 rfl rfl 8 (by decide) (List.mem_of_getElem? (i := 1) rfl) rfl dX4_restore_1 ?_
  refine lv_if_ne (tgt := 10) hx hb dX4_restore_4 (by decide) (fun c2 => ?_) (fun c2 => ?_)
  · replace hw := hw.2 c2
    refine lv_aload_n hx hb dX4_restore_10 rfl (lv_at hl 0 rfl) ?_
    refine lv_aload_n hx hb dX4_restore_11 rfl (lv_at hl 0 rfl) ?_
    refine g_get (v := .ref (a 1)) C hd iX4_restore_X4 0 4 rfl rfl 0 (by decide) (List.mem_of_getElem? (i := 2) rfl) rfl dX4_restore_12 ?_
    refine v_v C hd hl M_X4_record gX4_restore_X4_record (c_X4_record l B k a μ (a 1) (mo_now μ) (mo_history μ, mo_kept μ) _ hw) ⟨rfl, rfl⟩ ⟨Nat.le_of_ble_eq_true rfl, Nat.le_of_ble_eq_true rfl⟩ (pm_pick3 0 4 0 rfl rfl rfl) (fun u => wX4 k a (mo_setKept (mo_setHistory μ (rk_history u)) (rk_kept u))) (fun u => (pm_pick3 (ws := wX4 k a (mo_setKept (mo_setHistory μ (rk_history u)) (rk_kept u))) 0 4 0 rfl rfl rfl).symm) 0 4 rfl rfl rfl rfl rfl (Nat.le_of_ble_eq_true rfl) dX4_restore_15 ⟨Nat.le_of_ble_eq_true rfl, Nat.le_of_ble_eq_true rfl⟩ (fun η15 H locs hw hd => ?_)
    refine lv_aload_n hx hb dX4_restore_18 rfl (lv_at hl 0 rfl) ?_
    refine g_get (v := .ref (a 4)) C hd iX4_restore_X4 0 4 rfl rfl 3 (by decide) (List.mem_of_getElem? (i := 3) rfl) rfl dX4_restore_19 ?_
    refine lv_aload_n hx hb dX4_restore_22 rfl (lv_at hl 0 rfl) ?_
    refine g_get (v := .ref (a 1)) C hd iX4_restore_X4 0 4 rfl rfl 0 (by decide) (List.mem_of_getElem? (i := 2) rfl) rfl dX4_restore_23 ?_
    refine s_v C hd hl M_X4_copies gX4_restore_X4_copies rfl (c_X4_copies l B k (a 4) (a 1) (mo_slot μ) (mo_now μ) _ hw) ⟨rfl, rfl⟩ ⟨Nat.le_of_ble_eq_true rfl, Nat.le_of_ble_eq_true rfl⟩ (pm_pick2 4 1 rfl rfl) (fun u => wX4 k a (mo_setNow (mo_setKept (mo_setHistory μ (rk_history η15)) (rk_kept η15)) u)) (fun u => (pm_pick2 (ws := wX4 k a (mo_setNow (mo_setKept (mo_setHistory μ (rk_history η15)) (rk_kept η15)) u)) 4 1 rfl rfl).symm) rfl rfl (Nat.le_of_ble_eq_true rfl) dX4_restore_26 ⟨Nat.le_of_ble_eq_true rfl, Nat.le_of_ble_eq_true rfl⟩ (fun g26 H locs hw hd => ?_)
    refine lv_aload_n hx hb dX4_restore_29 rfl (lv_at hl 0 rfl) ?_
    refine g_get (v := .ref (a 1)) C hd iX4_restore_X4 0 4 rfl rfl 0 (by decide) (List.mem_of_getElem? (i := 2) rfl) rfl dX4_restore_30 ?_
    refine lv_iconst (v := 3) hx hb dX4_restore_33 (by decide) ?_
    obtain ⟨h2, hw⟩ := hw
    refine g_ild (f := g26) C hd 1 rfl h2 dX4_restore_34 ?_
    exact r_i C hd dX4_restore_35 (mo_setNow (mo_setKept (mo_setHistory μ (rk_history η15)) (rk_kept η15)) g26) rfl hw
  · replace hw := hw.1 c2
    refine lv_bipush (v := (-5)) hx hb dX4_restore_7 (by decide) ?_
    exact r_i C hd dX4_restore_9 μ rfl hw
abbrev rm_X4_address : Room := { frames := 6, cells := 0, slots := 0, locals := 133 }
theorem M_X4_address : MI yX4_address wsX4_address cX4_address 4 (some .int) 2 := ⟨⟨_, rfl⟩, by decide +kernel, by decide +kernel, by decide +kernel, by decide +kernel⟩
theorem iX4_address_X4 : ∀ w ∈ wsX40, w ∈ wsX4_address := fun _ h => List.mem_cons_of_mem _ (List.mem_append_right _ h)
def wpX4_address (μ : MO) (p0 : Int32) (p1 : Int32) (post : Int32 → Prop) : Prop := wpX4_isAddress μ p0 (fun b2 => ((b2 = true → wpX4_in p1 0 5 (fun b13 => ((b13 = true → wpX4_isLost μ p0 (fun b24 => ((p1 = 3 → wpX4_lends μ p0 (fun r35 => post r35)) ∧ (¬ p1 = 3 → ((p1 = 5 → (vp_in (212 + p0) 276 ∧ post ((mo_now μ) (212 + p0).toNatClampNeg))) ∧ (¬ p1 = 5 → ((p1 = 2 → ((b24 = true → post 0) ∧ (b24 = false → (vp_in (148 + p0) 276 ∧ ((((mo_now μ) (148 + p0).toNatClampNeg) = p0 → post 0) ∧ (¬ ((mo_now μ) (148 + p0).toNatClampNeg) = p0 → post 1)))))) ∧ (¬ p1 = 2 → ((b24 = true → post (-5)) ∧ (b24 = false → ((p1 = 0 → (vp_in (84 + p0) 276 ∧ post ((mo_now μ) (84 + p0).toNatClampNeg))) ∧ (¬ p1 = 0 → ((p1 = 1 → (vp_in (148 + p0) 276 ∧ post ((mo_now μ) (148 + p0).toNatClampNeg))) ∧ (¬ p1 = 1 → wpX4_steps μ p0 (fun r129 => post r129))))))))))))))) ∧ (b13 = false → post (-2))))) ∧ (b2 = false → post (-1))))
set_option maxHeartbeats 4000000 in
set_option maxRecDepth 100000 in
theorem c_X4_address (l : Launch) (B : va_G) (k : KT) (a : Nat → Nat) (μ : MO) (p0 : Int32) (p1 : Int32) (post : Int32 → Prop) (hw : wpX4_address μ p0 p1 post) : Cti l yX4_address wsX4_address rm_X4_address 0 0 B k [.ref (a 0), .int p0, .int p1] (wX4 k a μ) (fun _ : Unit => wX4 k a μ) (fun r _ => post r) := by
  refine Cti.of M_X4_address (Nat.le_of_ble_eq_true rfl) ?_
  intro p e s m args below meth c A C hd ls hl
  have hx := C.1; have hb := C.2.1; have hml := C.2.2.1; have hts := C.2.2.2.2.1
  have hl : lv_has ls 4 [(0, .ref (a 0)), (1, .int p0), (2, .int p1)] := hl
  rw [wpX4_address] at hw
  refine lv_aload_n hx hb dX4_address_0 rfl (lv_at hl 0 rfl) ?_
  refine lv_iload_n hx hb dX4_address_1 rfl (lv_at hl 1 rfl) ?_
  refine v_i C hd hl M_X4_isAddress gX4_address_X4_isAddress (c_X4_isAddress l B k a μ p0 _ hw) ⟨rfl, rfl⟩ ⟨Nat.le_of_ble_eq_true rfl, Nat.le_of_ble_eq_true rfl⟩ (pm_all _) (fun _ => wX4 k a μ) (fun _ => (pm_all _).symm) 0 4 rfl rfl rfl rfl rfl (Nat.le_of_ble_eq_true rfl) dX4_address_2 ⟨Nat.le_of_ble_eq_true rfl, Nat.le_of_ble_eq_true rfl⟩ (fun r _ H locs hp hd => ?_)
  obtain ⟨b2, rfl, hw⟩ := hp
  refine lv_if_ne (tgt := 10) hx hb dX4_address_5 (by decide) (fun c20 => ?_) (fun c20 => ?_)
  · replace hw := hw.1 ((bi_ne _).mp c20)
    refine lv_iload_n hx hb dX4_address_10 rfl (lv_at hl 2 rfl) ?_
    refine lv_iconst (v := 0) hx hb dX4_address_11 (by decide) ?_
    refine lv_iconst (v := 5) hx hb dX4_address_12 (by decide) ?_
    refine s_i C hd hl M_X4_in gX4_address_X4_in rfl (c_X4_in l B k p1 0 5 _ hw) ⟨rfl, rfl⟩ ⟨Nat.le_of_ble_eq_true rfl, Nat.le_of_ble_eq_true rfl⟩ (pm_non _) (fun _ => wX4 k a μ) (fun _ => List.Perm.refl _) rfl rfl (Nat.le_of_ble_eq_true rfl) dX4_address_13 ⟨Nat.le_of_ble_eq_true rfl, Nat.le_of_ble_eq_true rfl⟩ (fun r _ H locs hp hd => ?_)
    obtain ⟨b13, rfl, hw⟩ := hp
    refine lv_if_ne (tgt := 22) hx hb dX4_address_16 (by decide) (fun c19 => ?_) (fun c19 => ?_)
    · replace hw := hw.1 ((bi_ne _).mp c19)
      refine lv_aload_n hx hb dX4_address_22 rfl (lv_at hl 0 rfl) ?_
      refine lv_iload_n hx hb dX4_address_23 rfl (lv_at hl 1 rfl) ?_
      refine v_i C hd hl M_X4_isLost gX4_address_X4_isLost (c_X4_isLost l B k a μ p0 _ hw) ⟨rfl, rfl⟩ ⟨Nat.le_of_ble_eq_true rfl, Nat.le_of_ble_eq_true rfl⟩ (pm_all _) (fun _ => wX4 k a μ) (fun _ => (pm_all _).symm) 0 4 rfl rfl rfl rfl rfl (Nat.le_of_ble_eq_true rfl) dX4_address_24 ⟨Nat.le_of_ble_eq_true rfl, Nat.le_of_ble_eq_true rfl⟩ (fun r _ H locs hp hd => ?_)
      obtain ⟨b24, rfl, hw⟩ := hp
      refine lv_istore_n (lv' := [(3, .int (bi b24)), (0, .ref (a 0)), (1, .int p0), (2, .int p1)]) hx hb dX4_address_27 rfl hl (by decide) rfl (fun ls hl => ?_)
      refine lv_iload_n hx hb dX4_address_28 rfl (lv_at hl 3 rfl) ?_
      refine lv_iconst (v := 3) hx hb dX4_address_29 (by decide) ?_
      refine lv_icmp_ne (tgt := 39) hx hb dX4_address_30 (by decide) (fun c11 => ?_) (fun c11 => ?_)
      · replace hw := hw.2 c11
        refine lv_iload_n hx hb dX4_address_39 rfl (lv_at hl 3 rfl) ?_
        refine lv_iconst (v := 5) hx hb dX4_address_40 (by decide) ?_
        refine lv_icmp_ne (tgt := 55) hx hb dX4_address_41 (by decide) (fun c12 => ?_) (fun c12 => ?_)
        · replace hw := hw.2 c12
          refine lv_iload_n hx hb dX4_address_55 rfl (lv_at hl 3 rfl) ?_
          refine lv_iconst (v := 2) hx hb dX4_address_56 (by decide) ?_
          refine lv_icmp_ne (tgt := 84) hx hb dX4_address_57 (by decide) (fun c13 => ?_) (fun c13 => ?_)
          · replace hw := hw.2 c13
            refine lv_iload_n hx hb dX4_address_84 rfl (lv_at hl 0 rfl) ?_
            refine lv_if_eq (tgt := 93) hx hb dX4_address_85 (by decide) (fun c16 => ?_) (fun c16 => ?_)
            · replace hw := hw.2 ((bi_eq _).mp c16)
              refine lv_iload_n hx hb dX4_address_93 rfl (lv_at hl 3 rfl) ?_
              refine lv_if_ne (tgt := 109) hx hb dX4_address_94 (by decide) (fun c14 => ?_) (fun c14 => ?_)
              · replace hw := hw.2 c14
                refine lv_iload_n hx hb dX4_address_109 rfl (lv_at hl 3 rfl) ?_
                refine lv_iconst (v := 1) hx hb dX4_address_110 (by decide) ?_
                refine lv_icmp_ne (tgt := 127) hx hb dX4_address_111 (by decide) (fun c15 => ?_) (fun c15 => ?_)
                · replace hw := hw.2 c15
                  refine lv_aload_n hx hb dX4_address_127 rfl (lv_at hl 1 rfl) ?_
                  refine lv_iload_n hx hb dX4_address_128 rfl (lv_at hl 2 rfl) ?_
                  refine v_i C hd hl M_X4_steps gX4_address_X4_steps (c_X4_steps l B k a μ p0 _ hw) ⟨rfl, rfl⟩ ⟨Nat.le_of_ble_eq_true rfl, Nat.le_of_ble_eq_true rfl⟩ (pm_all _) (fun _ => wX4 k a μ) (fun _ => (pm_all _).symm) 0 4 rfl rfl rfl rfl rfl (Nat.le_of_ble_eq_true rfl) dX4_address_129 ⟨Nat.le_of_ble_eq_true rfl, Nat.le_of_ble_eq_true rfl⟩ (fun r129 _ H locs hw hd => ?_)
                  exact r_i C hd dX4_address_132 () rfl hw
                · replace hw := hw.1 c15
                  refine lv_aload_n hx hb dX4_address_114 rfl (lv_at hl 1 rfl) ?_
                  refine g_get (v := .ref (a 1)) C hd iX4_address_X4 0 4 rfl rfl 0 (by decide) (List.mem_of_getElem? (i := 1) rfl) rfl dX4_address_115 ?_
                  refine lv_sipush (v := 148) hx hb dX4_address_118 (by decide) ?_
                  refine lv_iload_n hx hb dX4_address_121 rfl (lv_at hl 2 rfl) ?_
                  refine lv_iadd hx hb dX4_address_122 ?_
                  obtain ⟨h5, hw⟩ := hw
                  refine g_ild (f := mo_now μ) C hd 1 rfl h5 dX4_address_123 ?_
                  refine lv_goto (tgt := 132) hx hb dX4_address_124 (by decide) ?_
                  exact r_i C hd dX4_address_132 () rfl hw
              · replace hw := hw.1 c14
                refine lv_aload_n hx hb dX4_address_97 rfl (lv_at hl 1 rfl) ?_
                refine g_get (v := .ref (a 1)) C hd iX4_address_X4 0 4 rfl rfl 0 (by decide) (List.mem_of_getElem? (i := 1) rfl) rfl dX4_address_98 ?_
                refine lv_bipush (v := 84) hx hb dX4_address_101 (by decide) ?_
                refine lv_iload_n hx hb dX4_address_103 rfl (lv_at hl 2 rfl) ?_
                refine lv_iadd hx hb dX4_address_104 ?_
                obtain ⟨h6, hw⟩ := hw
                refine g_ild (f := mo_now μ) C hd 1 rfl h6 dX4_address_105 ?_
                refine lv_goto (tgt := 132) hx hb dX4_address_106 (by decide) ?_
                exact r_i C hd dX4_address_132 () rfl hw
            · replace hw := hw.1 ((bi_ne _).mp c16)
              refine lv_bipush (v := (-5)) hx hb dX4_address_88 (by decide) ?_
              refine lv_goto (tgt := 132) hx hb dX4_address_90 (by decide) ?_
              exact r_i C hd dX4_address_132 () rfl hw
          · replace hw := hw.1 c13
            refine lv_iload_n hx hb dX4_address_60 rfl (lv_at hl 0 rfl) ?_
            refine lv_if_ne (tgt := 82) hx hb dX4_address_61 (by decide) (fun c18 => ?_) (fun c18 => ?_)
            · replace hw := hw.1 ((bi_ne _).mp c18)
              refine lv_iconst (v := 0) hx hb dX4_address_82 (by decide) ?_
              exact r_i C hd dX4_address_83 () rfl hw
            · replace hw := hw.2 ((bi_eq _).mp c18)
              refine lv_aload_n hx hb dX4_address_64 rfl (lv_at hl 1 rfl) ?_
              refine g_get (v := .ref (a 1)) C hd iX4_address_X4 0 4 rfl rfl 0 (by decide) (List.mem_of_getElem? (i := 1) rfl) rfl dX4_address_65 ?_
              refine lv_sipush (v := 148) hx hb dX4_address_68 (by decide) ?_
              refine lv_iload_n hx hb dX4_address_71 rfl (lv_at hl 2 rfl) ?_
              refine lv_iadd hx hb dX4_address_72 ?_
              obtain ⟨h7, hw⟩ := hw
              refine g_ild (f := mo_now μ) C hd 1 rfl h7 dX4_address_73 ?_
              refine lv_iload_n hx hb dX4_address_74 rfl (lv_at hl 2 rfl) ?_
              refine lv_icmp_eq (tgt := 82) hx hb dX4_address_75 (by decide) (fun c17 => ?_) (fun c17 => ?_)
              · replace hw := hw.1 c17
                refine lv_iconst (v := 0) hx hb dX4_address_82 (by decide) ?_
                exact r_i C hd dX4_address_83 () rfl hw
              · replace hw := hw.2 c17
                refine lv_iconst (v := 1) hx hb dX4_address_78 (by decide) ?_
                refine lv_goto (tgt := 83) hx hb dX4_address_79 (by decide) ?_
                exact r_i C hd dX4_address_83 () rfl hw
        · replace hw := hw.1 c12
          refine lv_aload_n hx hb dX4_address_44 rfl (lv_at hl 1 rfl) ?_
          refine g_get (v := .ref (a 1)) C hd iX4_address_X4 0 4 rfl rfl 0 (by decide) (List.mem_of_getElem? (i := 1) rfl) rfl dX4_address_45 ?_
          refine lv_sipush (v := 212) hx hb dX4_address_48 (by decide) ?_
          refine lv_iload_n hx hb dX4_address_51 rfl (lv_at hl 2 rfl) ?_
          refine lv_iadd hx hb dX4_address_52 ?_
          obtain ⟨h8, hw⟩ := hw
          refine g_ild (f := mo_now μ) C hd 1 rfl h8 dX4_address_53 ?_
          exact r_i C hd dX4_address_54 () rfl hw
      · replace hw := hw.1 c11
        refine lv_aload_n hx hb dX4_address_33 rfl (lv_at hl 1 rfl) ?_
        refine lv_iload_n hx hb dX4_address_34 rfl (lv_at hl 2 rfl) ?_
        refine v_i C hd hl M_X4_lends gX4_address_X4_lends (c_X4_lends l B k a μ p0 _ hw) ⟨rfl, rfl⟩ ⟨Nat.le_of_ble_eq_true rfl, Nat.le_of_ble_eq_true rfl⟩ (pm_all _) (fun _ => wX4 k a μ) (fun _ => (pm_all _).symm) 0 4 rfl rfl rfl rfl rfl (Nat.le_of_ble_eq_true rfl) dX4_address_35 ⟨Nat.le_of_ble_eq_true rfl, Nat.le_of_ble_eq_true rfl⟩ (fun r35 _ H locs hw hd => ?_)
        exact r_i C hd dX4_address_38 () rfl hw
    · replace hw := hw.2 ((bi_eq _).mp c19)
      refine lv_bipush (v := (-2)) hx hb dX4_address_19 (by decide) ?_
      exact r_i C hd dX4_address_21 () rfl hw
  · replace hw := hw.2 ((bi_eq _).mp c20)
    refine lv_iconst (v := (-1)) hx hb dX4_address_8 (by decide) ?_
    exact r_i C hd dX4_address_9 () rfl hw
abbrev rm_X4_sector : Room := { frames := 4, cells := 0, slots := 0, locals := 86 }
theorem M_X4_sector : MI yX4_sector wsX4_sector cX4_sector 3 (some .int) 2 := ⟨⟨_, rfl⟩, by decide +kernel, by decide +kernel, by decide +kernel, by decide +kernel⟩
theorem iX4_sector_X4 : ∀ w ∈ wsX40, w ∈ wsX4_sector := fun _ h => List.mem_cons_of_mem _ (List.mem_append_right _ h)
def wpX4_sector (μ : MO) (p0 : Int32) (p1 : Int32) (post : Int32 → Prop) : Prop := wpX4_in p0 0 63 (fun b4 => ((b4 = true → wpX4_in p1 0 4 (fun b15 => ((b15 = true → ((2 ≤ p1 → ((p1 = 2 → wpX4_isSpare μ p0 (fun b58 => ((b58 = true → post 1) ∧ (b58 = false → post 0)))) ∧ (¬ p1 = 2 → ((p1 = 3 → wpX4_serves μ p0 (fun r79 => post r79)) ∧ (¬ p1 = 3 → wpX4_isFree μ p0 (fun b87 => ((b87 = true → post 1) ∧ (b87 = false → post 0)))))))) ∧ (¬ 2 ≤ p1 → ((p1 = 0 → (vp_in (20 + p0) 276 ∧ post ((mo_now μ) (20 + p0).toNatClampNeg))) ∧ (¬ p1 = 0 → wpX4_state μ p0 (fun r47 => post r47)))))) ∧ (b15 = false → post (-2))))) ∧ (b4 = false → post (-1))))
set_option maxHeartbeats 4000000 in
set_option maxRecDepth 100000 in
theorem c_X4_sector (l : Launch) (B : va_G) (k : KT) (a : Nat → Nat) (μ : MO) (p0 : Int32) (p1 : Int32) (post : Int32 → Prop) (hw : wpX4_sector μ p0 p1 post) : Cti l yX4_sector wsX4_sector rm_X4_sector 0 0 B k [.ref (a 0), .int p0, .int p1] (wX4 k a μ) (fun _ : Unit => wX4 k a μ) (fun r _ => post r) := by
  refine Cti.of M_X4_sector (Nat.le_of_ble_eq_true rfl) ?_
  intro p e s m args below meth c A C hd ls hl
  have hx := C.1; have hb := C.2.1; have hml := C.2.2.1; have hts := C.2.2.2.2.1
  have hl : lv_has ls 3 [(0, .ref (a 0)), (1, .int p0), (2, .int p1)] := hl
  rw [wpX4_sector] at hw
  refine lv_iload_n hx hb dX4_sector_0 rfl (lv_at hl 1 rfl) ?_
  refine lv_iconst (v := 0) hx hb dX4_sector_1 (by decide) ?_
  refine lv_bipush (v := 63) hx hb dX4_sector_2 (by decide) ?_
  refine s_i C hd hl M_X4_in gX4_sector_X4_in rfl (c_X4_in l B k p0 0 63 _ hw) ⟨rfl, rfl⟩ ⟨Nat.le_of_ble_eq_true rfl, Nat.le_of_ble_eq_true rfl⟩ (pm_non _) (fun _ => wX4 k a μ) (fun _ => List.Perm.refl _) rfl rfl (Nat.le_of_ble_eq_true rfl) dX4_sector_4 ⟨Nat.le_of_ble_eq_true rfl, Nat.le_of_ble_eq_true rfl⟩ (fun r _ H locs hp hd => ?_)
  obtain ⟨b4, rfl, hw⟩ := hp
  refine lv_if_ne (tgt := 12) hx hb dX4_sector_7 (by decide) (fun c16 => ?_) (fun c16 => ?_)
  · replace hw := hw.1 ((bi_ne _).mp c16)
    refine lv_iload_n hx hb dX4_sector_12 rfl (lv_at hl 2 rfl) ?_
    refine lv_iconst (v := 0) hx hb dX4_sector_13 (by decide) ?_
    refine lv_iconst (v := 4) hx hb dX4_sector_14 (by decide) ?_
    refine s_i C hd hl M_X4_in gX4_sector_X4_in rfl (c_X4_in l B k p1 0 4 _ hw) ⟨rfl, rfl⟩ ⟨Nat.le_of_ble_eq_true rfl, Nat.le_of_ble_eq_true rfl⟩ (pm_non _) (fun _ => wX4 k a μ) (fun _ => List.Perm.refl _) rfl rfl (Nat.le_of_ble_eq_true rfl) dX4_sector_15 ⟨Nat.le_of_ble_eq_true rfl, Nat.le_of_ble_eq_true rfl⟩ (fun r _ H locs hp hd => ?_)
    obtain ⟨b15, rfl, hw⟩ := hp
    refine lv_if_ne (tgt := 24) hx hb dX4_sector_18 (by decide) (fun c15 => ?_) (fun c15 => ?_)
    · replace hw := hw.1 ((bi_ne _).mp c15)
      refine lv_iload_n hx hb dX4_sector_24 rfl (lv_at hl 2 rfl) ?_
      refine lv_iconst (v := 2) hx hb dX4_sector_25 (by decide) ?_
      refine lv_icmp_ge (tgt := 51) hx hb dX4_sector_26 (by decide) (fun c9 => ?_) (fun c9 => ?_)
      · replace hw := hw.1 c9
        refine lv_iload_n hx hb dX4_sector_51 rfl (lv_at hl 2 rfl) ?_
        refine lv_iconst (v := 2) hx hb dX4_sector_52 (by decide) ?_
        refine lv_icmp_ne (tgt := 72) hx hb dX4_sector_53 (by decide) (fun c10 => ?_) (fun c10 => ?_)
        · replace hw := hw.2 c10
          refine lv_iload_n hx hb dX4_sector_72 rfl (lv_at hl 2 rfl) ?_
          refine lv_iconst (v := 3) hx hb dX4_sector_73 (by decide) ?_
          refine lv_icmp_ne (tgt := 85) hx hb dX4_sector_74 (by decide) (fun c11 => ?_) (fun c11 => ?_)
          · replace hw := hw.2 c11
            refine lv_aload_n hx hb dX4_sector_85 rfl (lv_at hl 0 rfl) ?_
            refine lv_iload_n hx hb dX4_sector_86 rfl (lv_at hl 1 rfl) ?_
            refine v_i C hd hl M_X4_isFree gX4_sector_X4_isFree (c_X4_isFree l B k a μ p0 _ hw) ⟨rfl, rfl⟩ ⟨Nat.le_of_ble_eq_true rfl, Nat.le_of_ble_eq_true rfl⟩ (pm_all _) (fun _ => wX4 k a μ) (fun _ => (pm_all _).symm) 0 4 rfl rfl rfl rfl rfl (Nat.le_of_ble_eq_true rfl) dX4_sector_87 ⟨Nat.le_of_ble_eq_true rfl, Nat.le_of_ble_eq_true rfl⟩ (fun r _ H locs hp hd => ?_)
            obtain ⟨b87, rfl, hw⟩ := hp
            refine lv_if_eq (tgt := 97) hx hb dX4_sector_90 (by decide) (fun c12 => ?_) (fun c12 => ?_)
            · replace hw := hw.2 ((bi_eq _).mp c12)
              refine lv_iconst (v := 0) hx hb dX4_sector_97 (by decide) ?_
              exact r_i C hd dX4_sector_98 () rfl hw
            · replace hw := hw.1 ((bi_ne _).mp c12)
              refine lv_iconst (v := 1) hx hb dX4_sector_93 (by decide) ?_
              refine lv_goto (tgt := 98) hx hb dX4_sector_94 (by decide) ?_
              exact r_i C hd dX4_sector_98 () rfl hw
          · replace hw := hw.1 c11
            refine lv_aload_n hx hb dX4_sector_77 rfl (lv_at hl 0 rfl) ?_
            refine lv_iload_n hx hb dX4_sector_78 rfl (lv_at hl 1 rfl) ?_
            refine v_i C hd hl M_X4_serves gX4_sector_X4_serves (c_X4_serves l B k a μ p0 _ hw) ⟨rfl, rfl⟩ ⟨Nat.le_of_ble_eq_true rfl, Nat.le_of_ble_eq_true rfl⟩ (pm_all _) (fun _ => wX4 k a μ) (fun _ => (pm_all _).symm) 0 4 rfl rfl rfl rfl rfl (Nat.le_of_ble_eq_true rfl) dX4_sector_79 ⟨Nat.le_of_ble_eq_true rfl, Nat.le_of_ble_eq_true rfl⟩ (fun r79 _ H locs hw hd => ?_)
            refine lv_goto (tgt := 98) hx hb dX4_sector_82 (by decide) ?_
            exact r_i C hd dX4_sector_98 () rfl hw
        · replace hw := hw.1 c10
          refine lv_aload_n hx hb dX4_sector_56 rfl (lv_at hl 0 rfl) ?_
          refine lv_iload_n hx hb dX4_sector_57 rfl (lv_at hl 1 rfl) ?_
          refine v_i C hd hl M_X4_isSpare gX4_sector_X4_isSpare (c_X4_isSpare l B k a μ p0 _ hw) ⟨rfl, rfl⟩ ⟨Nat.le_of_ble_eq_true rfl, Nat.le_of_ble_eq_true rfl⟩ (pm_all _) (fun _ => wX4 k a μ) (fun _ => (pm_all _).symm) 0 4 rfl rfl rfl rfl rfl (Nat.le_of_ble_eq_true rfl) dX4_sector_58 ⟨Nat.le_of_ble_eq_true rfl, Nat.le_of_ble_eq_true rfl⟩ (fun r _ H locs hp hd => ?_)
          obtain ⟨b58, rfl, hw⟩ := hp
          refine lv_if_eq (tgt := 68) hx hb dX4_sector_61 (by decide) (fun c13 => ?_) (fun c13 => ?_)
          · replace hw := hw.2 ((bi_eq _).mp c13)
            refine lv_iconst (v := 0) hx hb dX4_sector_68 (by decide) ?_
            refine lv_goto (tgt := 98) hx hb dX4_sector_69 (by decide) ?_
            exact r_i C hd dX4_sector_98 () rfl hw
          · replace hw := hw.1 ((bi_ne _).mp c13)
            refine lv_iconst (v := 1) hx hb dX4_sector_64 (by decide) ?_
            refine lv_goto (tgt := 98) hx hb dX4_sector_65 (by decide) ?_
            exact r_i C hd dX4_sector_98 () rfl hw
      · replace hw := hw.2 c9
        refine lv_iload_n hx hb dX4_sector_29 rfl (lv_at hl 2 rfl) ?_
        refine lv_if_ne (tgt := 45) hx hb dX4_sector_30 (by decide) (fun c14 => ?_) (fun c14 => ?_)
        · replace hw := hw.2 c14
          refine lv_aload_n hx hb dX4_sector_45 rfl (lv_at hl 0 rfl) ?_
          refine lv_iload_n hx hb dX4_sector_46 rfl (lv_at hl 1 rfl) ?_
          refine v_i C hd hl M_X4_state gX4_sector_X4_state (c_X4_state l B k a μ p0 _ hw) ⟨rfl, rfl⟩ ⟨Nat.le_of_ble_eq_true rfl, Nat.le_of_ble_eq_true rfl⟩ (pm_all _) (fun _ => wX4 k a μ) (fun _ => (pm_all _).symm) 0 4 rfl rfl rfl rfl rfl (Nat.le_of_ble_eq_true rfl) dX4_sector_47 ⟨Nat.le_of_ble_eq_true rfl, Nat.le_of_ble_eq_true rfl⟩ (fun r47 _ H locs hw hd => ?_)
          exact r_i C hd dX4_sector_50 () rfl hw
        · replace hw := hw.1 c14
          refine lv_aload_n hx hb dX4_sector_33 rfl (lv_at hl 0 rfl) ?_
          refine g_get (v := .ref (a 1)) C hd iX4_sector_X4 0 4 rfl rfl 0 (by decide) (List.mem_of_getElem? (i := 1) rfl) rfl dX4_sector_34 ?_
          refine lv_bipush (v := 20) hx hb dX4_sector_37 (by decide) ?_
          refine lv_iload_n hx hb dX4_sector_39 rfl (lv_at hl 1 rfl) ?_
          refine lv_iadd hx hb dX4_sector_40 ?_
          obtain ⟨h2, hw⟩ := hw
          refine g_ild (f := mo_now μ) C hd 1 rfl h2 dX4_sector_41 ?_
          refine lv_goto (tgt := 50) hx hb dX4_sector_42 (by decide) ?_
          exact r_i C hd dX4_sector_50 () rfl hw
    · replace hw := hw.2 ((bi_eq _).mp c15)
      refine lv_bipush (v := (-2)) hx hb dX4_sector_21 (by decide) ?_
      exact r_i C hd dX4_sector_23 () rfl hw
  · replace hw := hw.2 ((bi_eq _).mp c16)
    refine lv_iconst (v := (-1)) hx hb dX4_sector_10 (by decide) ?_
    exact r_i C hd dX4_sector_11 () rfl hw
abbrev rm_X4_across : Room := { frames := 2, cells := 0, slots := 0, locals := 43 }
theorem M_X4_across : MI yX4_across wsX4_across cX4_across 6 (some .int) 2 := ⟨⟨_, rfl⟩, by decide +kernel, by decide +kernel, by decide +kernel, by decide +kernel⟩
theorem iX4_across_X4 : ∀ w ∈ wsX40, w ∈ wsX4_across := fun _ h => List.mem_cons_of_mem _ (List.mem_append_right _ h)
def wpX4_across_J100 (v5l3 : Int32) (v5l4 : Int32) (post : Int32 → Prop) (κ : Int32 → Int32 → Prop) (v100s1 : Bool) : Prop := κ (v5l3 + (bi v100s1)) (v5l4 + 1)
def wpX4_across_J99 (v5l3 : Int32) (v5l4 : Int32) (post : Int32 → Prop) (κ : Int32 → Int32 → Prop)  : Prop := wpX4_across_J100 v5l3 v5l4 post κ false
def wpX4_across_J91 (p0 : Int32) (v5l3 : Int32) (v5l4 : Int32) (post : Int32 → Prop) (κ : Int32 → Int32 → Prop) (v91s1 : Int32) : Prop := ((v91s1 = p0 → wpX4_across_J100 v5l3 v5l4 post κ true) ∧ (¬ v91s1 = p0 → wpX4_across_J99 v5l3 v5l4 post κ ))
def wpX4_across_J57 (μ : MO) (p0 : Int32) (p1 : Int32) (v5l3 : Int32) (v5l4 : Int32) (post : Int32 → Prop) (κ : Int32 → Int32 → Prop) (v57s0 : Bool) : Prop := ((v57s0 = true → ((p1 = 0 → (vp_in (148 + v5l4) 276 ∧ wpX4_across_J91 p0 v5l3 v5l4 post κ (((mo_now μ) (148 + v5l4).toNatClampNeg) / 16))) ∧ (¬ p1 = 0 → wpX4_across_J91 p0 v5l3 v5l4 post κ (v5l4 / 16)))) ∧ (v57s0 = false → wpX4_across_J99 v5l3 v5l4 post κ ))
def wpX4_across_J56 (μ : MO) (p0 : Int32) (p1 : Int32) (v5l3 : Int32) (v5l4 : Int32) (post : Int32 → Prop) (κ : Int32 → Int32 → Prop)  : Prop := wpX4_across_J57 μ p0 p1 v5l3 v5l4 post κ false
def wpX4_across_L5 (μ : MO) (p0 : Int32) (p1 : Int32) (post : Int32 → Prop) : Nat → Int32 → Int32 → Prop
  | 0, _, _ => False
  | n + 1, v5l3, v5l4 => ((64 ≤ v5l4 → post v5l3) ∧ (¬ 64 ≤ v5l4 → wpX4_isAddress μ v5l4 (fun b15 => ((b15 = true → wpX4_isLost μ v5l4 (fun b24 => ((b24 = true → wpX4_across_J56 μ p0 p1 v5l3 v5l4 post (wpX4_across_L5 μ p0 p1 post n) ) ∧ (b24 = false → (vp_in (148 + v5l4) 276 ∧ (((((mo_now μ) (148 + v5l4).toNatClampNeg) / 16) = (v5l4 / 16) → wpX4_across_J56 μ p0 p1 v5l3 v5l4 post (wpX4_across_L5 μ p0 p1 post n) ) ∧ (¬ (((mo_now μ) (148 + v5l4).toNatClampNeg) / 16) = (v5l4 / 16) → wpX4_across_J57 μ p0 p1 v5l3 v5l4 post (wpX4_across_L5 μ p0 p1 post n) true))))))) ∧ (b15 = false → wpX4_across_J56 μ p0 p1 v5l3 v5l4 post (wpX4_across_L5 μ p0 p1 post n) )))))
def wpX4_across (μ : MO) (p0 : Int32) (p1 : Int32) (post : Int32 → Prop) : Prop := ∃ n : Nat, wpX4_across_L5 μ p0 p1 post n 0 0
set_option maxHeartbeats 4000000 in
set_option maxRecDepth 100000 in
theorem c_X4_across (l : Launch) (B : va_G) (k : KT) (a : Nat → Nat) (μ : MO) (p0 : Int32) (p1 : Int32) (post : Int32 → Prop) (hw : wpX4_across μ p0 p1 post) : Cti l yX4_across wsX4_across rm_X4_across 0 0 B k [.ref (a 0), .int p0, .int p1] (wX4 k a μ) (fun _ : Unit => wX4 k a μ) (fun r _ => post r) := by
  refine Cti.of M_X4_across (Nat.le_of_ble_eq_true rfl) ?_
  intro p e s m args below meth c A C hd ls hl
  have hx := C.1; have hb := C.2.1; have hml := C.2.2.1; have hts := C.2.2.2.2.1
  have hl : lv_has ls 6 [(0, .ref (a 0)), (1, .int p0), (2, .int p1)] := hl
  have L5 : ∀ (n : Nat), ∀ (v5l3 : Int32) (v5l4 : Int32) (H : Heap) (locs : List Loc) (ls : Array Slot), Wd B A s.heap (wX4 k a μ) H locs → lv_has ls 6 [(0, .ref (a 0)), (1, .int p0), (2, .int p1), (3, .int v5l3), (4, .int v5l4)] → wpX4_across_L5 μ p0 p1 post n v5l3 v5l4 → W p l e rm_X4_across s m args below meth c H locs 0 0 (Qi below args s B A (fun _ : Unit => wX4 k a μ) (fun r _ => post r) 0 0) (F0 m 5 ls []) := by
    intro n
    induction n with
    | zero => intro v5l3 v5l4 H locs ls hd hl hw; exact absurd hw (by simp [wpX4_across_L5])
    | succ n ih =>
      intro v5l3 v5l4 H locs ls hd hl hw
      rw [wpX4_across_L5] at hw
      have J100 : ∀ (v5l3 : Int32) (v5l4 : Int32) (v100s1 : Bool) (H : Heap) (locs : List Loc) (ls : Array Slot), Wd B A s.heap (wX4 k a μ) H locs → lv_has ls 6 [(0, .ref (a 0)), (1, .int p0), (2, .int p1), (4, .int v5l4)] → wpX4_across_J100 v5l3 v5l4 post (wpX4_across_L5 μ p0 p1 post n) v100s1 → W p l e rm_X4_across s m args below meth c H locs 0 0 (Qi below args s B A (fun _ : Unit => wX4 k a μ) (fun r _ => post r) 0 0) (F0 m 100 ls [.int (bi v100s1), .int v5l3]) := by
        intro v5l3 v5l4 v100s1 H locs ls hd hl hw
        rw [wpX4_across_J100] at hw
        refine lv_iadd hx hb dX4_across_100 ?_
        refine lv_istore_n (lv' := [(3, .int (v5l3 + (bi v100s1))), (0, .ref (a 0)), (1, .int p0), (2, .int p1), (4, .int v5l4)]) hx hb dX4_across_101 rfl hl (by decide) rfl (fun ls hl => ?_)
        refine lv_iinc (v := v5l4 + 1) (lv' := [(4, .int (v5l4 + 1)), (3, .int (v5l3 + (bi v100s1))), (0, .ref (a 0)), (1, .int p0), (2, .int p1)]) hx hb dX4_across_102 hl (k := 4) rfl rfl (by decide) rfl (fun ls hl => ?_)
        refine lv_goto (tgt := 5) hx hb dX4_across_105 (by decide) ?_
        exact ih (v5l3 + (bi v100s1)) (v5l4 + 1) _ _ _ hd (lv_sub hl [2, 3, 4, 1, 0] rfl) hw
      have J99 : ∀ (v5l3 : Int32) (v5l4 : Int32) (H : Heap) (locs : List Loc) (ls : Array Slot), Wd B A s.heap (wX4 k a μ) H locs → lv_has ls 6 [(0, .ref (a 0)), (1, .int p0), (2, .int p1), (4, .int v5l4)] → wpX4_across_J99 v5l3 v5l4 post (wpX4_across_L5 μ p0 p1 post n)  → W p l e rm_X4_across s m args below meth c H locs 0 0 (Qi below args s B A (fun _ : Unit => wX4 k a μ) (fun r _ => post r) 0 0) (F0 m 99 ls [.int v5l3]) := by
        intro v5l3 v5l4 H locs ls hd hl hw
        rw [wpX4_across_J99] at hw
        refine lv_iconst (v := 0) hx hb dX4_across_99 (by decide) ?_
        exact J100 v5l3 v5l4 false _ _ _ hd (lv_sub hl [0, 1, 2, 3] rfl) hw
      have J91 : ∀ (v5l3 : Int32) (v5l4 : Int32) (v91s1 : Int32) (H : Heap) (locs : List Loc) (ls : Array Slot), Wd B A s.heap (wX4 k a μ) H locs → lv_has ls 6 [(0, .ref (a 0)), (1, .int p0), (2, .int p1), (4, .int v5l4)] → wpX4_across_J91 p0 v5l3 v5l4 post (wpX4_across_L5 μ p0 p1 post n) v91s1 → W p l e rm_X4_across s m args below meth c H locs 0 0 (Qi below args s B A (fun _ : Unit => wX4 k a μ) (fun r _ => post r) 0 0) (F0 m 91 ls [.int v91s1, .int v5l3]) := by
        intro v5l3 v5l4 v91s1 H locs ls hd hl hw
        rw [wpX4_across_J91] at hw
        refine lv_iload_n hx hb dX4_across_91 rfl (lv_at hl 1 rfl) ?_
        refine lv_icmp_ne (tgt := 99) hx hb dX4_across_92 (by decide) (fun c29 => ?_) (fun c29 => ?_)
        · replace hw := hw.2 c29
          exact J99 v5l3 v5l4 _ _ _ hd (lv_sub hl [0, 1, 2, 3] rfl) hw
        · replace hw := hw.1 c29
          refine lv_iconst (v := 1) hx hb dX4_across_95 (by decide) ?_
          refine lv_goto (tgt := 100) hx hb dX4_across_96 (by decide) ?_
          exact J100 v5l3 v5l4 true _ _ _ hd (lv_sub hl [0, 1, 2, 3] rfl) hw
      have J57 : ∀ (v5l3 : Int32) (v5l4 : Int32) (v57s0 : Bool) (H : Heap) (locs : List Loc) (ls : Array Slot), Wd B A s.heap (wX4 k a μ) H locs → lv_has ls 6 [(0, .ref (a 0)), (1, .int p0), (2, .int p1), (3, .int v5l3), (4, .int v5l4)] → wpX4_across_J57 μ p0 p1 v5l3 v5l4 post (wpX4_across_L5 μ p0 p1 post n) v57s0 → W p l e rm_X4_across s m args below meth c H locs 0 0 (Qi below args s B A (fun _ : Unit => wX4 k a μ) (fun r _ => post r) 0 0) (F0 m 57 ls [.int (bi v57s0)]) := by
        intro v5l3 v5l4 v57s0 H locs ls hd hl hw
        rw [wpX4_across_J57] at hw
        refine lv_istore (lv' := [(5, .int (bi v57s0)), (0, .ref (a 0)), (1, .int p0), (2, .int p1), (3, .int v5l3), (4, .int v5l4)]) hx hb dX4_across_57 hl (by decide) rfl (fun ls hl => ?_)
        refine lv_iload_n hx hb dX4_across_59 rfl (lv_at hl 4 rfl) ?_
        refine lv_iload hx hb dX4_across_60 (lv_at hl 0 rfl) ?_
        refine lv_if_eq (tgt := 99) hx hb dX4_across_62 (by decide) (fun c31 => ?_) (fun c31 => ?_)
        · replace hw := hw.2 ((bi_eq _).mp c31)
          exact J99 v5l3 v5l4 _ _ _ hd (lv_sub hl [1, 2, 3, 5] rfl) hw
        · replace hw := hw.1 ((bi_ne _).mp c31)
          refine lv_iload_n hx hb dX4_across_65 rfl (lv_at hl 3 rfl) ?_
          refine lv_if_ne (tgt := 86) hx hb dX4_across_66 (by decide) (fun c30 => ?_) (fun c30 => ?_)
          · replace hw := hw.2 c30
            refine lv_iload hx hb dX4_across_86 (lv_at hl 5 rfl) ?_
            refine lv_bipush (v := 16) hx hb dX4_across_88 (by decide) ?_
            refine lv_idiv hx hb dX4_across_90 (by decide) ?_
            exact J91 v5l3 v5l4 (v5l4 / 16) _ _ _ hd (lv_sub hl [1, 2, 3, 5] rfl) hw
          · replace hw := hw.1 c30
            refine lv_aload_n hx hb dX4_across_69 rfl (lv_at hl 1 rfl) ?_
            refine g_get (v := .ref (a 1)) C hd iX4_across_X4 0 4 rfl rfl 0 (by decide) (List.mem_of_getElem? (i := 1) rfl) rfl dX4_across_70 ?_
            refine lv_sipush (v := 148) hx hb dX4_across_73 (by decide) ?_
            refine lv_iload hx hb dX4_across_76 (lv_at hl 5 rfl) ?_
            refine lv_iadd hx hb dX4_across_78 ?_
            obtain ⟨h9, hw⟩ := hw
            refine g_ild (f := mo_now μ) C hd 1 rfl h9 dX4_across_79 ?_
            refine lv_bipush (v := 16) hx hb dX4_across_80 (by decide) ?_
            refine lv_idiv hx hb dX4_across_82 (by decide) ?_
            refine lv_goto (tgt := 91) hx hb dX4_across_83 (by decide) ?_
            exact J91 v5l3 v5l4 (((mo_now μ) (148 + v5l4).toNatClampNeg) / 16) _ _ _ hd (lv_sub hl [1, 2, 3, 5] rfl) hw
      have J56 : ∀ (v5l3 : Int32) (v5l4 : Int32) (H : Heap) (locs : List Loc) (ls : Array Slot), Wd B A s.heap (wX4 k a μ) H locs → lv_has ls 6 [(0, .ref (a 0)), (1, .int p0), (2, .int p1), (3, .int v5l3), (4, .int v5l4)] → wpX4_across_J56 μ p0 p1 v5l3 v5l4 post (wpX4_across_L5 μ p0 p1 post n)  → W p l e rm_X4_across s m args below meth c H locs 0 0 (Qi below args s B A (fun _ : Unit => wX4 k a μ) (fun r _ => post r) 0 0) (F0 m 56 ls []) := by
        intro v5l3 v5l4 H locs ls hd hl hw
        rw [wpX4_across_J56] at hw
        refine lv_iconst (v := 0) hx hb dX4_across_56 (by decide) ?_
        exact J57 v5l3 v5l4 false _ _ _ hd (lv_sub hl [0, 1, 2, 3, 4] rfl) hw
      refine lv_iload hx hb dX4_across_5 (lv_at hl 4 rfl) ?_
      refine lv_bipush (v := 64) hx hb dX4_across_7 (by decide) ?_
      refine lv_icmp_ge (tgt := 108) hx hb dX4_across_9 (by decide) (fun c32 => ?_) (fun c32 => ?_)
      · replace hw := hw.1 c32
        refine lv_iload_n hx hb dX4_across_108 rfl (lv_at hl 3 rfl) ?_
        exact r_i C hd dX4_across_109 () rfl hw
      · replace hw := hw.2 c32
        refine lv_aload_n hx hb dX4_across_12 rfl (lv_at hl 0 rfl) ?_
        refine lv_iload hx hb dX4_across_13 (lv_at hl 4 rfl) ?_
        refine v_i C hd hl M_X4_isAddress gX4_across_X4_isAddress (c_X4_isAddress l B k a μ v5l4 _ hw) ⟨rfl, rfl⟩ ⟨Nat.le_of_ble_eq_true rfl, Nat.le_of_ble_eq_true rfl⟩ (pm_all _) (fun _ => wX4 k a μ) (fun _ => (pm_all _).symm) 0 4 rfl rfl rfl rfl rfl (Nat.le_of_ble_eq_true rfl) dX4_across_15 ⟨Nat.le_of_ble_eq_true rfl, Nat.le_of_ble_eq_true rfl⟩ (fun r _ H locs hp hd => ?_)
        obtain ⟨b15, rfl, hw⟩ := hp
        refine lv_if_eq (tgt := 56) hx hb dX4_across_18 (by decide) (fun c35 => ?_) (fun c35 => ?_)
        · replace hw := hw.2 ((bi_eq _).mp c35)
          exact J56 v5l3 v5l4 _ _ _ hd (lv_sub hl [0, 1, 2, 3, 4] rfl) hw
        · replace hw := hw.1 ((bi_ne _).mp c35)
          refine lv_aload_n hx hb dX4_across_21 rfl (lv_at hl 0 rfl) ?_
          refine lv_iload hx hb dX4_across_22 (lv_at hl 4 rfl) ?_
          refine v_i C hd hl M_X4_isLost gX4_across_X4_isLost (c_X4_isLost l B k a μ v5l4 _ hw) ⟨rfl, rfl⟩ ⟨Nat.le_of_ble_eq_true rfl, Nat.le_of_ble_eq_true rfl⟩ (pm_all _) (fun _ => wX4 k a μ) (fun _ => (pm_all _).symm) 0 4 rfl rfl rfl rfl rfl (Nat.le_of_ble_eq_true rfl) dX4_across_24 ⟨Nat.le_of_ble_eq_true rfl, Nat.le_of_ble_eq_true rfl⟩ (fun r _ H locs hp hd => ?_)
          obtain ⟨b24, rfl, hw⟩ := hp
          refine lv_if_ne (tgt := 56) hx hb dX4_across_27 (by decide) (fun c34 => ?_) (fun c34 => ?_)
          · replace hw := hw.1 ((bi_ne _).mp c34)
            exact J56 v5l3 v5l4 _ _ _ hd (lv_sub hl [0, 1, 2, 3, 4] rfl) hw
          · replace hw := hw.2 ((bi_eq _).mp c34)
            refine lv_aload_n hx hb dX4_across_30 rfl (lv_at hl 0 rfl) ?_
            refine g_get (v := .ref (a 1)) C hd iX4_across_X4 0 4 rfl rfl 0 (by decide) (List.mem_of_getElem? (i := 1) rfl) rfl dX4_across_31 ?_
            refine lv_sipush (v := 148) hx hb dX4_across_34 (by decide) ?_
            refine lv_iload hx hb dX4_across_37 (lv_at hl 4 rfl) ?_
            refine lv_iadd hx hb dX4_across_39 ?_
            obtain ⟨h10, hw⟩ := hw
            refine g_ild (f := mo_now μ) C hd 1 rfl h10 dX4_across_40 ?_
            refine lv_bipush (v := 16) hx hb dX4_across_41 (by decide) ?_
            refine lv_idiv hx hb dX4_across_43 (by decide) ?_
            refine lv_iload hx hb dX4_across_44 (lv_at hl 4 rfl) ?_
            refine lv_bipush (v := 16) hx hb dX4_across_46 (by decide) ?_
            refine lv_idiv hx hb dX4_across_48 (by decide) ?_
            refine lv_icmp_eq (tgt := 56) hx hb dX4_across_49 (by decide) (fun c33 => ?_) (fun c33 => ?_)
            · replace hw := hw.1 c33
              exact J56 v5l3 v5l4 _ _ _ hd (lv_sub hl [0, 1, 2, 3, 4] rfl) hw
            · replace hw := hw.2 c33
              refine lv_iconst (v := 1) hx hb dX4_across_52 (by decide) ?_
              refine lv_goto (tgt := 57) hx hb dX4_across_53 (by decide) ?_
              exact J57 v5l3 v5l4 true _ _ _ hd (lv_sub hl [0, 1, 2, 3, 4] rfl) hw
  rw [wpX4_across] at hw
  refine lv_iconst (v := 0) hx hb dX4_across_0 (by decide) ?_
  refine lv_istore_n (lv' := [(3, .int 0), (0, .ref (a 0)), (1, .int p0), (2, .int p1)]) hx hb dX4_across_1 rfl hl (by decide) rfl (fun ls hl => ?_)
  refine lv_iconst (v := 0) hx hb dX4_across_2 (by decide) ?_
  refine lv_istore (lv' := [(4, .int 0), (3, .int 0), (0, .ref (a 0)), (1, .int p0), (2, .int p1)]) hx hb dX4_across_3 hl (by decide) rfl (fun ls hl => ?_)
  obtain ⟨n, hw⟩ := hw
  exact L5 n 0 0 _ _ _ hd (lv_sub hl [2, 3, 4, 1, 0] rfl) hw
abbrev rm_X4_inState : Room := { frames := 1, cells := 0, slots := 0, locals := 22 }
theorem M_X4_inState : MI yX4_inState wsX4_inState cX4_inState 5 (some .int) 2 := ⟨⟨_, rfl⟩, by decide +kernel, by decide +kernel, by decide +kernel, by decide +kernel⟩
theorem iX4_inState_X4 : ∀ w ∈ wsX40, w ∈ wsX4_inState := fun _ h => List.mem_cons_of_mem _ (List.mem_append_right _ h)
def wpX4_inState_J33 (v5l3 : Int32) (v5l4 : Int32) (post : Int32 → Prop) (κ : Int32 → Int32 → Prop) (v33s1 : Bool) : Prop := κ (v5l3 + (bi v33s1)) (v5l4 + 1)
def wpX4_inState_L5 (μ : MO) (p0 : Int32) (p1 : Int32) (post : Int32 → Prop) : Nat → Int32 → Int32 → Prop
  | 0, _, _ => False
  | n + 1, v5l3, v5l4 => ((16 ≤ v5l4 → post v5l3) ∧ (¬ 16 ≤ v5l4 → wpX4_state μ ((16 * p0) + v5l4) (fun r21 => ((r21 = p1 → wpX4_inState_J33 v5l3 v5l4 post (wpX4_inState_L5 μ p0 p1 post n) true) ∧ (¬ r21 = p1 → wpX4_inState_J33 v5l3 v5l4 post (wpX4_inState_L5 μ p0 p1 post n) false)))))
def wpX4_inState (μ : MO) (p0 : Int32) (p1 : Int32) (post : Int32 → Prop) : Prop := ∃ n : Nat, wpX4_inState_L5 μ p0 p1 post n 0 0
set_option maxHeartbeats 4000000 in
set_option maxRecDepth 100000 in
theorem c_X4_inState (l : Launch) (B : va_G) (k : KT) (a : Nat → Nat) (μ : MO) (p0 : Int32) (p1 : Int32) (post : Int32 → Prop) (hw : wpX4_inState μ p0 p1 post) : Cti l yX4_inState wsX4_inState rm_X4_inState 0 0 B k [.ref (a 0), .int p0, .int p1] (wX4 k a μ) (fun _ : Unit => wX4 k a μ) (fun r _ => post r) := by
  refine Cti.of M_X4_inState (Nat.le_of_ble_eq_true rfl) ?_
  intro p e s m args below meth c A C hd ls hl
  have hx := C.1; have hb := C.2.1; have hml := C.2.2.1; have hts := C.2.2.2.2.1
  have hl : lv_has ls 5 [(0, .ref (a 0)), (1, .int p0), (2, .int p1)] := hl
  have L5 : ∀ (n : Nat), ∀ (v5l3 : Int32) (v5l4 : Int32) (H : Heap) (locs : List Loc) (ls : Array Slot), Wd B A s.heap (wX4 k a μ) H locs → lv_has ls 5 [(0, .ref (a 0)), (1, .int p0), (2, .int p1), (3, .int v5l3), (4, .int v5l4)] → wpX4_inState_L5 μ p0 p1 post n v5l3 v5l4 → W p l e rm_X4_inState s m args below meth c H locs 0 0 (Qi below args s B A (fun _ : Unit => wX4 k a μ) (fun r _ => post r) 0 0) (F0 m 5 ls []) := by
    intro n
    induction n with
    | zero => intro v5l3 v5l4 H locs ls hd hl hw; exact absurd hw (by simp [wpX4_inState_L5])
    | succ n ih =>
      intro v5l3 v5l4 H locs ls hd hl hw
      rw [wpX4_inState_L5] at hw
      have J33 : ∀ (v5l3 : Int32) (v5l4 : Int32) (v33s1 : Bool) (H : Heap) (locs : List Loc) (ls : Array Slot), Wd B A s.heap (wX4 k a μ) H locs → lv_has ls 5 [(0, .ref (a 0)), (1, .int p0), (2, .int p1), (4, .int v5l4)] → wpX4_inState_J33 v5l3 v5l4 post (wpX4_inState_L5 μ p0 p1 post n) v33s1 → W p l e rm_X4_inState s m args below meth c H locs 0 0 (Qi below args s B A (fun _ : Unit => wX4 k a μ) (fun r _ => post r) 0 0) (F0 m 33 ls [.int (bi v33s1), .int v5l3]) := by
        intro v5l3 v5l4 v33s1 H locs ls hd hl hw
        rw [wpX4_inState_J33] at hw
        refine lv_iadd hx hb dX4_inState_33 ?_
        refine lv_istore_n (lv' := [(3, .int (v5l3 + (bi v33s1))), (0, .ref (a 0)), (1, .int p0), (2, .int p1), (4, .int v5l4)]) hx hb dX4_inState_34 rfl hl (by decide) rfl (fun ls hl => ?_)
        refine lv_iinc (v := v5l4 + 1) (lv' := [(4, .int (v5l4 + 1)), (3, .int (v5l3 + (bi v33s1))), (0, .ref (a 0)), (1, .int p0), (2, .int p1)]) hx hb dX4_inState_35 hl (k := 4) rfl rfl (by decide) rfl (fun ls hl => ?_)
        refine lv_goto (tgt := 5) hx hb dX4_inState_38 (by decide) ?_
        exact ih (v5l3 + (bi v33s1)) (v5l4 + 1) _ _ _ hd (lv_sub hl [2, 3, 4, 1, 0] rfl) hw
      refine lv_iload hx hb dX4_inState_5 (lv_at hl 4 rfl) ?_
      refine lv_bipush (v := 16) hx hb dX4_inState_7 (by decide) ?_
      refine lv_icmp_ge (tgt := 41) hx hb dX4_inState_9 (by decide) (fun c9 => ?_) (fun c9 => ?_)
      · replace hw := hw.1 c9
        refine lv_iload_n hx hb dX4_inState_41 rfl (lv_at hl 3 rfl) ?_
        exact r_i C hd dX4_inState_42 () rfl hw
      · replace hw := hw.2 c9
        refine lv_iload_n hx hb dX4_inState_12 rfl (lv_at hl 3 rfl) ?_
        refine lv_aload_n hx hb dX4_inState_13 rfl (lv_at hl 0 rfl) ?_
        refine lv_bipush (v := 16) hx hb dX4_inState_14 (by decide) ?_
        refine lv_iload_n hx hb dX4_inState_16 rfl (lv_at hl 1 rfl) ?_
        refine lv_imul hx hb dX4_inState_17 ?_
        refine lv_iload hx hb dX4_inState_18 (lv_at hl 4 rfl) ?_
        refine lv_iadd hx hb dX4_inState_20 ?_
        refine v_i C hd hl M_X4_state gX4_inState_X4_state (c_X4_state l B k a μ ((16 * p0) + v5l4) _ hw) ⟨rfl, rfl⟩ ⟨Nat.le_of_ble_eq_true rfl, Nat.le_of_ble_eq_true rfl⟩ (pm_all _) (fun _ => wX4 k a μ) (fun _ => (pm_all _).symm) 0 4 rfl rfl rfl rfl rfl (Nat.le_of_ble_eq_true rfl) dX4_inState_21 ⟨Nat.le_of_ble_eq_true rfl, Nat.le_of_ble_eq_true rfl⟩ (fun r21 _ H locs hw hd => ?_)
        refine lv_iload_n hx hb dX4_inState_24 rfl (lv_at hl 2 rfl) ?_
        refine lv_icmp_ne (tgt := 32) hx hb dX4_inState_25 (by decide) (fun c10 => ?_) (fun c10 => ?_)
        · replace hw := hw.2 c10
          refine lv_iconst (v := 0) hx hb dX4_inState_32 (by decide) ?_
          exact J33 v5l3 v5l4 false _ _ _ hd (lv_sub hl [0, 1, 2, 4] rfl) hw
        · replace hw := hw.1 c10
          refine lv_iconst (v := 1) hx hb dX4_inState_28 (by decide) ?_
          refine lv_goto (tgt := 33) hx hb dX4_inState_29 (by decide) ?_
          exact J33 v5l3 v5l4 true _ _ _ hd (lv_sub hl [0, 1, 2, 4] rfl) hw
  rw [wpX4_inState] at hw
  refine lv_iconst (v := 0) hx hb dX4_inState_0 (by decide) ?_
  refine lv_istore_n (lv' := [(3, .int 0), (0, .ref (a 0)), (1, .int p0), (2, .int p1)]) hx hb dX4_inState_1 rfl hl (by decide) rfl (fun ls hl => ?_)
  refine lv_iconst (v := 0) hx hb dX4_inState_2 (by decide) ?_
  refine lv_istore (lv' := [(4, .int 0), (3, .int 0), (0, .ref (a 0)), (1, .int p0), (2, .int p1)]) hx hb dX4_inState_3 hl (by decide) rfl (fun ls hl => ?_)
  obtain ⟨n, hw⟩ := hw
  exact L5 n 0 0 _ _ _ hd (lv_sub hl [2, 3, 4, 1, 0] rfl) hw
abbrev rm_X4_head : Room := { frames := 5, cells := 0, slots := 0, locals := 109 }
theorem M_X4_head : MI yX4_head wsX4_head cX4_head 3 (some .int) 2 := ⟨⟨_, rfl⟩, by decide +kernel, by decide +kernel, by decide +kernel, by decide +kernel⟩
theorem iX4_head_X4 : ∀ w ∈ wsX40, w ∈ wsX4_head := fun _ h => List.mem_cons_of_mem _ (List.mem_append_right _ h)
def wpX4_head_J42 (μ : MO) (p0 : Int32) (post : Int32 → Prop) (v42s1 : Int32) : Prop := (vp_in (v42s1 + p0) 276 ∧ post ((mo_now μ) (v42s1 + p0).toNatClampNeg))
def wpX4_head (μ : MO) (p0 : Int32) (p1 : Int32) (post : Int32 → Prop) : Prop := wpX4_isHead p0 (fun b1 => ((b1 = true → wpX4_in p1 0 9 (fun b13 => ((b13 = true → ((2 ≤ p1 → ((4 ≤ p1 → ((6 ≤ p1 → ((p1 = 6 → wpX4_lost μ p0 (fun r97 => post r97)) ∧ (¬ p1 = 6 → ((p1 = 7 → wpX4_wear μ p0 (fun r111 => post r111)) ∧ (¬ p1 = 7 → wpX4_inState μ p0 (p1 - 7) (fun r123 => post r123)))))) ∧ (¬ 6 ≤ p1 → wpX4_across μ p0 (p1 - 4) (fun r85 => post r85)))) ∧ (¬ 4 ≤ p1 → ((p1 = 2 → wpX4_frees μ p0 (fun r58 => post r58)) ∧ (¬ p1 = 2 → (vp_in (16 + p0) 276 ∧ post ((mo_now μ) (16 + p0).toNatClampNeg))))))) ∧ (¬ 2 ≤ p1 → ((p1 = 0 → wpX4_head_J42 μ p0 post 8) ∧ (¬ p1 = 0 → wpX4_head_J42 μ p0 post 12))))) ∧ (b13 = false → post (-2))))) ∧ (b1 = false → post (-1))))
set_option maxHeartbeats 4000000 in
set_option maxRecDepth 100000 in
theorem c_X4_head (l : Launch) (B : va_G) (k : KT) (a : Nat → Nat) (μ : MO) (p0 : Int32) (p1 : Int32) (post : Int32 → Prop) (hw : wpX4_head μ p0 p1 post) : Cti l yX4_head wsX4_head rm_X4_head 0 0 B k [.ref (a 0), .int p0, .int p1] (wX4 k a μ) (fun _ : Unit => wX4 k a μ) (fun r _ => post r) := by
  refine Cti.of M_X4_head (Nat.le_of_ble_eq_true rfl) ?_
  intro p e s m args below meth c A C hd ls hl
  have hx := C.1; have hb := C.2.1; have hml := C.2.2.1; have hts := C.2.2.2.2.1
  have hl : lv_has ls 3 [(0, .ref (a 0)), (1, .int p0), (2, .int p1)] := hl
  have J42 : ∀ (v42s1 : Int32) (H : Heap) (locs : List Loc) (ls : Array Slot), Wd B A s.heap (wX4 k a μ) H locs → lv_has ls 3 [(1, .int p0)] → wpX4_head_J42 μ p0 post v42s1 → W p l e rm_X4_head s m args below meth c H locs 0 0 (Qi below args s B A (fun _ : Unit => wX4 k a μ) (fun r _ => post r) 0 0) (F0 m 42 ls [.int v42s1, .ref (a 1)]) := by
    intro v42s1 H locs ls hd hl hw
    rw [wpX4_head_J42] at hw
    refine lv_iload_n hx hb dX4_head_42 rfl (lv_at hl 0 rfl) ?_
    refine lv_iadd hx hb dX4_head_43 ?_
    obtain ⟨h6, hw⟩ := hw
    refine g_ild (f := mo_now μ) C hd 1 rfl h6 dX4_head_44 ?_
    exact r_i C hd dX4_head_45 () rfl hw
  rw [wpX4_head] at hw
  refine lv_iload_n hx hb dX4_head_0 rfl (lv_at hl 1 rfl) ?_
  refine s_i C hd hl M_X4_isHead gX4_head_X4_isHead rfl (c_X4_isHead l B k p0 _ hw) ⟨rfl, rfl⟩ ⟨Nat.le_of_ble_eq_true rfl, Nat.le_of_ble_eq_true rfl⟩ (pm_non _) (fun _ => wX4 k a μ) (fun _ => List.Perm.refl _) rfl rfl (Nat.le_of_ble_eq_true rfl) dX4_head_1 ⟨Nat.le_of_ble_eq_true rfl, Nat.le_of_ble_eq_true rfl⟩ (fun r _ H locs hp hd => ?_)
  obtain ⟨b1, rfl, hw⟩ := hp
  refine lv_if_ne (tgt := 9) hx hb dX4_head_4 (by decide) (fun c18 => ?_) (fun c18 => ?_)
  · replace hw := hw.1 ((bi_ne _).mp c18)
    refine lv_iload_n hx hb dX4_head_9 rfl (lv_at hl 2 rfl) ?_
    refine lv_iconst (v := 0) hx hb dX4_head_10 (by decide) ?_
    refine lv_bipush (v := 9) hx hb dX4_head_11 (by decide) ?_
    refine s_i C hd hl M_X4_in gX4_head_X4_in rfl (c_X4_in l B k p1 0 9 _ hw) ⟨rfl, rfl⟩ ⟨Nat.le_of_ble_eq_true rfl, Nat.le_of_ble_eq_true rfl⟩ (pm_non _) (fun _ => wX4 k a μ) (fun _ => List.Perm.refl _) rfl rfl (Nat.le_of_ble_eq_true rfl) dX4_head_13 ⟨Nat.le_of_ble_eq_true rfl, Nat.le_of_ble_eq_true rfl⟩ (fun r _ H locs hp hd => ?_)
    obtain ⟨b13, rfl, hw⟩ := hp
    refine lv_if_ne (tgt := 22) hx hb dX4_head_16 (by decide) (fun c17 => ?_) (fun c17 => ?_)
    · replace hw := hw.1 ((bi_ne _).mp c17)
      refine lv_iload_n hx hb dX4_head_22 rfl (lv_at hl 2 rfl) ?_
      refine lv_iconst (v := 2) hx hb dX4_head_23 (by decide) ?_
      refine lv_icmp_ge (tgt := 46) hx hb dX4_head_24 (by decide) (fun c10 => ?_) (fun c10 => ?_)
      · replace hw := hw.1 c10
        refine lv_iload_n hx hb dX4_head_46 rfl (lv_at hl 2 rfl) ?_
        refine lv_iconst (v := 4) hx hb dX4_head_47 (by decide) ?_
        refine lv_icmp_ge (tgt := 74) hx hb dX4_head_48 (by decide) (fun c11 => ?_) (fun c11 => ?_)
        · replace hw := hw.1 c11
          refine lv_iload_n hx hb dX4_head_74 rfl (lv_at hl 2 rfl) ?_
          refine lv_bipush (v := 6) hx hb dX4_head_75 (by decide) ?_
          refine lv_icmp_ge (tgt := 89) hx hb dX4_head_77 (by decide) (fun c12 => ?_) (fun c12 => ?_)
          · replace hw := hw.1 c12
            refine lv_iload_n hx hb dX4_head_89 rfl (lv_at hl 2 rfl) ?_
            refine lv_bipush (v := 6) hx hb dX4_head_90 (by decide) ?_
            refine lv_icmp_ne (tgt := 103) hx hb dX4_head_92 (by decide) (fun c13 => ?_) (fun c13 => ?_)
            · replace hw := hw.2 c13
              refine lv_iload_n hx hb dX4_head_103 rfl (lv_at hl 2 rfl) ?_
              refine lv_bipush (v := 7) hx hb dX4_head_104 (by decide) ?_
              refine lv_icmp_ne (tgt := 117) hx hb dX4_head_106 (by decide) (fun c14 => ?_) (fun c14 => ?_)
              · replace hw := hw.2 c14
                refine lv_aload_n hx hb dX4_head_117 rfl (lv_at hl 0 rfl) ?_
                refine lv_iload_n hx hb dX4_head_118 rfl (lv_at hl 1 rfl) ?_
                refine lv_iload_n hx hb dX4_head_119 rfl (lv_at hl 2 rfl) ?_
                refine lv_bipush (v := 7) hx hb dX4_head_120 (by decide) ?_
                refine lv_isub hx hb dX4_head_122 ?_
                refine v_i C hd hl M_X4_inState gX4_head_X4_inState (c_X4_inState l B k a μ p0 (p1 - 7) _ hw) ⟨rfl, rfl⟩ ⟨Nat.le_of_ble_eq_true rfl, Nat.le_of_ble_eq_true rfl⟩ (pm_all _) (fun _ => wX4 k a μ) (fun _ => (pm_all _).symm) 0 4 rfl rfl rfl rfl rfl (Nat.le_of_ble_eq_true rfl) dX4_head_123 ⟨Nat.le_of_ble_eq_true rfl, Nat.le_of_ble_eq_true rfl⟩ (fun r123 _ H locs hw hd => ?_)
                exact r_i C hd dX4_head_126 () rfl hw
              · replace hw := hw.1 c14
                refine lv_aload_n hx hb dX4_head_109 rfl (lv_at hl 0 rfl) ?_
                refine lv_iload_n hx hb dX4_head_110 rfl (lv_at hl 1 rfl) ?_
                refine v_i C hd hl M_X4_wear gX4_head_X4_wear (c_X4_wear l B k a μ p0 _ hw) ⟨rfl, rfl⟩ ⟨Nat.le_of_ble_eq_true rfl, Nat.le_of_ble_eq_true rfl⟩ (pm_all _) (fun _ => wX4 k a μ) (fun _ => (pm_all _).symm) 0 4 rfl rfl rfl rfl rfl (Nat.le_of_ble_eq_true rfl) dX4_head_111 ⟨Nat.le_of_ble_eq_true rfl, Nat.le_of_ble_eq_true rfl⟩ (fun r111 _ H locs hw hd => ?_)
                refine lv_goto (tgt := 126) hx hb dX4_head_114 (by decide) ?_
                exact r_i C hd dX4_head_126 () rfl hw
            · replace hw := hw.1 c13
              refine lv_aload_n hx hb dX4_head_95 rfl (lv_at hl 0 rfl) ?_
              refine lv_iload_n hx hb dX4_head_96 rfl (lv_at hl 1 rfl) ?_
              refine v_i C hd hl M_X4_lost gX4_head_X4_lost (c_X4_lost l B k a μ p0 _ hw) ⟨rfl, rfl⟩ ⟨Nat.le_of_ble_eq_true rfl, Nat.le_of_ble_eq_true rfl⟩ (pm_all _) (fun _ => wX4 k a μ) (fun _ => (pm_all _).symm) 0 4 rfl rfl rfl rfl rfl (Nat.le_of_ble_eq_true rfl) dX4_head_97 ⟨Nat.le_of_ble_eq_true rfl, Nat.le_of_ble_eq_true rfl⟩ (fun r97 _ H locs hw hd => ?_)
              refine lv_goto (tgt := 126) hx hb dX4_head_100 (by decide) ?_
              exact r_i C hd dX4_head_126 () rfl hw
          · replace hw := hw.2 c12
            refine lv_aload_n hx hb dX4_head_80 rfl (lv_at hl 0 rfl) ?_
            refine lv_iload_n hx hb dX4_head_81 rfl (lv_at hl 1 rfl) ?_
            refine lv_iload_n hx hb dX4_head_82 rfl (lv_at hl 2 rfl) ?_
            refine lv_iconst (v := 4) hx hb dX4_head_83 (by decide) ?_
            refine lv_isub hx hb dX4_head_84 ?_
            refine v_i C hd hl M_X4_across gX4_head_X4_across (c_X4_across l B k a μ p0 (p1 - 4) _ hw) ⟨rfl, rfl⟩ ⟨Nat.le_of_ble_eq_true rfl, Nat.le_of_ble_eq_true rfl⟩ (pm_all _) (fun _ => wX4 k a μ) (fun _ => (pm_all _).symm) 0 4 rfl rfl rfl rfl rfl (Nat.le_of_ble_eq_true rfl) dX4_head_85 ⟨Nat.le_of_ble_eq_true rfl, Nat.le_of_ble_eq_true rfl⟩ (fun r85 _ H locs hw hd => ?_)
            exact r_i C hd dX4_head_88 () rfl hw
        · replace hw := hw.2 c11
          refine lv_iload_n hx hb dX4_head_51 rfl (lv_at hl 2 rfl) ?_
          refine lv_iconst (v := 2) hx hb dX4_head_52 (by decide) ?_
          refine lv_icmp_ne (tgt := 64) hx hb dX4_head_53 (by decide) (fun c15 => ?_) (fun c15 => ?_)
          · replace hw := hw.2 c15
            refine lv_aload_n hx hb dX4_head_64 rfl (lv_at hl 0 rfl) ?_
            refine g_get (v := .ref (a 1)) C hd iX4_head_X4 0 4 rfl rfl 0 (by decide) (List.mem_of_getElem? (i := 1) rfl) rfl dX4_head_65 ?_
            refine lv_bipush (v := 16) hx hb dX4_head_68 (by decide) ?_
            refine lv_iload_n hx hb dX4_head_70 rfl (lv_at hl 1 rfl) ?_
            refine lv_iadd hx hb dX4_head_71 ?_
            obtain ⟨h7, hw⟩ := hw
            refine g_ild (f := mo_now μ) C hd 1 rfl h7 dX4_head_72 ?_
            exact r_i C hd dX4_head_73 () rfl hw
          · replace hw := hw.1 c15
            refine lv_aload_n hx hb dX4_head_56 rfl (lv_at hl 0 rfl) ?_
            refine lv_iload_n hx hb dX4_head_57 rfl (lv_at hl 1 rfl) ?_
            refine v_i C hd hl M_X4_frees gX4_head_X4_frees (c_X4_frees l B k a μ p0 _ hw) ⟨rfl, rfl⟩ ⟨Nat.le_of_ble_eq_true rfl, Nat.le_of_ble_eq_true rfl⟩ (pm_all _) (fun _ => wX4 k a μ) (fun _ => (pm_all _).symm) 0 4 rfl rfl rfl rfl rfl (Nat.le_of_ble_eq_true rfl) dX4_head_58 ⟨Nat.le_of_ble_eq_true rfl, Nat.le_of_ble_eq_true rfl⟩ (fun r58 _ H locs hw hd => ?_)
            refine lv_goto (tgt := 73) hx hb dX4_head_61 (by decide) ?_
            exact r_i C hd dX4_head_73 () rfl hw
      · replace hw := hw.2 c10
        refine lv_aload_n hx hb dX4_head_27 rfl (lv_at hl 0 rfl) ?_
        refine g_get (v := .ref (a 1)) C hd iX4_head_X4 0 4 rfl rfl 0 (by decide) (List.mem_of_getElem? (i := 1) rfl) rfl dX4_head_28 ?_
        refine lv_iload_n hx hb dX4_head_31 rfl (lv_at hl 2 rfl) ?_
        refine lv_if_ne (tgt := 40) hx hb dX4_head_32 (by decide) (fun c16 => ?_) (fun c16 => ?_)
        · replace hw := hw.2 c16
          refine lv_bipush (v := 12) hx hb dX4_head_40 (by decide) ?_
          exact J42 12 _ _ _ hd (lv_sub hl [1] rfl) hw
        · replace hw := hw.1 c16
          refine lv_bipush (v := 8) hx hb dX4_head_35 (by decide) ?_
          refine lv_goto (tgt := 42) hx hb dX4_head_37 (by decide) ?_
          exact J42 8 _ _ _ hd (lv_sub hl [1] rfl) hw
    · replace hw := hw.2 ((bi_eq _).mp c17)
      refine lv_bipush (v := (-2)) hx hb dX4_head_19 (by decide) ?_
      exact r_i C hd dX4_head_21 () rfl hw
  · replace hw := hw.2 ((bi_eq _).mp c18)
    refine lv_iconst (v := (-1)) hx hb dX4_head_7 (by decide) ?_
    exact r_i C hd dX4_head_8 () rfl hw
abbrev rm_X4_readsLeft : Room := { frames := 8, cells := 0, slots := 0, locals := 178 }
theorem M_X4_readsLeft : MI yX4_readsLeft wsX4_readsLeft cX4_readsLeft 5 (some .int) 1 := ⟨⟨_, rfl⟩, by decide +kernel, by decide +kernel, by decide +kernel, by decide +kernel⟩
theorem iX4_readsLeft_X4 : ∀ w ∈ wsX40, w ∈ wsX4_readsLeft := fun _ h => List.mem_cons_of_mem _ (List.mem_append_right _ h)
def wpX4_readsLeft_J94 (v41l3 : Int32) (μ41 : MO) (post : Int32 → MO → Prop) (v94s0 : Bool) : Prop := wpX4_copies (mo_spare μ41) (mo_now μ41) (fun g104 => ((v94s0 = true → post v41l3 (mo_setNow μ41 g104)) ∧ (v94s0 = false → post (-5) (mo_setNow μ41 g104))))
def wpX4_readsLeft_J75 (μ : MO) (p0 : Int32) (v41l3 : Int32) (μ41 : MO) (post : Int32 → MO → Prop)  : Prop := (vp_in (148 + p0) 276 ∧ ((((mo_now μ41) (148 + p0).toNatClampNeg) = ((mo_now μ) (148 + p0).toNatClampNeg) → wpX4_readsLeft_J94 v41l3 μ41 post false) ∧ (¬ ((mo_now μ41) (148 + p0).toNatClampNeg) = ((mo_now μ) (148 + p0).toNatClampNeg) → wpX4_readsLeft_J94 v41l3 μ41 post true)))
def wpX4_readsLeft_L41 (μ : MO) (p0 : Int32) (post : Int32 → MO → Prop) : Nat → Int32 → MO → Prop
  | 0, _, _ => False
  | n + 1, v41l3, μ41 => ((2000 ≤ v41l3 → wpX4_readsLeft_J75 μ p0 v41l3 μ41 post ) ∧ (¬ 2000 ≤ v41l3 → (vp_in (148 + p0) 276 ∧ ((((mo_now μ41) (148 + p0).toNatClampNeg) = ((mo_now μ) (148 + p0).toNatClampNeg) → wpX4_reads μ41 p0 (fun r64 μ64 => wpX4_readsLeft_L41 μ p0 post n (v41l3 + 1) μ64)) ∧ (¬ ((mo_now μ41) (148 + p0).toNatClampNeg) = ((mo_now μ) (148 + p0).toNatClampNeg) → wpX4_readsLeft_J75 μ p0 v41l3 μ41 post )))))
def wpX4_readsLeft (μ : MO) (p0 : Int32) (post : Int32 → MO → Prop) : Prop := wpX4_isAddress μ p0 (fun b2 => ((b2 = true → (vp_in (148 + p0) 276 ∧ ((0 ≤ ((mo_now μ) (148 + p0).toNatClampNeg) → wpX4_copies (mo_now μ) (mo_spare μ) (fun g36 => ∃ n : Nat, wpX4_readsLeft_L41 μ p0 post n 0 (mo_setSpare μ g36))) ∧ (¬ 0 ≤ ((mo_now μ) (148 + p0).toNatClampNeg) → post (-4) μ)))) ∧ (b2 = false → post (-1) μ)))
set_option maxHeartbeats 4000000 in
set_option maxRecDepth 100000 in
theorem c_X4_readsLeft (l : Launch) (B : va_G) (k : KT) (a : Nat → Nat) (μ : MO) (p0 : Int32) (post : Int32 → MO → Prop) (hw : wpX4_readsLeft μ p0 post) : Cti l yX4_readsLeft wsX4_readsLeft rm_X4_readsLeft 0 0 B k [.ref (a 0), .int p0] (wX4 k a μ) (fun u => wX4 k a u) post := by
  refine Cti.of M_X4_readsLeft (Nat.le_of_ble_eq_true rfl) ?_
  intro p e s m args below meth c A C hd ls hl
  have hx := C.1; have hb := C.2.1; have hml := C.2.2.1; have hts := C.2.2.2.2.1
  have hl : lv_has ls 5 [(0, .ref (a 0)), (1, .int p0)] := hl
  have J94 : ∀ (v41l3 : Int32) (μ41 : MO) (v94s0 : Bool) (H : Heap) (locs : List Loc) (ls : Array Slot), Wd B A s.heap (wX4 k a μ41) H locs → lv_has ls 5 [(0, .ref (a 0)), (3, .int v41l3)] → wpX4_readsLeft_J94 v41l3 μ41 post v94s0 → W p l e rm_X4_readsLeft s m args below meth c H locs 0 0 (Qi below args s B A (fun u => wX4 k a u) post 0 0) (F0 m 94 ls [.int (bi v94s0)]) := by
    intro v41l3 μ41 v94s0 H locs ls hd hl hw
    rw [wpX4_readsLeft_J94] at hw
    refine lv_istore (lv' := [(4, .int (bi v94s0)), (0, .ref (a 0)), (3, .int v41l3)]) hx hb dX4_readsLeft_94 hl (by decide) rfl (fun ls hl => ?_)
    refine lv_aload_n hx hb dX4_readsLeft_96 rfl (lv_at hl 1 rfl) ?_
    refine g_get (v := .ref (a 2)) C hd iX4_readsLeft_X4 0 4 rfl rfl 1 (by decide) (List.mem_of_getElem? (i := 2) rfl) rfl dX4_readsLeft_97 ?_
    refine lv_aload_n hx hb dX4_readsLeft_100 rfl (lv_at hl 1 rfl) ?_
    refine g_get (v := .ref (a 1)) C hd iX4_readsLeft_X4 0 4 rfl rfl 0 (by decide) (List.mem_of_getElem? (i := 1) rfl) rfl dX4_readsLeft_101 ?_
    refine s_v C hd hl M_X4_copies gX4_readsLeft_X4_copies rfl (c_X4_copies l B k (a 2) (a 1) (mo_spare μ41) (mo_now μ41) _ hw) ⟨rfl, rfl⟩ ⟨Nat.le_of_ble_eq_true rfl, Nat.le_of_ble_eq_true rfl⟩ (pm_pick2 2 1 rfl rfl) (fun u => wX4 k a (mo_setNow μ41 u)) (fun u => (pm_pick2 (ws := wX4 k a (mo_setNow μ41 u)) 2 1 rfl rfl).symm) rfl rfl (Nat.le_of_ble_eq_true rfl) dX4_readsLeft_104 ⟨Nat.le_of_ble_eq_true rfl, Nat.le_of_ble_eq_true rfl⟩ (fun g104 H locs hw hd => ?_)
    refine lv_iload hx hb dX4_readsLeft_107 (lv_at hl 0 rfl) ?_
    refine lv_if_eq (tgt := 116) hx hb dX4_readsLeft_109 (by decide) (fun c19 => ?_) (fun c19 => ?_)
    · replace hw := hw.2 ((bi_eq _).mp c19)
      refine lv_bipush (v := (-5)) hx hb dX4_readsLeft_116 (by decide) ?_
      exact r_i C hd dX4_readsLeft_118 (mo_setNow μ41 g104) rfl hw
    · replace hw := hw.1 ((bi_ne _).mp c19)
      refine lv_iload_n hx hb dX4_readsLeft_112 rfl (lv_at hl 2 rfl) ?_
      refine lv_goto (tgt := 118) hx hb dX4_readsLeft_113 (by decide) ?_
      exact r_i C hd dX4_readsLeft_118 (mo_setNow μ41 g104) rfl hw
  have J75 : ∀ (v41l3 : Int32) (μ41 : MO) (H : Heap) (locs : List Loc) (ls : Array Slot), Wd B A s.heap (wX4 k a μ41) H locs → lv_has ls 5 [(0, .ref (a 0)), (1, .int p0), (2, .int ((mo_now μ) (148 + p0).toNatClampNeg)), (3, .int v41l3)] → wpX4_readsLeft_J75 μ p0 v41l3 μ41 post  → W p l e rm_X4_readsLeft s m args below meth c H locs 0 0 (Qi below args s B A (fun u => wX4 k a u) post 0 0) (F0 m 75 ls []) := by
    intro v41l3 μ41 H locs ls hd hl hw
    rw [wpX4_readsLeft_J75] at hw
    refine lv_aload_n hx hb dX4_readsLeft_75 rfl (lv_at hl 0 rfl) ?_
    refine g_get (v := .ref (a 1)) C hd iX4_readsLeft_X4 0 4 rfl rfl 0 (by decide) (List.mem_of_getElem? (i := 1) rfl) rfl dX4_readsLeft_76 ?_
    refine lv_sipush (v := 148) hx hb dX4_readsLeft_79 (by decide) ?_
    refine lv_iload_n hx hb dX4_readsLeft_82 rfl (lv_at hl 1 rfl) ?_
    refine lv_iadd hx hb dX4_readsLeft_83 ?_
    obtain ⟨h10, hw⟩ := hw
    refine g_ild (f := mo_now μ41) C hd 1 rfl h10 dX4_readsLeft_84 ?_
    refine lv_iload_n hx hb dX4_readsLeft_85 rfl (lv_at hl 2 rfl) ?_
    refine lv_icmp_eq (tgt := 93) hx hb dX4_readsLeft_86 (by decide) (fun c20 => ?_) (fun c20 => ?_)
    · replace hw := hw.1 c20
      refine lv_iconst (v := 0) hx hb dX4_readsLeft_93 (by decide) ?_
      exact J94 v41l3 μ41 false _ _ _ hd (lv_sub hl [0, 3] rfl) hw
    · replace hw := hw.2 c20
      refine lv_iconst (v := 1) hx hb dX4_readsLeft_89 (by decide) ?_
      refine lv_goto (tgt := 94) hx hb dX4_readsLeft_90 (by decide) ?_
      exact J94 v41l3 μ41 true _ _ _ hd (lv_sub hl [0, 3] rfl) hw
  have L41 : ∀ (n : Nat), ∀ (v41l3 : Int32) (μ41 : MO) (H : Heap) (locs : List Loc) (ls : Array Slot), Wd B A s.heap (wX4 k a μ41) H locs → lv_has ls 5 [(0, .ref (a 0)), (1, .int p0), (2, .int ((mo_now μ) (148 + p0).toNatClampNeg)), (3, .int v41l3)] → wpX4_readsLeft_L41 μ p0 post n v41l3 μ41 → W p l e rm_X4_readsLeft s m args below meth c H locs 0 0 (Qi below args s B A (fun u => wX4 k a u) post 0 0) (F0 m 41 ls []) := by
    intro n
    induction n with
    | zero => intro v41l3 μ41 H locs ls hd hl hw; exact absurd hw (by simp [wpX4_readsLeft_L41])
    | succ n ih =>
      intro v41l3 μ41 H locs ls hd hl hw
      rw [wpX4_readsLeft_L41] at hw
      refine lv_iload_n hx hb dX4_readsLeft_41 rfl (lv_at hl 3 rfl) ?_
      refine lv_sipush (v := 2000) hx hb dX4_readsLeft_42 (by decide) ?_
      refine lv_icmp_ge (tgt := 75) hx hb dX4_readsLeft_45 (by decide) (fun c21 => ?_) (fun c21 => ?_)
      · replace hw := hw.1 c21
        exact J75 v41l3 μ41 _ _ _ hd (lv_sub hl [0, 1, 2, 3] rfl) hw
      · replace hw := hw.2 c21
        refine lv_aload_n hx hb dX4_readsLeft_48 rfl (lv_at hl 0 rfl) ?_
        refine g_get (v := .ref (a 1)) C hd iX4_readsLeft_X4 0 4 rfl rfl 0 (by decide) (List.mem_of_getElem? (i := 1) rfl) rfl dX4_readsLeft_49 ?_
        refine lv_sipush (v := 148) hx hb dX4_readsLeft_52 (by decide) ?_
        refine lv_iload_n hx hb dX4_readsLeft_55 rfl (lv_at hl 1 rfl) ?_
        refine lv_iadd hx hb dX4_readsLeft_56 ?_
        obtain ⟨h11, hw⟩ := hw
        refine g_ild (f := mo_now μ41) C hd 1 rfl h11 dX4_readsLeft_57 ?_
        refine lv_iload_n hx hb dX4_readsLeft_58 rfl (lv_at hl 2 rfl) ?_
        refine lv_icmp_ne (tgt := 75) hx hb dX4_readsLeft_59 (by decide) (fun c22 => ?_) (fun c22 => ?_)
        · replace hw := hw.2 c22
          exact J75 v41l3 μ41 _ _ _ hd (lv_sub hl [0, 1, 2, 3] rfl) hw
        · replace hw := hw.1 c22
          refine lv_aload_n hx hb dX4_readsLeft_62 rfl (lv_at hl 0 rfl) ?_
          refine lv_iload_n hx hb dX4_readsLeft_63 rfl (lv_at hl 1 rfl) ?_
          refine v_i C hd hl M_X4_reads gX4_readsLeft_X4_reads (c_X4_reads l B k a μ41 p0 _ hw) ⟨rfl, rfl⟩ ⟨Nat.le_of_ble_eq_true rfl, Nat.le_of_ble_eq_true rfl⟩ (pm_all _) (fun u => wX4 k a u) (fun _ => (pm_all _).symm) 0 4 rfl rfl rfl rfl rfl (Nat.le_of_ble_eq_true rfl) dX4_readsLeft_64 ⟨Nat.le_of_ble_eq_true rfl, Nat.le_of_ble_eq_true rfl⟩ (fun r64 μ64 H locs hw hd => ?_)
          refine lv_istore (lv' := [(4, .int r64), (0, .ref (a 0)), (1, .int p0), (2, .int ((mo_now μ) (148 + p0).toNatClampNeg)), (3, .int v41l3)]) hx hb dX4_readsLeft_67 hl (by decide) rfl (fun ls hl => ?_)
          refine lv_iinc (v := v41l3 + 1) (lv' := [(3, .int (v41l3 + 1)), (4, .int r64), (0, .ref (a 0)), (1, .int p0), (2, .int ((mo_now μ) (148 + p0).toNatClampNeg))]) hx hb dX4_readsLeft_69 hl (k := 4) rfl rfl (by decide) rfl (fun ls hl => ?_)
          refine lv_goto (tgt := 41) hx hb dX4_readsLeft_72 (by decide) ?_
          exact ih (v41l3 + 1) μ64 _ _ _ hd (lv_sub hl [2, 3, 4, 0] rfl) hw
  rw [wpX4_readsLeft] at hw
  refine lv_aload_n hx hb dX4_readsLeft_0 rfl (lv_at hl 0 rfl) ?_
  refine lv_iload_n hx hb dX4_readsLeft_1 rfl (lv_at hl 1 rfl) ?_
  refine v_i C hd hl M_X4_isAddress gX4_readsLeft_X4_isAddress (c_X4_isAddress l B k a μ p0 _ hw) ⟨rfl, rfl⟩ ⟨Nat.le_of_ble_eq_true rfl, Nat.le_of_ble_eq_true rfl⟩ (pm_all _) (fun _ => wX4 k a μ) (fun _ => (pm_all _).symm) 0 4 rfl rfl rfl rfl rfl (Nat.le_of_ble_eq_true rfl) dX4_readsLeft_2 ⟨Nat.le_of_ble_eq_true rfl, Nat.le_of_ble_eq_true rfl⟩ (fun r _ H locs hp hd => ?_)
  obtain ⟨b2, rfl, hw⟩ := hp
  refine lv_if_ne (tgt := 10) hx hb dX4_readsLeft_5 (by decide) (fun c24 => ?_) (fun c24 => ?_)
  · replace hw := hw.1 ((bi_ne _).mp c24)
    refine lv_aload_n hx hb dX4_readsLeft_10 rfl (lv_at hl 0 rfl) ?_
    refine g_get (v := .ref (a 1)) C hd iX4_readsLeft_X4 0 4 rfl rfl 0 (by decide) (List.mem_of_getElem? (i := 1) rfl) rfl dX4_readsLeft_11 ?_
    refine lv_sipush (v := 148) hx hb dX4_readsLeft_14 (by decide) ?_
    refine lv_iload_n hx hb dX4_readsLeft_17 rfl (lv_at hl 1 rfl) ?_
    refine lv_iadd hx hb dX4_readsLeft_18 ?_
    obtain ⟨h12, hw⟩ := hw
    refine g_ild (f := mo_now μ) C hd 1 rfl h12 dX4_readsLeft_19 ?_
    refine lv_istore_n (lv' := [(2, .int ((mo_now μ) (148 + p0).toNatClampNeg)), (0, .ref (a 0)), (1, .int p0)]) hx hb dX4_readsLeft_20 rfl hl (by decide) rfl (fun ls hl => ?_)
    refine lv_iload_n hx hb dX4_readsLeft_21 rfl (lv_at hl 0 rfl) ?_
    refine lv_if_ge (tgt := 28) hx hb dX4_readsLeft_22 (by decide) (fun c23 => ?_) (fun c23 => ?_)
    · replace hw := hw.1 c23
      refine lv_aload_n hx hb dX4_readsLeft_28 rfl (lv_at hl 1 rfl) ?_
      refine g_get (v := .ref (a 1)) C hd iX4_readsLeft_X4 0 4 rfl rfl 0 (by decide) (List.mem_of_getElem? (i := 1) rfl) rfl dX4_readsLeft_29 ?_
      refine lv_aload_n hx hb dX4_readsLeft_32 rfl (lv_at hl 1 rfl) ?_
      refine g_get (v := .ref (a 2)) C hd iX4_readsLeft_X4 0 4 rfl rfl 1 (by decide) (List.mem_of_getElem? (i := 2) rfl) rfl dX4_readsLeft_33 ?_
      refine s_v C hd hl M_X4_copies gX4_readsLeft_X4_copies rfl (c_X4_copies l B k (a 1) (a 2) (mo_now μ) (mo_spare μ) _ hw) ⟨rfl, rfl⟩ ⟨Nat.le_of_ble_eq_true rfl, Nat.le_of_ble_eq_true rfl⟩ (pm_pick2 1 1 rfl rfl) (fun u => wX4 k a (mo_setSpare μ u)) (fun u => (pm_pick2 (ws := wX4 k a (mo_setSpare μ u)) 1 1 rfl rfl).symm) rfl rfl (Nat.le_of_ble_eq_true rfl) dX4_readsLeft_36 ⟨Nat.le_of_ble_eq_true rfl, Nat.le_of_ble_eq_true rfl⟩ (fun g36 H locs hw hd => ?_)
      refine lv_iconst (v := 0) hx hb dX4_readsLeft_39 (by decide) ?_
      refine lv_istore_n (lv' := [(3, .int 0), (2, .int ((mo_now μ) (148 + p0).toNatClampNeg)), (0, .ref (a 0)), (1, .int p0)]) hx hb dX4_readsLeft_40 rfl hl (by decide) rfl (fun ls hl => ?_)
      obtain ⟨n, hw⟩ := hw
      exact L41 n 0 (mo_setSpare μ g36) _ _ _ hd (lv_sub hl [2, 3, 1, 0] rfl) hw
    · replace hw := hw.2 c23
      refine lv_bipush (v := (-4)) hx hb dX4_readsLeft_25 (by decide) ?_
      exact r_i C hd dX4_readsLeft_27 μ rfl hw
  · replace hw := hw.2 ((bi_eq _).mp c24)
    refine lv_iconst (v := (-1)) hx hb dX4_readsLeft_8 (by decide) ?_
    exact r_i C hd dX4_readsLeft_9 μ rfl hw
abbrev rm_X4_wouldLose : Room := { frames := 7, cells := 0, slots := 0, locals := 157 }
theorem M_X4_wouldLose : MI yX4_wouldLose wsX4_wouldLose cX4_wouldLose 3 (some .int) 1 := ⟨⟨_, rfl⟩, by decide +kernel, by decide +kernel, by decide +kernel, by decide +kernel⟩
theorem iX4_wouldLose_X4 : ∀ w ∈ wsX40, w ∈ wsX4_wouldLose := fun _ h => List.mem_cons_of_mem _ (List.mem_append_right _ h)
def wpX4_wouldLose (μ : MO) (p0 : Int32) (post : Int32 → MO → Prop) : Prop := wpX4_isHead p0 (fun b1 => ((b1 = true → (vp_in (16 + p0) 276 ∧ ((((mo_now μ) (16 + p0).toNatClampNeg) = 1 → post (-5) μ) ∧ (¬ ((mo_now μ) (16 + p0).toNatClampNeg) = 1 → wpX4_copies (mo_now μ) (mo_spare μ) (fun g33 => wpX4_givesUp (mo_setSpare μ g33) p0 (fun r38 μ38 => wpX4_copies (mo_spare μ38) (mo_now μ38) (fun g50 => post r38 (mo_setNow μ38 g50)))))))) ∧ (b1 = false → post (-1) μ)))
set_option maxHeartbeats 4000000 in
set_option maxRecDepth 100000 in
theorem c_X4_wouldLose (l : Launch) (B : va_G) (k : KT) (a : Nat → Nat) (μ : MO) (p0 : Int32) (post : Int32 → MO → Prop) (hw : wpX4_wouldLose μ p0 post) : Cti l yX4_wouldLose wsX4_wouldLose rm_X4_wouldLose 0 0 B k [.ref (a 0), .int p0] (wX4 k a μ) (fun u => wX4 k a u) post := by
  refine Cti.of M_X4_wouldLose (Nat.le_of_ble_eq_true rfl) ?_
  intro p e s m args below meth c A C hd ls hl
  have hx := C.1; have hb := C.2.1; have hml := C.2.2.1; have hts := C.2.2.2.2.1
  have hl : lv_has ls 3 [(0, .ref (a 0)), (1, .int p0)] := hl
  rw [wpX4_wouldLose] at hw
  refine lv_iload_n hx hb dX4_wouldLose_0 rfl (lv_at hl 1 rfl) ?_
  refine s_i C hd hl M_X4_isHead gX4_wouldLose_X4_isHead rfl (c_X4_isHead l B k p0 _ hw) ⟨rfl, rfl⟩ ⟨Nat.le_of_ble_eq_true rfl, Nat.le_of_ble_eq_true rfl⟩ (pm_non _) (fun _ => wX4 k a μ) (fun _ => List.Perm.refl _) rfl rfl (Nat.le_of_ble_eq_true rfl) dX4_wouldLose_1 ⟨Nat.le_of_ble_eq_true rfl, Nat.le_of_ble_eq_true rfl⟩ (fun r _ H locs hp hd => ?_)
  obtain ⟨b1, rfl, hw⟩ := hp
  refine lv_if_ne (tgt := 9) hx hb dX4_wouldLose_4 (by decide) (fun c4 => ?_) (fun c4 => ?_)
  · replace hw := hw.1 ((bi_ne _).mp c4)
    refine lv_aload_n hx hb dX4_wouldLose_9 rfl (lv_at hl 0 rfl) ?_
    refine g_get (v := .ref (a 1)) C hd iX4_wouldLose_X4 0 4 rfl rfl 0 (by decide) (List.mem_of_getElem? (i := 1) rfl) rfl dX4_wouldLose_10 ?_
    refine lv_bipush (v := 16) hx hb dX4_wouldLose_13 (by decide) ?_
    refine lv_iload_n hx hb dX4_wouldLose_15 rfl (lv_at hl 1 rfl) ?_
    refine lv_iadd hx hb dX4_wouldLose_16 ?_
    obtain ⟨h2, hw⟩ := hw
    refine g_ild (f := mo_now μ) C hd 1 rfl h2 dX4_wouldLose_17 ?_
    refine lv_iconst (v := 1) hx hb dX4_wouldLose_18 (by decide) ?_
    refine lv_icmp_ne (tgt := 25) hx hb dX4_wouldLose_19 (by decide) (fun c3 => ?_) (fun c3 => ?_)
    · replace hw := hw.2 c3
      refine lv_aload_n hx hb dX4_wouldLose_25 rfl (lv_at hl 0 rfl) ?_
      refine g_get (v := .ref (a 1)) C hd iX4_wouldLose_X4 0 4 rfl rfl 0 (by decide) (List.mem_of_getElem? (i := 1) rfl) rfl dX4_wouldLose_26 ?_
      refine lv_aload_n hx hb dX4_wouldLose_29 rfl (lv_at hl 0 rfl) ?_
      refine g_get (v := .ref (a 2)) C hd iX4_wouldLose_X4 0 4 rfl rfl 1 (by decide) (List.mem_of_getElem? (i := 2) rfl) rfl dX4_wouldLose_30 ?_
      refine s_v C hd hl M_X4_copies gX4_wouldLose_X4_copies rfl (c_X4_copies l B k (a 1) (a 2) (mo_now μ) (mo_spare μ) _ hw) ⟨rfl, rfl⟩ ⟨Nat.le_of_ble_eq_true rfl, Nat.le_of_ble_eq_true rfl⟩ (pm_pick2 1 1 rfl rfl) (fun u => wX4 k a (mo_setSpare μ u)) (fun u => (pm_pick2 (ws := wX4 k a (mo_setSpare μ u)) 1 1 rfl rfl).symm) rfl rfl (Nat.le_of_ble_eq_true rfl) dX4_wouldLose_33 ⟨Nat.le_of_ble_eq_true rfl, Nat.le_of_ble_eq_true rfl⟩ (fun g33 H locs hw hd => ?_)
      refine lv_aload_n hx hb dX4_wouldLose_36 rfl (lv_at hl 0 rfl) ?_
      refine lv_iload_n hx hb dX4_wouldLose_37 rfl (lv_at hl 1 rfl) ?_
      refine v_i C hd hl M_X4_givesUp gX4_wouldLose_X4_givesUp (c_X4_givesUp l B k a (mo_setSpare μ g33) p0 _ hw) ⟨rfl, rfl⟩ ⟨Nat.le_of_ble_eq_true rfl, Nat.le_of_ble_eq_true rfl⟩ (pm_all _) (fun u => wX4 k a u) (fun _ => (pm_all _).symm) 0 4 rfl rfl rfl rfl rfl (Nat.le_of_ble_eq_true rfl) dX4_wouldLose_38 ⟨Nat.le_of_ble_eq_true rfl, Nat.le_of_ble_eq_true rfl⟩ (fun r38 μ38 H locs hw hd => ?_)
      refine lv_istore_n (lv' := [(2, .int r38), (0, .ref (a 0)), (1, .int p0)]) hx hb dX4_wouldLose_41 rfl hl (by decide) rfl (fun ls hl => ?_)
      refine lv_aload_n hx hb dX4_wouldLose_42 rfl (lv_at hl 1 rfl) ?_
      refine g_get (v := .ref (a 2)) C hd iX4_wouldLose_X4 0 4 rfl rfl 1 (by decide) (List.mem_of_getElem? (i := 2) rfl) rfl dX4_wouldLose_43 ?_
      refine lv_aload_n hx hb dX4_wouldLose_46 rfl (lv_at hl 1 rfl) ?_
      refine g_get (v := .ref (a 1)) C hd iX4_wouldLose_X4 0 4 rfl rfl 0 (by decide) (List.mem_of_getElem? (i := 1) rfl) rfl dX4_wouldLose_47 ?_
      refine s_v C hd hl M_X4_copies gX4_wouldLose_X4_copies rfl (c_X4_copies l B k (a 2) (a 1) (mo_spare μ38) (mo_now μ38) _ hw) ⟨rfl, rfl⟩ ⟨Nat.le_of_ble_eq_true rfl, Nat.le_of_ble_eq_true rfl⟩ (pm_pick2 2 1 rfl rfl) (fun u => wX4 k a (mo_setNow μ38 u)) (fun u => (pm_pick2 (ws := wX4 k a (mo_setNow μ38 u)) 2 1 rfl rfl).symm) rfl rfl (Nat.le_of_ble_eq_true rfl) dX4_wouldLose_50 ⟨Nat.le_of_ble_eq_true rfl, Nat.le_of_ble_eq_true rfl⟩ (fun g50 H locs hw hd => ?_)
      refine lv_iload_n hx hb dX4_wouldLose_53 rfl (lv_at hl 0 rfl) ?_
      exact r_i C hd dX4_wouldLose_54 (mo_setNow μ38 g50) rfl hw
    · replace hw := hw.1 c3
      refine lv_bipush (v := (-5)) hx hb dX4_wouldLose_22 (by decide) ?_
      exact r_i C hd dX4_wouldLose_24 μ rfl hw
  · replace hw := hw.2 ((bi_eq _).mp c4)
    refine lv_iconst (v := (-1)) hx hb dX4_wouldLose_7 (by decide) ?_
    exact r_i C hd dX4_wouldLose_8 μ rfl hw
abbrev rm_X4_ahead : Room := { frames := 2, cells := 0, slots := 0, locals := 43 }
theorem M_X4_ahead : MI yX4_ahead wsX4_ahead cX4_ahead 6 (some .int) 1 := ⟨⟨_, rfl⟩, by decide +kernel, by decide +kernel, by decide +kernel, by decide +kernel⟩
theorem iX4_ahead_X4 : ∀ w ∈ wsX40, w ∈ wsX4_ahead := fun _ h => List.mem_cons_of_mem _ (List.mem_append_right _ h)
def wpX4_ahead_J94 (v24l3 : Int32) (v24l4 : Int32) (post : Int32 → Prop) (κ : Int32 → Int32 → Prop) (v94s1 : Bool) : Prop := κ (v24l3 + (bi v94s1)) (v24l4 + 1)
def wpX4_ahead_J93 (v24l3 : Int32) (v24l4 : Int32) (post : Int32 → Prop) (κ : Int32 → Int32 → Prop)  : Prop := wpX4_ahead_J94 v24l3 v24l4 post κ false
def wpX4_ahead_J89 (v24l3 : Int32) (v24l4 : Int32) (post : Int32 → Prop) (κ : Int32 → Int32 → Prop)  : Prop := wpX4_ahead_J94 v24l3 v24l4 post κ true
def wpX4_ahead_L24 (μ : MO) (p0 : Int32) (post : Int32 → Prop) : Nat → Int32 → Int32 → Prop
  | 0, _, _ => False
  | n + 1, v24l3, v24l4 => ((64 ≤ v24l4 → post v24l3) ∧ (¬ 64 ≤ v24l4 → wpX4_isAddress μ v24l4 (fun b34 => ((b34 = true → wpX4_isLost μ v24l4 (fun b43 => ((b43 = true → wpX4_ahead_L24 μ p0 post n v24l3 (v24l4 + 1)) ∧ (b43 = false → (vp_in (148 + v24l4) 276 ∧ (vp_in (20 + ((mo_now μ) (148 + v24l4).toNatClampNeg)) 276 ∧ ((((mo_now μ) (20 + ((mo_now μ) (148 + p0).toNatClampNeg)).toNatClampNeg) < ((mo_now μ) (20 + ((mo_now μ) (148 + v24l4).toNatClampNeg)).toNatClampNeg) → wpX4_ahead_J89 v24l3 v24l4 post (wpX4_ahead_L24 μ p0 post n) ) ∧ (¬ ((mo_now μ) (20 + ((mo_now μ) (148 + p0).toNatClampNeg)).toNatClampNeg) < ((mo_now μ) (20 + ((mo_now μ) (148 + v24l4).toNatClampNeg)).toNatClampNeg) → ((((mo_now μ) (20 + ((mo_now μ) (148 + v24l4).toNatClampNeg)).toNatClampNeg) = ((mo_now μ) (20 + ((mo_now μ) (148 + p0).toNatClampNeg)).toNatClampNeg) → ((p0 ≤ v24l4 → wpX4_ahead_J93 v24l3 v24l4 post (wpX4_ahead_L24 μ p0 post n) ) ∧ (¬ p0 ≤ v24l4 → wpX4_ahead_J89 v24l3 v24l4 post (wpX4_ahead_L24 μ p0 post n) ))) ∧ (¬ ((mo_now μ) (20 + ((mo_now μ) (148 + v24l4).toNatClampNeg)).toNatClampNeg) = ((mo_now μ) (20 + ((mo_now μ) (148 + p0).toNatClampNeg)).toNatClampNeg) → wpX4_ahead_J93 v24l3 v24l4 post (wpX4_ahead_L24 μ p0 post n) )))))))))) ∧ (b34 = false → wpX4_ahead_L24 μ p0 post n v24l3 (v24l4 + 1))))))
def wpX4_ahead (μ : MO) (p0 : Int32) (post : Int32 → Prop) : Prop := (vp_in (148 + p0) 276 ∧ (vp_in (20 + ((mo_now μ) (148 + p0).toNatClampNeg)) 276 ∧ ∃ n : Nat, wpX4_ahead_L24 μ p0 post n 0 0))
set_option maxHeartbeats 4000000 in
set_option maxRecDepth 100000 in
theorem c_X4_ahead (l : Launch) (B : va_G) (k : KT) (a : Nat → Nat) (μ : MO) (p0 : Int32) (post : Int32 → Prop) (hw : wpX4_ahead μ p0 post) : Cti l yX4_ahead wsX4_ahead rm_X4_ahead 0 0 B k [.ref (a 0), .int p0] (wX4 k a μ) (fun _ : Unit => wX4 k a μ) (fun r _ => post r) := by
  refine Cti.of M_X4_ahead (Nat.le_of_ble_eq_true rfl) ?_
  intro p e s m args below meth c A C hd ls hl
  have hx := C.1; have hb := C.2.1; have hml := C.2.2.1; have hts := C.2.2.2.2.1
  have hl : lv_has ls 6 [(0, .ref (a 0)), (1, .int p0)] := hl
  have L24 : ∀ (n : Nat), ∀ (v24l3 : Int32) (v24l4 : Int32) (H : Heap) (locs : List Loc) (ls : Array Slot), Wd B A s.heap (wX4 k a μ) H locs → lv_has ls 6 [(0, .ref (a 0)), (1, .int p0), (2, .int ((mo_now μ) (20 + ((mo_now μ) (148 + p0).toNatClampNeg)).toNatClampNeg)), (3, .int v24l3), (4, .int v24l4)] → wpX4_ahead_L24 μ p0 post n v24l3 v24l4 → W p l e rm_X4_ahead s m args below meth c H locs 0 0 (Qi below args s B A (fun _ : Unit => wX4 k a μ) (fun r _ => post r) 0 0) (F0 m 24 ls []) := by
    intro n
    induction n with
    | zero => intro v24l3 v24l4 H locs ls hd hl hw; exact absurd hw (by simp [wpX4_ahead_L24])
    | succ n ih =>
      intro v24l3 v24l4 H locs ls hd hl hw
      rw [wpX4_ahead_L24] at hw
      have J94 : ∀ (v24l3 : Int32) (v24l4 : Int32) (v94s1 : Bool) (H : Heap) (locs : List Loc) (ls : Array Slot), Wd B A s.heap (wX4 k a μ) H locs → lv_has ls 6 [(0, .ref (a 0)), (1, .int p0), (2, .int ((mo_now μ) (20 + ((mo_now μ) (148 + p0).toNatClampNeg)).toNatClampNeg)), (4, .int v24l4)] → wpX4_ahead_J94 v24l3 v24l4 post (wpX4_ahead_L24 μ p0 post n) v94s1 → W p l e rm_X4_ahead s m args below meth c H locs 0 0 (Qi below args s B A (fun _ : Unit => wX4 k a μ) (fun r _ => post r) 0 0) (F0 m 94 ls [.int (bi v94s1), .int v24l3]) := by
        intro v24l3 v24l4 v94s1 H locs ls hd hl hw
        rw [wpX4_ahead_J94] at hw
        refine lv_iadd hx hb dX4_ahead_94 ?_
        refine lv_istore_n (lv' := [(3, .int (v24l3 + (bi v94s1))), (0, .ref (a 0)), (1, .int p0), (2, .int ((mo_now μ) (20 + ((mo_now μ) (148 + p0).toNatClampNeg)).toNatClampNeg)), (4, .int v24l4)]) hx hb dX4_ahead_95 rfl hl (by decide) rfl (fun ls hl => ?_)
        refine lv_iinc (v := v24l4 + 1) (lv' := [(4, .int (v24l4 + 1)), (3, .int (v24l3 + (bi v94s1))), (0, .ref (a 0)), (1, .int p0), (2, .int ((mo_now μ) (20 + ((mo_now μ) (148 + p0).toNatClampNeg)).toNatClampNeg))]) hx hb dX4_ahead_96 hl (k := 4) rfl rfl (by decide) rfl (fun ls hl => ?_)
        refine lv_goto (tgt := 24) hx hb dX4_ahead_99 (by decide) ?_
        exact ih (v24l3 + (bi v94s1)) (v24l4 + 1) _ _ _ hd (lv_sub hl [2, 3, 4, 1, 0] rfl) hw
      have J93 : ∀ (v24l3 : Int32) (v24l4 : Int32) (H : Heap) (locs : List Loc) (ls : Array Slot), Wd B A s.heap (wX4 k a μ) H locs → lv_has ls 6 [(0, .ref (a 0)), (1, .int p0), (2, .int ((mo_now μ) (20 + ((mo_now μ) (148 + p0).toNatClampNeg)).toNatClampNeg)), (4, .int v24l4)] → wpX4_ahead_J93 v24l3 v24l4 post (wpX4_ahead_L24 μ p0 post n)  → W p l e rm_X4_ahead s m args below meth c H locs 0 0 (Qi below args s B A (fun _ : Unit => wX4 k a μ) (fun r _ => post r) 0 0) (F0 m 93 ls [.int v24l3]) := by
        intro v24l3 v24l4 H locs ls hd hl hw
        rw [wpX4_ahead_J93] at hw
        refine lv_iconst (v := 0) hx hb dX4_ahead_93 (by decide) ?_
        exact J94 v24l3 v24l4 false _ _ _ hd (lv_sub hl [0, 1, 2, 3] rfl) hw
      have J89 : ∀ (v24l3 : Int32) (v24l4 : Int32) (H : Heap) (locs : List Loc) (ls : Array Slot), Wd B A s.heap (wX4 k a μ) H locs → lv_has ls 6 [(0, .ref (a 0)), (1, .int p0), (2, .int ((mo_now μ) (20 + ((mo_now μ) (148 + p0).toNatClampNeg)).toNatClampNeg)), (4, .int v24l4)] → wpX4_ahead_J89 v24l3 v24l4 post (wpX4_ahead_L24 μ p0 post n)  → W p l e rm_X4_ahead s m args below meth c H locs 0 0 (Qi below args s B A (fun _ : Unit => wX4 k a μ) (fun r _ => post r) 0 0) (F0 m 89 ls [.int v24l3]) := by
        intro v24l3 v24l4 H locs ls hd hl hw
        rw [wpX4_ahead_J89] at hw
        refine lv_iconst (v := 1) hx hb dX4_ahead_89 (by decide) ?_
        refine lv_goto (tgt := 94) hx hb dX4_ahead_90 (by decide) ?_
        exact J94 v24l3 v24l4 true _ _ _ hd (lv_sub hl [0, 1, 2, 3] rfl) hw
      refine lv_iload hx hb dX4_ahead_24 (lv_at hl 4 rfl) ?_
      refine lv_bipush (v := 64) hx hb dX4_ahead_26 (by decide) ?_
      refine lv_icmp_ge (tgt := 102) hx hb dX4_ahead_28 (by decide) (fun c25 => ?_) (fun c25 => ?_)
      · replace hw := hw.1 c25
        refine lv_iload_n hx hb dX4_ahead_102 rfl (lv_at hl 3 rfl) ?_
        exact r_i C hd dX4_ahead_103 () rfl hw
      · replace hw := hw.2 c25
        refine lv_aload_n hx hb dX4_ahead_31 rfl (lv_at hl 0 rfl) ?_
        refine lv_iload hx hb dX4_ahead_32 (lv_at hl 4 rfl) ?_
        refine v_i C hd hl M_X4_isAddress gX4_ahead_X4_isAddress (c_X4_isAddress l B k a μ v24l4 _ hw) ⟨rfl, rfl⟩ ⟨Nat.le_of_ble_eq_true rfl, Nat.le_of_ble_eq_true rfl⟩ (pm_all _) (fun _ => wX4 k a μ) (fun _ => (pm_all _).symm) 0 4 rfl rfl rfl rfl rfl (Nat.le_of_ble_eq_true rfl) dX4_ahead_34 ⟨Nat.le_of_ble_eq_true rfl, Nat.le_of_ble_eq_true rfl⟩ (fun r _ H locs hp hd => ?_)
        obtain ⟨b34, rfl, hw⟩ := hp
        refine lv_if_eq (tgt := 96) hx hb dX4_ahead_37 (by decide) (fun c30 => ?_) (fun c30 => ?_)
        · replace hw := hw.2 ((bi_eq _).mp c30)
          refine lv_iinc (v := v24l4 + 1) (lv' := [(4, .int (v24l4 + 1)), (0, .ref (a 0)), (1, .int p0), (2, .int ((mo_now μ) (20 + ((mo_now μ) (148 + p0).toNatClampNeg)).toNatClampNeg)), (3, .int v24l3)]) hx hb dX4_ahead_96 hl (k := 4) rfl rfl (by decide) rfl (fun ls hl => ?_)
          refine lv_goto (tgt := 24) hx hb dX4_ahead_99 (by decide) ?_
          exact ih v24l3 (v24l4 + 1) _ _ _ hd (lv_sub hl [1, 2, 3, 4, 0] rfl) hw
        · replace hw := hw.1 ((bi_ne _).mp c30)
          refine lv_aload_n hx hb dX4_ahead_40 rfl (lv_at hl 0 rfl) ?_
          refine lv_iload hx hb dX4_ahead_41 (lv_at hl 4 rfl) ?_
          refine v_i C hd hl M_X4_isLost gX4_ahead_X4_isLost (c_X4_isLost l B k a μ v24l4 _ hw) ⟨rfl, rfl⟩ ⟨Nat.le_of_ble_eq_true rfl, Nat.le_of_ble_eq_true rfl⟩ (pm_all _) (fun _ => wX4 k a μ) (fun _ => (pm_all _).symm) 0 4 rfl rfl rfl rfl rfl (Nat.le_of_ble_eq_true rfl) dX4_ahead_43 ⟨Nat.le_of_ble_eq_true rfl, Nat.le_of_ble_eq_true rfl⟩ (fun r _ H locs hp hd => ?_)
          obtain ⟨b43, rfl, hw⟩ := hp
          refine lv_if_ne (tgt := 96) hx hb dX4_ahead_46 (by decide) (fun c29 => ?_) (fun c29 => ?_)
          · replace hw := hw.1 ((bi_ne _).mp c29)
            refine lv_iinc (v := v24l4 + 1) (lv' := [(4, .int (v24l4 + 1)), (0, .ref (a 0)), (1, .int p0), (2, .int ((mo_now μ) (20 + ((mo_now μ) (148 + p0).toNatClampNeg)).toNatClampNeg)), (3, .int v24l3)]) hx hb dX4_ahead_96 hl (k := 4) rfl rfl (by decide) rfl (fun ls hl => ?_)
            refine lv_goto (tgt := 24) hx hb dX4_ahead_99 (by decide) ?_
            exact ih v24l3 (v24l4 + 1) _ _ _ hd (lv_sub hl [1, 2, 3, 4, 0] rfl) hw
          · replace hw := hw.2 ((bi_eq _).mp c29)
            refine lv_aload_n hx hb dX4_ahead_49 rfl (lv_at hl 0 rfl) ?_
            refine g_get (v := .ref (a 1)) C hd iX4_ahead_X4 0 4 rfl rfl 0 (by decide) (List.mem_of_getElem? (i := 1) rfl) rfl dX4_ahead_50 ?_
            refine lv_bipush (v := 20) hx hb dX4_ahead_53 (by decide) ?_
            refine lv_aload_n hx hb dX4_ahead_55 rfl (lv_at hl 0 rfl) ?_
            refine g_get (v := .ref (a 1)) C hd iX4_ahead_X4 0 4 rfl rfl 0 (by decide) (List.mem_of_getElem? (i := 1) rfl) rfl dX4_ahead_56 ?_
            refine lv_sipush (v := 148) hx hb dX4_ahead_59 (by decide) ?_
            refine lv_iload hx hb dX4_ahead_62 (lv_at hl 4 rfl) ?_
            refine lv_iadd hx hb dX4_ahead_64 ?_
            obtain ⟨h11, hw⟩ := hw
            refine g_ild (f := mo_now μ) C hd 1 rfl h11 dX4_ahead_65 ?_
            refine lv_iadd hx hb dX4_ahead_66 ?_
            obtain ⟨h12, hw⟩ := hw
            refine g_ild (f := mo_now μ) C hd 1 rfl h12 dX4_ahead_67 ?_
            refine lv_istore (lv' := [(5, .int ((mo_now μ) (20 + ((mo_now μ) (148 + v24l4).toNatClampNeg)).toNatClampNeg)), (0, .ref (a 0)), (1, .int p0), (2, .int ((mo_now μ) (20 + ((mo_now μ) (148 + p0).toNatClampNeg)).toNatClampNeg)), (3, .int v24l3), (4, .int v24l4)]) hx hb dX4_ahead_68 hl (by decide) rfl (fun ls hl => ?_)
            refine lv_iload_n hx hb dX4_ahead_70 rfl (lv_at hl 4 rfl) ?_
            refine lv_iload hx hb dX4_ahead_71 (lv_at hl 0 rfl) ?_
            refine lv_iload_n hx hb dX4_ahead_73 rfl (lv_at hl 3 rfl) ?_
            refine lv_icmp_gt (tgt := 89) hx hb dX4_ahead_74 (by decide) (fun c26 => ?_) (fun c26 => ?_)
            · replace hw := hw.1 c26
              exact J89 v24l3 v24l4 _ _ _ hd (lv_sub hl [1, 2, 3, 5] rfl) hw
            · replace hw := hw.2 c26
              refine lv_iload hx hb dX4_ahead_77 (lv_at hl 0 rfl) ?_
              refine lv_iload_n hx hb dX4_ahead_79 rfl (lv_at hl 3 rfl) ?_
              refine lv_icmp_ne (tgt := 93) hx hb dX4_ahead_80 (by decide) (fun c27 => ?_) (fun c27 => ?_)
              · replace hw := hw.2 c27
                exact J93 v24l3 v24l4 _ _ _ hd (lv_sub hl [1, 2, 3, 5] rfl) hw
              · replace hw := hw.1 c27
                refine lv_iload hx hb dX4_ahead_83 (lv_at hl 5 rfl) ?_
                refine lv_iload_n hx hb dX4_ahead_85 rfl (lv_at hl 2 rfl) ?_
                refine lv_icmp_ge (tgt := 93) hx hb dX4_ahead_86 (by decide) (fun c28 => ?_) (fun c28 => ?_)
                · replace hw := hw.1 c28
                  exact J93 v24l3 v24l4 _ _ _ hd (lv_sub hl [1, 2, 3, 5] rfl) hw
                · replace hw := hw.2 c28
                  exact J89 v24l3 v24l4 _ _ _ hd (lv_sub hl [1, 2, 3, 5] rfl) hw
  rw [wpX4_ahead] at hw
  refine lv_aload_n hx hb dX4_ahead_0 rfl (lv_at hl 0 rfl) ?_
  refine g_get (v := .ref (a 1)) C hd iX4_ahead_X4 0 4 rfl rfl 0 (by decide) (List.mem_of_getElem? (i := 1) rfl) rfl dX4_ahead_1 ?_
  refine lv_bipush (v := 20) hx hb dX4_ahead_4 (by decide) ?_
  refine lv_aload_n hx hb dX4_ahead_6 rfl (lv_at hl 0 rfl) ?_
  refine g_get (v := .ref (a 1)) C hd iX4_ahead_X4 0 4 rfl rfl 0 (by decide) (List.mem_of_getElem? (i := 1) rfl) rfl dX4_ahead_7 ?_
  refine lv_sipush (v := 148) hx hb dX4_ahead_10 (by decide) ?_
  refine lv_iload_n hx hb dX4_ahead_13 rfl (lv_at hl 1 rfl) ?_
  refine lv_iadd hx hb dX4_ahead_14 ?_
  obtain ⟨h13, hw⟩ := hw
  refine g_ild (f := mo_now μ) C hd 1 rfl h13 dX4_ahead_15 ?_
  refine lv_iadd hx hb dX4_ahead_16 ?_
  obtain ⟨h14, hw⟩ := hw
  refine g_ild (f := mo_now μ) C hd 1 rfl h14 dX4_ahead_17 ?_
  refine lv_istore_n (lv' := [(2, .int ((mo_now μ) (20 + ((mo_now μ) (148 + p0).toNatClampNeg)).toNatClampNeg)), (0, .ref (a 0)), (1, .int p0)]) hx hb dX4_ahead_18 rfl hl (by decide) rfl (fun ls hl => ?_)
  refine lv_iconst (v := 0) hx hb dX4_ahead_19 (by decide) ?_
  refine lv_istore_n (lv' := [(3, .int 0), (2, .int ((mo_now μ) (20 + ((mo_now μ) (148 + p0).toNatClampNeg)).toNatClampNeg)), (0, .ref (a 0)), (1, .int p0)]) hx hb dX4_ahead_20 rfl hl (by decide) rfl (fun ls hl => ?_)
  refine lv_iconst (v := 0) hx hb dX4_ahead_21 (by decide) ?_
  refine lv_istore (lv' := [(4, .int 0), (3, .int 0), (2, .int ((mo_now μ) (20 + ((mo_now μ) (148 + p0).toNatClampNeg)).toNatClampNeg)), (0, .ref (a 0)), (1, .int p0)]) hx hb dX4_ahead_22 hl (by decide) rfl (fun ls hl => ?_)
  obtain ⟨n, hw⟩ := hw
  exact L24 n 0 0 _ _ _ hd (lv_sub hl [3, 4, 2, 1, 0] rfl) hw
abbrev rm_X4_worst : Room := { frames := 3, cells := 0, slots := 0, locals := 68 }
theorem M_X4_worst : MI yX4_worst wsX4_worst cX4_worst 3 (some .int) 1 := ⟨⟨_, rfl⟩, by decide +kernel, by decide +kernel, by decide +kernel, by decide +kernel⟩
theorem iX4_worst_X4 : ∀ w ∈ wsX40, w ∈ wsX4_worst := fun _ h => List.mem_cons_of_mem _ (List.mem_append_right _ h)
def wpX4_worst_L9 (μ : MO) (p0 : Int32) (post : Int32 → Prop) : Nat → Int32 → Prop
  | 0, _ => False
  | n + 1, v9l2 => ((64 ≤ v9l2 → post (-5)) ∧ (¬ 64 ≤ v9l2 → wpX4_isAddress μ v9l2 (fun b17 => ((b17 = true → wpX4_isLost μ v9l2 (fun b25 => ((b25 = true → wpX4_worst_L9 μ p0 post n (v9l2 + 1)) ∧ (b25 = false → wpX4_ahead μ v9l2 (fun r33 => ((r33 = p0 → post v9l2) ∧ (¬ r33 = p0 → wpX4_worst_L9 μ p0 post n (v9l2 + 1)))))))) ∧ (b17 = false → wpX4_worst_L9 μ p0 post n (v9l2 + 1))))))
def wpX4_worst (μ : MO) (p0 : Int32) (post : Int32 → Prop) : Prop := ((0 ≤ p0 → ∃ n : Nat, wpX4_worst_L9 μ p0 post n 0) ∧ (¬ 0 ≤ p0 → post (-2)))
set_option maxHeartbeats 4000000 in
set_option maxRecDepth 100000 in
theorem c_X4_worst (l : Launch) (B : va_G) (k : KT) (a : Nat → Nat) (μ : MO) (p0 : Int32) (post : Int32 → Prop) (hw : wpX4_worst μ p0 post) : Cti l yX4_worst wsX4_worst rm_X4_worst 0 0 B k [.ref (a 0), .int p0] (wX4 k a μ) (fun _ : Unit => wX4 k a μ) (fun r _ => post r) := by
  refine Cti.of M_X4_worst (Nat.le_of_ble_eq_true rfl) ?_
  intro p e s m args below meth c A C hd ls hl
  have hx := C.1; have hb := C.2.1; have hml := C.2.2.1; have hts := C.2.2.2.2.1
  have hl : lv_has ls 3 [(0, .ref (a 0)), (1, .int p0)] := hl
  have L9 : ∀ (n : Nat), ∀ (v9l2 : Int32) (H : Heap) (locs : List Loc) (ls : Array Slot), Wd B A s.heap (wX4 k a μ) H locs → lv_has ls 3 [(0, .ref (a 0)), (1, .int p0), (2, .int v9l2)] → wpX4_worst_L9 μ p0 post n v9l2 → W p l e rm_X4_worst s m args below meth c H locs 0 0 (Qi below args s B A (fun _ : Unit => wX4 k a μ) (fun r _ => post r) 0 0) (F0 m 9 ls []) := by
    intro n
    induction n with
    | zero => intro v9l2 H locs ls hd hl hw; exact absurd hw (by simp [wpX4_worst_L9])
    | succ n ih =>
      intro v9l2 H locs ls hd hl hw
      rw [wpX4_worst_L9] at hw
      refine lv_iload_n hx hb dX4_worst_9 rfl (lv_at hl 2 rfl) ?_
      refine lv_bipush (v := 64) hx hb dX4_worst_10 (by decide) ?_
      refine lv_icmp_ge (tgt := 48) hx hb dX4_worst_12 (by decide) (fun c18 => ?_) (fun c18 => ?_)
      · replace hw := hw.1 c18
        refine lv_bipush (v := (-5)) hx hb dX4_worst_48 (by decide) ?_
        exact r_i C hd dX4_worst_50 () rfl hw
      · replace hw := hw.2 c18
        refine lv_aload_n hx hb dX4_worst_15 rfl (lv_at hl 0 rfl) ?_
        refine lv_iload_n hx hb dX4_worst_16 rfl (lv_at hl 2 rfl) ?_
        refine v_i C hd hl M_X4_isAddress gX4_worst_X4_isAddress (c_X4_isAddress l B k a μ v9l2 _ hw) ⟨rfl, rfl⟩ ⟨Nat.le_of_ble_eq_true rfl, Nat.le_of_ble_eq_true rfl⟩ (pm_all _) (fun _ => wX4 k a μ) (fun _ => (pm_all _).symm) 0 4 rfl rfl rfl rfl rfl (Nat.le_of_ble_eq_true rfl) dX4_worst_17 ⟨Nat.le_of_ble_eq_true rfl, Nat.le_of_ble_eq_true rfl⟩ (fun r _ H locs hp hd => ?_)
        obtain ⟨b17, rfl, hw⟩ := hp
        refine lv_if_eq (tgt := 42) hx hb dX4_worst_20 (by decide) (fun c21 => ?_) (fun c21 => ?_)
        · replace hw := hw.2 ((bi_eq _).mp c21)
          refine lv_iinc (v := v9l2 + 1) (lv' := [(2, .int (v9l2 + 1)), (0, .ref (a 0)), (1, .int p0)]) hx hb dX4_worst_42 hl (k := 2) rfl rfl (by decide) rfl (fun ls hl => ?_)
          refine lv_goto (tgt := 9) hx hb dX4_worst_45 (by decide) ?_
          exact ih (v9l2 + 1) _ _ _ hd (lv_sub hl [1, 2, 0] rfl) hw
        · replace hw := hw.1 ((bi_ne _).mp c21)
          refine lv_aload_n hx hb dX4_worst_23 rfl (lv_at hl 0 rfl) ?_
          refine lv_iload_n hx hb dX4_worst_24 rfl (lv_at hl 2 rfl) ?_
          refine v_i C hd hl M_X4_isLost gX4_worst_X4_isLost (c_X4_isLost l B k a μ v9l2 _ hw) ⟨rfl, rfl⟩ ⟨Nat.le_of_ble_eq_true rfl, Nat.le_of_ble_eq_true rfl⟩ (pm_all _) (fun _ => wX4 k a μ) (fun _ => (pm_all _).symm) 0 4 rfl rfl rfl rfl rfl (Nat.le_of_ble_eq_true rfl) dX4_worst_25 ⟨Nat.le_of_ble_eq_true rfl, Nat.le_of_ble_eq_true rfl⟩ (fun r _ H locs hp hd => ?_)
          obtain ⟨b25, rfl, hw⟩ := hp
          refine lv_if_ne (tgt := 42) hx hb dX4_worst_28 (by decide) (fun c20 => ?_) (fun c20 => ?_)
          · replace hw := hw.1 ((bi_ne _).mp c20)
            refine lv_iinc (v := v9l2 + 1) (lv' := [(2, .int (v9l2 + 1)), (0, .ref (a 0)), (1, .int p0)]) hx hb dX4_worst_42 hl (k := 2) rfl rfl (by decide) rfl (fun ls hl => ?_)
            refine lv_goto (tgt := 9) hx hb dX4_worst_45 (by decide) ?_
            exact ih (v9l2 + 1) _ _ _ hd (lv_sub hl [1, 2, 0] rfl) hw
          · replace hw := hw.2 ((bi_eq _).mp c20)
            refine lv_aload_n hx hb dX4_worst_31 rfl (lv_at hl 0 rfl) ?_
            refine lv_iload_n hx hb dX4_worst_32 rfl (lv_at hl 2 rfl) ?_
            refine v_i C hd hl M_X4_ahead gX4_worst_X4_ahead (c_X4_ahead l B k a μ v9l2 _ hw) ⟨rfl, rfl⟩ ⟨Nat.le_of_ble_eq_true rfl, Nat.le_of_ble_eq_true rfl⟩ (pm_all _) (fun _ => wX4 k a μ) (fun _ => (pm_all _).symm) 0 4 rfl rfl rfl rfl rfl (Nat.le_of_ble_eq_true rfl) dX4_worst_33 ⟨Nat.le_of_ble_eq_true rfl, Nat.le_of_ble_eq_true rfl⟩ (fun r33 _ H locs hw hd => ?_)
            refine lv_iload_n hx hb dX4_worst_36 rfl (lv_at hl 1 rfl) ?_
            refine lv_icmp_ne (tgt := 42) hx hb dX4_worst_37 (by decide) (fun c19 => ?_) (fun c19 => ?_)
            · replace hw := hw.2 c19
              refine lv_iinc (v := v9l2 + 1) (lv' := [(2, .int (v9l2 + 1)), (0, .ref (a 0)), (1, .int p0)]) hx hb dX4_worst_42 hl (k := 2) rfl rfl (by decide) rfl (fun ls hl => ?_)
              refine lv_goto (tgt := 9) hx hb dX4_worst_45 (by decide) ?_
              exact ih (v9l2 + 1) _ _ _ hd (lv_sub hl [1, 2, 0] rfl) hw
            · replace hw := hw.1 c19
              refine lv_iload_n hx hb dX4_worst_40 rfl (lv_at hl 2 rfl) ?_
              exact r_i C hd dX4_worst_41 () rfl hw
  rw [wpX4_worst] at hw
  refine lv_iload_n hx hb dX4_worst_0 rfl (lv_at hl 1 rfl) ?_
  refine lv_if_ge (tgt := 7) hx hb dX4_worst_1 (by decide) (fun c22 => ?_) (fun c22 => ?_)
  · replace hw := hw.1 c22
    refine lv_iconst (v := 0) hx hb dX4_worst_7 (by decide) ?_
    refine lv_istore_n (lv' := [(2, .int 0), (0, .ref (a 0)), (1, .int p0)]) hx hb dX4_worst_8 rfl hl (by decide) rfl (fun ls hl => ?_)
    obtain ⟨n, hw⟩ := hw
    exact L9 n 0 _ _ _ hd (lv_sub hl [1, 2, 0] rfl) hw
  · replace hw := hw.2 c22
    refine lv_bipush (v := (-2)) hx hb dX4_worst_4 (by decide) ?_
    exact r_i C hd dX4_worst_6 () rfl hw
abbrev rm_X4_count : Room := { frames := 4, cells := 0, slots := 0, locals := 86 }
theorem M_X4_count : MI yX4_count wsX4_count cX4_count 5 (some .int) 1 := ⟨⟨_, rfl⟩, by decide +kernel, by decide +kernel, by decide +kernel, by decide +kernel⟩
theorem iX4_count_X4 : ∀ w ∈ wsX40, w ∈ wsX4_count := fun _ h => List.mem_cons_of_mem _ (List.mem_append_right _ h)
def wpX4_count_J158 (v66l2 : Int32) (v66l3 : Int32) (post : Int32 → Prop) (κ : Int32 → Int32 → Prop) (v158s1 : Bool) : Prop := κ (v66l2 + (bi v158s1)) (v66l3 + 1)
def wpX4_count_J157 (v66l2 : Int32) (v66l3 : Int32) (post : Int32 → Prop) (κ : Int32 → Int32 → Prop)  : Prop := wpX4_count_J158 v66l2 v66l3 post κ false
def wpX4_count_J153 (v66l2 : Int32) (v66l3 : Int32) (post : Int32 → Prop) (κ : Int32 → Int32 → Prop)  : Prop := wpX4_count_J158 v66l2 v66l3 post κ true
def wpX4_count_J140 (μ : MO) (p0 : Int32) (v66l2 : Int32) (v66l3 : Int32) (post : Int32 → Prop) (κ : Int32 → Int32 → Prop)  : Prop := ((p0 = 4 → wpX4_isFree μ v66l3 (fun b147 => ((b147 = true → wpX4_count_J153 v66l2 v66l3 post κ ) ∧ (b147 = false → wpX4_count_J157 v66l2 v66l3 post κ )))) ∧ (¬ p0 = 4 → wpX4_count_J157 v66l2 v66l3 post κ ))
def wpX4_count_J108 (μ : MO) (p0 : Int32) (v66l2 : Int32) (v66l3 : Int32) (b74 : Bool) (post : Int32 → Prop) (κ : Int32 → Int32 → Prop)  : Prop := ((p0 = 3 → ((b74 = true → wpX4_isLost μ v66l3 (fun b120 => ((b120 = true → wpX4_count_J140 μ p0 v66l2 v66l3 post κ ) ∧ (b120 = false → (vp_in (148 + v66l3) 276 ∧ ((((mo_now μ) (148 + v66l3).toNatClampNeg) = v66l3 → wpX4_count_J140 μ p0 v66l2 v66l3 post κ ) ∧ (¬ ((mo_now μ) (148 + v66l3).toNatClampNeg) = v66l3 → wpX4_count_J153 v66l2 v66l3 post κ ))))))) ∧ (b74 = false → wpX4_count_J140 μ p0 v66l2 v66l3 post κ ))) ∧ (¬ p0 = 3 → wpX4_count_J140 μ p0 v66l2 v66l3 post κ ))
def wpX4_count_J90 (μ : MO) (p0 : Int32) (v66l2 : Int32) (v66l3 : Int32) (b74 : Bool) (post : Int32 → Prop) (κ : Int32 → Int32 → Prop)  : Prop := ((p0 = 2 → ((b74 = true → wpX4_isLost μ v66l3 (fun b102 => ((b102 = true → wpX4_count_J153 v66l2 v66l3 post κ ) ∧ (b102 = false → wpX4_count_J108 μ p0 v66l2 v66l3 b74 post κ )))) ∧ (b74 = false → wpX4_count_J108 μ p0 v66l2 v66l3 b74 post κ ))) ∧ (¬ p0 = 2 → wpX4_count_J108 μ p0 v66l2 v66l3 b74 post κ ))
def wpX4_count_L66 (μ : MO) (p0 : Int32) (post : Int32 → Prop) : Nat → Int32 → Int32 → Prop
  | 0, _, _ => False
  | n + 1, v66l2, v66l3 => ((64 ≤ v66l3 → post v66l2) ∧ (¬ 64 ≤ v66l3 → wpX4_isAddress μ v66l3 (fun b74 => ((p0 = 1 → ((b74 = true → wpX4_count_J153 v66l2 v66l3 post (wpX4_count_L66 μ p0 post n) ) ∧ (b74 = false → wpX4_count_J90 μ p0 v66l2 v66l3 b74 post (wpX4_count_L66 μ p0 post n) ))) ∧ (¬ p0 = 1 → wpX4_count_J90 μ p0 v66l2 v66l3 b74 post (wpX4_count_L66 μ p0 post n) )))))
def wpX4_count (μ : MO) (p0 : Int32) (post : Int32 → Prop) : Prop := wpX4_in p0 0 13 (fun b4 => ((b4 = true → ((p0 = 0 → (vp_in 0 276 ∧ post ((mo_now μ) (0 : Int32).toNatClampNeg))) ∧ (¬ p0 = 0 → ((p0 ≤ 11 → ((p0 ≤ 4 → ∃ n : Nat, wpX4_count_L66 μ p0 post n 0 0) ∧ (¬ p0 ≤ 4 → (vp_in (p0 - 4) 276 ∧ post ((mo_now μ) (p0 - 4).toNatClampNeg))))) ∧ (¬ p0 ≤ 11 → ((p0 = 12 → post (mo_kept μ)) ∧ (¬ p0 = 12 → post (mo_length μ)))))))) ∧ (b4 = false → post (-2))))
set_option maxHeartbeats 4000000 in
set_option maxRecDepth 100000 in
theorem c_X4_count (l : Launch) (B : va_G) (k : KT) (a : Nat → Nat) (μ : MO) (p0 : Int32) (post : Int32 → Prop) (hw : wpX4_count μ p0 post) : Cti l yX4_count wsX4_count rm_X4_count 0 0 B k [.ref (a 0), .int p0] (wX4 k a μ) (fun _ : Unit => wX4 k a μ) (fun r _ => post r) := by
  refine Cti.of M_X4_count (Nat.le_of_ble_eq_true rfl) ?_
  intro p e s m args below meth c A C hd ls hl
  have hx := C.1; have hb := C.2.1; have hml := C.2.2.1; have hts := C.2.2.2.2.1
  have hl : lv_has ls 5 [(0, .ref (a 0)), (1, .int p0)] := hl
  have L66 : ∀ (n : Nat), ∀ (v66l2 : Int32) (v66l3 : Int32) (H : Heap) (locs : List Loc) (ls : Array Slot), Wd B A s.heap (wX4 k a μ) H locs → lv_has ls 5 [(0, .ref (a 0)), (1, .int p0), (2, .int v66l2), (3, .int v66l3)] → wpX4_count_L66 μ p0 post n v66l2 v66l3 → W p l e rm_X4_count s m args below meth c H locs 0 0 (Qi below args s B A (fun _ : Unit => wX4 k a μ) (fun r _ => post r) 0 0) (F0 m 66 ls []) := by
    intro n
    induction n with
    | zero => intro v66l2 v66l3 H locs ls hd hl hw; exact absurd hw (by simp [wpX4_count_L66])
    | succ n ih =>
      intro v66l2 v66l3 H locs ls hd hl hw
      rw [wpX4_count_L66] at hw
      have J158 : ∀ (v66l2 : Int32) (v66l3 : Int32) (v158s1 : Bool) (H : Heap) (locs : List Loc) (ls : Array Slot), Wd B A s.heap (wX4 k a μ) H locs → lv_has ls 5 [(0, .ref (a 0)), (1, .int p0), (3, .int v66l3)] → wpX4_count_J158 v66l2 v66l3 post (wpX4_count_L66 μ p0 post n) v158s1 → W p l e rm_X4_count s m args below meth c H locs 0 0 (Qi below args s B A (fun _ : Unit => wX4 k a μ) (fun r _ => post r) 0 0) (F0 m 158 ls [.int (bi v158s1), .int v66l2]) := by
        intro v66l2 v66l3 v158s1 H locs ls hd hl hw
        rw [wpX4_count_J158] at hw
        refine lv_iadd hx hb dX4_count_158 ?_
        refine lv_istore_n (lv' := [(2, .int (v66l2 + (bi v158s1))), (0, .ref (a 0)), (1, .int p0), (3, .int v66l3)]) hx hb dX4_count_159 rfl hl (by decide) rfl (fun ls hl => ?_)
        refine lv_iinc (v := v66l3 + 1) (lv' := [(3, .int (v66l3 + 1)), (2, .int (v66l2 + (bi v158s1))), (0, .ref (a 0)), (1, .int p0)]) hx hb dX4_count_160 hl (k := 3) rfl rfl (by decide) rfl (fun ls hl => ?_)
        refine lv_goto (tgt := 66) hx hb dX4_count_163 (by decide) ?_
        exact ih (v66l2 + (bi v158s1)) (v66l3 + 1) _ _ _ hd (lv_sub hl [2, 3, 1, 0] rfl) hw
      have J157 : ∀ (v66l2 : Int32) (v66l3 : Int32) (H : Heap) (locs : List Loc) (ls : Array Slot), Wd B A s.heap (wX4 k a μ) H locs → lv_has ls 5 [(0, .ref (a 0)), (1, .int p0), (3, .int v66l3)] → wpX4_count_J157 v66l2 v66l3 post (wpX4_count_L66 μ p0 post n)  → W p l e rm_X4_count s m args below meth c H locs 0 0 (Qi below args s B A (fun _ : Unit => wX4 k a μ) (fun r _ => post r) 0 0) (F0 m 157 ls [.int v66l2]) := by
        intro v66l2 v66l3 H locs ls hd hl hw
        rw [wpX4_count_J157] at hw
        refine lv_iconst (v := 0) hx hb dX4_count_157 (by decide) ?_
        exact J158 v66l2 v66l3 false _ _ _ hd (lv_sub hl [0, 1, 2] rfl) hw
      have J153 : ∀ (v66l2 : Int32) (v66l3 : Int32) (H : Heap) (locs : List Loc) (ls : Array Slot), Wd B A s.heap (wX4 k a μ) H locs → lv_has ls 5 [(0, .ref (a 0)), (1, .int p0), (3, .int v66l3)] → wpX4_count_J153 v66l2 v66l3 post (wpX4_count_L66 μ p0 post n)  → W p l e rm_X4_count s m args below meth c H locs 0 0 (Qi below args s B A (fun _ : Unit => wX4 k a μ) (fun r _ => post r) 0 0) (F0 m 153 ls [.int v66l2]) := by
        intro v66l2 v66l3 H locs ls hd hl hw
        rw [wpX4_count_J153] at hw
        refine lv_iconst (v := 1) hx hb dX4_count_153 (by decide) ?_
        refine lv_goto (tgt := 158) hx hb dX4_count_154 (by decide) ?_
        exact J158 v66l2 v66l3 true _ _ _ hd (lv_sub hl [0, 1, 2] rfl) hw
      have J140 : ∀ (v66l2 : Int32) (v66l3 : Int32) (H : Heap) (locs : List Loc) (ls : Array Slot), Wd B A s.heap (wX4 k a μ) H locs → lv_has ls 5 [(0, .ref (a 0)), (1, .int p0), (3, .int v66l3)] → wpX4_count_J140 μ p0 v66l2 v66l3 post (wpX4_count_L66 μ p0 post n)  → W p l e rm_X4_count s m args below meth c H locs 0 0 (Qi below args s B A (fun _ : Unit => wX4 k a μ) (fun r _ => post r) 0 0) (F0 m 140 ls [.int v66l2]) := by
        intro v66l2 v66l3 H locs ls hd hl hw
        rw [wpX4_count_J140] at hw
        refine lv_iload_n hx hb dX4_count_140 rfl (lv_at hl 1 rfl) ?_
        refine lv_iconst (v := 4) hx hb dX4_count_141 (by decide) ?_
        refine lv_icmp_ne (tgt := 157) hx hb dX4_count_142 (by decide) (fun c54 => ?_) (fun c54 => ?_)
        · replace hw := hw.2 c54
          exact J157 v66l2 v66l3 _ _ _ hd (lv_sub hl [0, 1, 2] rfl) hw
        · replace hw := hw.1 c54
          refine lv_aload_n hx hb dX4_count_145 rfl (lv_at hl 0 rfl) ?_
          refine lv_iload_n hx hb dX4_count_146 rfl (lv_at hl 2 rfl) ?_
          refine v_i C hd hl M_X4_isFree gX4_count_X4_isFree (c_X4_isFree l B k a μ v66l3 _ hw) ⟨rfl, rfl⟩ ⟨Nat.le_of_ble_eq_true rfl, Nat.le_of_ble_eq_true rfl⟩ (pm_all _) (fun _ => wX4 k a μ) (fun _ => (pm_all _).symm) 0 4 rfl rfl rfl rfl rfl (Nat.le_of_ble_eq_true rfl) dX4_count_147 ⟨Nat.le_of_ble_eq_true rfl, Nat.le_of_ble_eq_true rfl⟩ (fun r _ H locs hp hd => ?_)
          obtain ⟨b147, rfl, hw⟩ := hp
          refine lv_if_eq (tgt := 157) hx hb dX4_count_150 (by decide) (fun c55 => ?_) (fun c55 => ?_)
          · replace hw := hw.2 ((bi_eq _).mp c55)
            exact J157 v66l2 v66l3 _ _ _ hd (lv_sub hl [0, 1, 2] rfl) hw
          · replace hw := hw.1 ((bi_ne _).mp c55)
            exact J153 v66l2 v66l3 _ _ _ hd (lv_sub hl [0, 1, 2] rfl) hw
      have J108 : ∀ (v66l2 : Int32) (v66l3 : Int32) (b74 : Bool) (H : Heap) (locs : List Loc) (ls : Array Slot), Wd B A s.heap (wX4 k a μ) H locs → lv_has ls 5 [(0, .ref (a 0)), (1, .int p0), (3, .int v66l3), (4, .int (bi b74))] → wpX4_count_J108 μ p0 v66l2 v66l3 b74 post (wpX4_count_L66 μ p0 post n)  → W p l e rm_X4_count s m args below meth c H locs 0 0 (Qi below args s B A (fun _ : Unit => wX4 k a μ) (fun r _ => post r) 0 0) (F0 m 108 ls [.int v66l2]) := by
        intro v66l2 v66l3 b74 H locs ls hd hl hw
        rw [wpX4_count_J108] at hw
        refine lv_iload_n hx hb dX4_count_108 rfl (lv_at hl 1 rfl) ?_
        refine lv_iconst (v := 3) hx hb dX4_count_109 (by decide) ?_
        refine lv_icmp_ne (tgt := 140) hx hb dX4_count_110 (by decide) (fun c56 => ?_) (fun c56 => ?_)
        · replace hw := hw.2 c56
          exact J140 v66l2 v66l3 _ _ _ hd (lv_sub hl [0, 1, 2] rfl) hw
        · replace hw := hw.1 c56
          refine lv_iload hx hb dX4_count_113 (lv_at hl 3 rfl) ?_
          refine lv_if_eq (tgt := 140) hx hb dX4_count_115 (by decide) (fun c59 => ?_) (fun c59 => ?_)
          · replace hw := hw.2 ((bi_eq _).mp c59)
            exact J140 v66l2 v66l3 _ _ _ hd (lv_sub hl [0, 1, 2] rfl) hw
          · replace hw := hw.1 ((bi_ne _).mp c59)
            refine lv_aload_n hx hb dX4_count_118 rfl (lv_at hl 0 rfl) ?_
            refine lv_iload_n hx hb dX4_count_119 rfl (lv_at hl 2 rfl) ?_
            refine v_i C hd hl M_X4_isLost gX4_count_X4_isLost (c_X4_isLost l B k a μ v66l3 _ hw) ⟨rfl, rfl⟩ ⟨Nat.le_of_ble_eq_true rfl, Nat.le_of_ble_eq_true rfl⟩ (pm_all _) (fun _ => wX4 k a μ) (fun _ => (pm_all _).symm) 0 4 rfl rfl rfl rfl rfl (Nat.le_of_ble_eq_true rfl) dX4_count_120 ⟨Nat.le_of_ble_eq_true rfl, Nat.le_of_ble_eq_true rfl⟩ (fun r _ H locs hp hd => ?_)
            obtain ⟨b120, rfl, hw⟩ := hp
            refine lv_if_ne (tgt := 140) hx hb dX4_count_123 (by decide) (fun c58 => ?_) (fun c58 => ?_)
            · replace hw := hw.1 ((bi_ne _).mp c58)
              exact J140 v66l2 v66l3 _ _ _ hd (lv_sub hl [0, 1, 2] rfl) hw
            · replace hw := hw.2 ((bi_eq _).mp c58)
              refine lv_aload_n hx hb dX4_count_126 rfl (lv_at hl 0 rfl) ?_
              refine g_get (v := .ref (a 1)) C hd iX4_count_X4 0 4 rfl rfl 0 (by decide) (List.mem_of_getElem? (i := 1) rfl) rfl dX4_count_127 ?_
              refine lv_sipush (v := 148) hx hb dX4_count_130 (by decide) ?_
              refine lv_iload_n hx hb dX4_count_133 rfl (lv_at hl 2 rfl) ?_
              refine lv_iadd hx hb dX4_count_134 ?_
              obtain ⟨h7, hw⟩ := hw
              refine g_ild (f := mo_now μ) C hd 1 rfl h7 dX4_count_135 ?_
              refine lv_iload_n hx hb dX4_count_136 rfl (lv_at hl 2 rfl) ?_
              refine lv_icmp_ne (tgt := 153) hx hb dX4_count_137 (by decide) (fun c57 => ?_) (fun c57 => ?_)
              · replace hw := hw.2 c57
                exact J153 v66l2 v66l3 _ _ _ hd (lv_sub hl [0, 1, 2] rfl) hw
              · replace hw := hw.1 c57
                exact J140 v66l2 v66l3 _ _ _ hd (lv_sub hl [0, 1, 2] rfl) hw
      have J90 : ∀ (v66l2 : Int32) (v66l3 : Int32) (b74 : Bool) (H : Heap) (locs : List Loc) (ls : Array Slot), Wd B A s.heap (wX4 k a μ) H locs → lv_has ls 5 [(0, .ref (a 0)), (1, .int p0), (3, .int v66l3), (4, .int (bi b74))] → wpX4_count_J90 μ p0 v66l2 v66l3 b74 post (wpX4_count_L66 μ p0 post n)  → W p l e rm_X4_count s m args below meth c H locs 0 0 (Qi below args s B A (fun _ : Unit => wX4 k a μ) (fun r _ => post r) 0 0) (F0 m 90 ls [.int v66l2]) := by
        intro v66l2 v66l3 b74 H locs ls hd hl hw
        rw [wpX4_count_J90] at hw
        refine lv_iload_n hx hb dX4_count_90 rfl (lv_at hl 1 rfl) ?_
        refine lv_iconst (v := 2) hx hb dX4_count_91 (by decide) ?_
        refine lv_icmp_ne (tgt := 108) hx hb dX4_count_92 (by decide) (fun c60 => ?_) (fun c60 => ?_)
        · replace hw := hw.2 c60
          exact J108 v66l2 v66l3 b74 _ _ _ hd (lv_sub hl [0, 1, 2, 3] rfl) hw
        · replace hw := hw.1 c60
          refine lv_iload hx hb dX4_count_95 (lv_at hl 3 rfl) ?_
          refine lv_if_eq (tgt := 108) hx hb dX4_count_97 (by decide) (fun c62 => ?_) (fun c62 => ?_)
          · replace hw := hw.2 ((bi_eq _).mp c62)
            exact J108 v66l2 v66l3 b74 _ _ _ hd (lv_sub hl [0, 1, 2, 3] rfl) hw
          · replace hw := hw.1 ((bi_ne _).mp c62)
            refine lv_aload_n hx hb dX4_count_100 rfl (lv_at hl 0 rfl) ?_
            refine lv_iload_n hx hb dX4_count_101 rfl (lv_at hl 2 rfl) ?_
            refine v_i C hd hl M_X4_isLost gX4_count_X4_isLost (c_X4_isLost l B k a μ v66l3 _ hw) ⟨rfl, rfl⟩ ⟨Nat.le_of_ble_eq_true rfl, Nat.le_of_ble_eq_true rfl⟩ (pm_all _) (fun _ => wX4 k a μ) (fun _ => (pm_all _).symm) 0 4 rfl rfl rfl rfl rfl (Nat.le_of_ble_eq_true rfl) dX4_count_102 ⟨Nat.le_of_ble_eq_true rfl, Nat.le_of_ble_eq_true rfl⟩ (fun r _ H locs hp hd => ?_)
            obtain ⟨b102, rfl, hw⟩ := hp
            refine lv_if_ne (tgt := 153) hx hb dX4_count_105 (by decide) (fun c61 => ?_) (fun c61 => ?_)
            · replace hw := hw.1 ((bi_ne _).mp c61)
              exact J153 v66l2 v66l3 _ _ _ hd (lv_sub hl [0, 1, 2] rfl) hw
            · replace hw := hw.2 ((bi_eq _).mp c61)
              exact J108 v66l2 v66l3 b74 _ _ _ hd (lv_sub hl [0, 1, 2, 3] rfl) hw
      refine lv_iload_n hx hb dX4_count_66 rfl (lv_at hl 3 rfl) ?_
      refine lv_bipush (v := 64) hx hb dX4_count_67 (by decide) ?_
      refine lv_icmp_ge (tgt := 166) hx hb dX4_count_69 (by decide) (fun c63 => ?_) (fun c63 => ?_)
      · replace hw := hw.1 c63
        refine lv_iload_n hx hb dX4_count_166 rfl (lv_at hl 2 rfl) ?_
        exact r_i C hd dX4_count_167 () rfl hw
      · replace hw := hw.2 c63
        refine lv_aload_n hx hb dX4_count_72 rfl (lv_at hl 0 rfl) ?_
        refine lv_iload_n hx hb dX4_count_73 rfl (lv_at hl 3 rfl) ?_
        refine v_i C hd hl M_X4_isAddress gX4_count_X4_isAddress (c_X4_isAddress l B k a μ v66l3 _ hw) ⟨rfl, rfl⟩ ⟨Nat.le_of_ble_eq_true rfl, Nat.le_of_ble_eq_true rfl⟩ (pm_all _) (fun _ => wX4 k a μ) (fun _ => (pm_all _).symm) 0 4 rfl rfl rfl rfl rfl (Nat.le_of_ble_eq_true rfl) dX4_count_74 ⟨Nat.le_of_ble_eq_true rfl, Nat.le_of_ble_eq_true rfl⟩ (fun r _ H locs hp hd => ?_)
        obtain ⟨b74, rfl, hw⟩ := hp
        refine lv_istore (lv' := [(4, .int (bi b74)), (0, .ref (a 0)), (1, .int p0), (2, .int v66l2), (3, .int v66l3)]) hx hb dX4_count_77 hl (by decide) rfl (fun ls hl => ?_)
        refine lv_iload_n hx hb dX4_count_79 rfl (lv_at hl 3 rfl) ?_
        refine lv_iload_n hx hb dX4_count_80 rfl (lv_at hl 2 rfl) ?_
        refine lv_iconst (v := 1) hx hb dX4_count_81 (by decide) ?_
        refine lv_icmp_ne (tgt := 90) hx hb dX4_count_82 (by decide) (fun c64 => ?_) (fun c64 => ?_)
        · replace hw := hw.2 c64
          exact J90 v66l2 v66l3 b74 _ _ _ hd (lv_sub hl [1, 2, 4, 0] rfl) hw
        · replace hw := hw.1 c64
          refine lv_iload hx hb dX4_count_85 (lv_at hl 0 rfl) ?_
          refine lv_if_ne (tgt := 153) hx hb dX4_count_87 (by decide) (fun c65 => ?_) (fun c65 => ?_)
          · replace hw := hw.1 ((bi_ne _).mp c65)
            exact J153 v66l2 v66l3 _ _ _ hd (lv_sub hl [1, 2, 4] rfl) hw
          · replace hw := hw.2 ((bi_eq _).mp c65)
            exact J90 v66l2 v66l3 b74 _ _ _ hd (lv_sub hl [1, 2, 4, 0] rfl) hw
  rw [wpX4_count] at hw
  refine lv_iload_n hx hb dX4_count_0 rfl (lv_at hl 1 rfl) ?_
  refine lv_iconst (v := 0) hx hb dX4_count_1 (by decide) ?_
  refine lv_bipush (v := 13) hx hb dX4_count_2 (by decide) ?_
  refine s_i C hd hl M_X4_in gX4_count_X4_in rfl (c_X4_in l B k p0 0 13 _ hw) ⟨rfl, rfl⟩ ⟨Nat.le_of_ble_eq_true rfl, Nat.le_of_ble_eq_true rfl⟩ (pm_non _) (fun _ => wX4 k a μ) (fun _ => List.Perm.refl _) rfl rfl (Nat.le_of_ble_eq_true rfl) dX4_count_4 ⟨Nat.le_of_ble_eq_true rfl, Nat.le_of_ble_eq_true rfl⟩ (fun r _ H locs hp hd => ?_)
  obtain ⟨b4, rfl, hw⟩ := hp
  refine lv_if_ne (tgt := 13) hx hb dX4_count_7 (by decide) (fun c70 => ?_) (fun c70 => ?_)
  · replace hw := hw.1 ((bi_ne _).mp c70)
    refine lv_iload_n hx hb dX4_count_13 rfl (lv_at hl 1 rfl) ?_
    refine lv_if_ne (tgt := 24) hx hb dX4_count_14 (by decide) (fun c66 => ?_) (fun c66 => ?_)
    · replace hw := hw.2 c66
      refine lv_iload_n hx hb dX4_count_24 rfl (lv_at hl 1 rfl) ?_
      refine lv_bipush (v := 11) hx hb dX4_count_25 (by decide) ?_
      refine lv_icmp_le (tgt := 48) hx hb dX4_count_27 (by decide) (fun c67 => ?_) (fun c67 => ?_)
      · replace hw := hw.1 c67
        refine lv_iload_n hx hb dX4_count_48 rfl (lv_at hl 1 rfl) ?_
        refine lv_iconst (v := 4) hx hb dX4_count_49 (by decide) ?_
        refine lv_icmp_le (tgt := 62) hx hb dX4_count_50 (by decide) (fun c68 => ?_) (fun c68 => ?_)
        · replace hw := hw.1 c68
          refine lv_iconst (v := 0) hx hb dX4_count_62 (by decide) ?_
          refine lv_istore_n (lv' := [(2, .int 0), (0, .ref (a 0)), (1, .int p0)]) hx hb dX4_count_63 rfl hl (by decide) rfl (fun ls hl => ?_)
          refine lv_iconst (v := 0) hx hb dX4_count_64 (by decide) ?_
          refine lv_istore_n (lv' := [(3, .int 0), (2, .int 0), (0, .ref (a 0)), (1, .int p0)]) hx hb dX4_count_65 rfl hl (by decide) rfl (fun ls hl => ?_)
          obtain ⟨n, hw⟩ := hw
          exact L66 n 0 0 _ _ _ hd (lv_sub hl [2, 3, 1, 0] rfl) hw
        · replace hw := hw.2 c68
          refine lv_aload_n hx hb dX4_count_53 rfl (lv_at hl 0 rfl) ?_
          refine g_get (v := .ref (a 1)) C hd iX4_count_X4 0 4 rfl rfl 0 (by decide) (List.mem_of_getElem? (i := 1) rfl) rfl dX4_count_54 ?_
          refine lv_iload_n hx hb dX4_count_57 rfl (lv_at hl 1 rfl) ?_
          refine lv_iconst (v := 4) hx hb dX4_count_58 (by decide) ?_
          refine lv_isub hx hb dX4_count_59 ?_
          obtain ⟨h8, hw⟩ := hw
          refine g_ild (f := mo_now μ) C hd 1 rfl h8 dX4_count_60 ?_
          exact r_i C hd dX4_count_61 () rfl hw
      · replace hw := hw.2 c67
        refine lv_iload_n hx hb dX4_count_30 rfl (lv_at hl 1 rfl) ?_
        refine lv_bipush (v := 12) hx hb dX4_count_31 (by decide) ?_
        refine lv_icmp_ne (tgt := 43) hx hb dX4_count_33 (by decide) (fun c69 => ?_) (fun c69 => ?_)
        · replace hw := hw.2 c69
          refine lv_aload_n hx hb dX4_count_43 rfl (lv_at hl 0 rfl) ?_
          refine g_get (v := .int (mo_length μ)) C hd iX4_count_X4 0 4 rfl rfl 7 (by decide) (List.mem_of_getElem? (i := 3) rfl) rfl dX4_count_44 ?_
          exact r_i C hd dX4_count_47 () rfl hw
        · replace hw := hw.1 c69
          refine lv_aload_n hx hb dX4_count_36 rfl (lv_at hl 0 rfl) ?_
          refine g_get (v := .int (mo_kept μ)) C hd iX4_count_X4 0 4 rfl rfl 6 (by decide) (List.mem_of_getElem? (i := 2) rfl) rfl dX4_count_37 ?_
          refine lv_goto (tgt := 47) hx hb dX4_count_40 (by decide) ?_
          exact r_i C hd dX4_count_47 () rfl hw
    · replace hw := hw.1 c66
      refine lv_aload_n hx hb dX4_count_17 rfl (lv_at hl 0 rfl) ?_
      refine g_get (v := .ref (a 1)) C hd iX4_count_X4 0 4 rfl rfl 0 (by decide) (List.mem_of_getElem? (i := 1) rfl) rfl dX4_count_18 ?_
      refine lv_iconst (v := 0) hx hb dX4_count_21 (by decide) ?_
      obtain ⟨h9, hw⟩ := hw
      refine g_ild (f := mo_now μ) C hd 1 rfl h9 dX4_count_22 ?_
      exact r_i C hd dX4_count_23 () rfl hw
  · replace hw := hw.2 ((bi_eq _).mp c70)
    refine lv_bipush (v := (-2)) hx hb dX4_count_10 (by decide) ?_
    exact r_i C hd dX4_count_12 () rfl hw
