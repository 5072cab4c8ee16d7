/-! THE CLAIM OUT OF ONE WALK OF THE LAW'S BODY. Your part is whole_start (and what it stands on); all else here is the same for every law, but numbers. -/
def R_law : String := "LentSectorsLaw"
def lw_P (b : Addr) (xs : List Int32) (args : Array Value) (s : State) : Prop := args = #[.ref b] ∧ s.IntsAt b xs ∧ xs.length ≤ 2048 ∧ (Jvm.Cond.and given_1 narrow_1).before args s = true
def lw_Q (_ : Array Value) (s : State) (o : Outcome) (t : State) : Prop := o = .returned (some (.int 1)) ∧ Framed s o t [] 600000 7302249
def lw_Z (below : List Frame) (a : Array Value) (s : State) : State → Prop := fun t => ∃ o, t.status = .running ∧ Ended t below o ∧ lw_Q a s o t
/-- the law's own end, with 1 on the stack, nothing written that was there before, its room as the claim has it -/
theorem lw_ret {p : Program} {l : Launch} {e : Env} {s : State} {m : MethodId} {below : List Frame} {meth : Method} {c : Code} {b : Nat} (hx : p.tables.exec = Jvm.exec) (hb : c.code = code) (hr : meth.sig.returnType = ret) (hlocks : meth.locks = false) {pc : Nat} {H : Heap} {ls : Array Slot} (hdg : decode code pc = .ok (.ireturn, 1)) : W p l e room_1 s m #[Value.ref b] below meth c H [] 600000 7302249 (lw_Z below #[Value.ref b] s) (F0 m pc ls [.int 1]) := by
  intro T hT X
  obtain ⟨fs, hret, hrun, hended, hW, hframe⟩ := X.leave (v := some (.int 1)) (hlocks := hlocks) (fun h => by rw [hr] at h; cases h)
  have hmeth' : T.vm.method? m = some meth := X.method'
  refine ⟨T.setFrames fs, ?_, .returned (some (.int 1)), hrun, hended, rfl, ⟨_, rfl⟩, hW, hframe⟩
  jvm_step X.here [X.here.top, hx, hb, hdg, hmeth', hr, ret, narrow_b1]
  (try refine ⟨rfl, ?_⟩); (try refine ⟨rfl, ?_⟩)
  first | (intro acts; rw [hret _ acts rfl rfl rfl]) | rw [hret _ _ rfl rfl rfl]
  exact Steps.refl _
/-- what holds at the law's entry: the machine, the code, the tables' words (any of lw_tbl by 'hts w (by decide +kernel)'), the script of L ints xs at the cell b, what the Statement gives of the start (any of its parts by flat_of_before) -/
def lw_At (p : Program) (s : State) (m : MethodId) (meth : Method) (c : Code) (b L : Nat) (xs : Nat → Int32) : Prop :=
  p.tables.exec = Jvm.exec ∧ c.code = code ∧ meth.sig.returnType = ret ∧ c.maxLocals = 4 ∧ s.vm.findClass R_law = some m.cls ∧ (∀ w ∈ lw_tbl, w.before #[Value.ref b] s = true) ∧ va_X b L xs s s.heap ∧ b < s.heap.size ∧ meth.locks = false ∧ (Jvm.Cond.and given_1 narrow_1).before #[Value.ref b] s = true
theorem nWs_in : ∀ w ∈ nWs, w ∈ lw_tbl := by decide +kernel
def ok_setLimit (Sim : XS → MO → Nat → Prop) : Prop := ∀ (χ : XS) (μ : MO) (i : Nat), i < 512 → Sim χ μ i → ∀ p0 : Int32, wpX3_setLimit χ p0 (fun r χ' => wpX4_setLimit μ p0 (fun r' μ' => r = r' ∧ Sim χ' μ' (i + 1)))
def ok_setHead (Sim : XS → MO → Nat → Prop) : Prop := ∀ (χ : XS) (μ : MO) (i : Nat), i < 512 → Sim χ μ i → ∀ p0 p1 p2 : Int32, p1 = 0 ∨ p1 = 1 → wpX3_setHead χ p0 p1 p2 (fun r χ' => wpX4_setHead μ p0 p1 p2 (fun r' μ' => r = r' ∧ Sim χ' μ' (i + 1)))
def ok_read (Sim : XS → MO → Nat → Prop) : Prop := ∀ (χ : XS) (μ : MO) (i : Nat), i < 512 → Sim χ μ i → ∀ p0 : Int32, wpX3_read χ p0 (fun r χ' => wpX4_read μ p0 (fun r' μ' => r = r' ∧ Sim χ' μ' (i + 1)))
def ok_write (Sim : XS → MO → Nat → Prop) : Prop := ∀ (χ : XS) (μ : MO) (i : Nat), i < 512 → Sim χ μ i → ∀ p0 p1 : Int32, wpX3_write χ p0 p1 (fun r χ' => wpX4_write μ p0 p1 (fun r' μ' => r = r' ∧ Sim χ' μ' (i + 1)))
def ok_copy (Sim : XS → MO → Nat → Prop) : Prop := ∀ (χ : XS) (μ : MO) (i : Nat), i < 512 → Sim χ μ i → ∀ p0 p1 p2 : Int32, wpX3_copy χ p0 p1 p2 (fun r χ' => wpX4_copy μ p0 p1 p2 (fun r' μ' => r = r' ∧ Sim χ' μ' (i + 1)))
def ok_test (Sim : XS → MO → Nat → Prop) : Prop := ∀ (χ : XS) (μ : MO) (i : Nat), i < 512 → Sim χ μ i → ∀ p0 : Int32, wpX3_test χ p0 (fun r χ' => wpX4_test μ p0 (fun r' μ' => r = r' ∧ Sim χ' μ' (i + 1)))
def ok_perform (Sim : XS → MO → Nat → Prop) : Prop := ∀ (χ : XS) (μ : MO) (i : Nat), i < 512 → Sim χ μ i → wpX3_perform χ (fun r χ' => wpX4_perform μ (fun r' μ' => r = r' ∧ Sim χ' μ' (i + 1)))
def ok_giveBack (Sim : XS → MO → Nat → Prop) : Prop := ∀ (χ : XS) (μ : MO) (i : Nat), i < 512 → Sim χ μ i → ∀ p0 : Int32, wpX3_giveBack χ p0 (fun r χ' => wpX4_giveBack μ p0 (fun r' μ' => r = r' ∧ Sim χ' μ' (i + 1)))
def ok_giveUp (Sim : XS → MO → Nat → Prop) : Prop := ∀ (χ : XS) (μ : MO) (i : Nat), i < 512 → Sim χ μ i → ∀ p0 : Int32, wpX3_giveUp χ p0 (fun r χ' => wpX4_giveUp μ p0 (fun r' μ' => r = r' ∧ Sim χ' μ' (i + 1)))
theorem i2c_nn (x : Int32) : 0 ≤ (x.toUInt32 % 65536).toInt32 := by
  have h : (x.toUInt32 % 65536).toNat < 65536 := by
    rw [UInt32.toNat_mod]; exact Nat.mod_lt _ (by decide)
  have e : (x.toUInt32 % 65536).toInt32.toInt = ((x.toUInt32 % 65536).toNat : Int) := by
    show (x.toUInt32 % 65536).toBitVec.toInt = ((x.toUInt32 % 65536).toBitVec.toNat : Int)
    have h2 : (x.toUInt32 % 65536).toBitVec.toNat < 65536 := h
    exact BitVec.toInt_eq_toNat_of_lt (by omega)
  have z : (0 : Int32).toInt = 0 := by decide
  rw [Int32.le_iff_toInt_le, z, e]
  omega
def ok_type (Sim : XS → MO → Nat → Prop) : Prop := ∀ (χ : XS) (μ : MO) (i : Nat), i < 512 → Sim χ μ i → ∀ p0 : Int32, 0 ≤ p0 → wpX3_type χ p0 (fun r χ' => wpX4_type μ p0 (fun r' μ' => r = r' ∧ Sim χ' μ' (i + 1)))
def ok_clearText (Sim : XS → MO → Nat → Prop) : Prop := ∀ (χ : XS) (μ : MO) (i : Nat), i < 512 → Sim χ μ i → wpX3_clearText χ (fun r χ' => wpX4_clearText μ (fun r' μ' => r = r' ∧ Sim χ' μ' (i + 1)))
def ok_undo (Sim : XS → MO → Nat → Prop) : Prop := ∀ (χ : XS) (μ : MO) (i : Nat), i < 512 → Sim χ μ i → wpX3_undo χ (fun r χ' => wpX4_undo μ (fun r' μ' => r = r' ∧ Sim χ' μ' (i + 1)))
def ok_keep (Sim : XS → MO → Nat → Prop) : Prop := ∀ (χ : XS) (μ : MO) (i : Nat), i < 512 → Sim χ μ i → wpX3_keep χ (fun r χ' => wpX4_keep μ (fun r' μ' => r = r' ∧ Sim χ' μ' (i + 1)))
def ok_restore (Sim : XS → MO → Nat → Prop) : Prop := ∀ (χ : XS) (μ : MO) (i : Nat), i < 512 → Sim χ μ i → wpX3_restore χ (fun r χ' => wpX4_restore μ (fun r' μ' => r = r' ∧ Sim χ' μ' (i + 1)))
def ok_address (Sim : XS → MO → Nat → Prop) : Prop := ∀ (χ : XS) (μ : MO) (i : Nat), i < 512 → Sim χ μ i → ∀ p0 p1 : Int32, wpX3_address χ p0 p1 (fun r => wpX4_address μ p0 p1 (fun r' => r = r' ∧ Sim χ μ (i + 1)))
def ok_sector (Sim : XS → MO → Nat → Prop) : Prop := ∀ (χ : XS) (μ : MO) (i : Nat), i < 512 → Sim χ μ i → ∀ p0 p1 : Int32, wpX3_sector χ p0 p1 (fun r => wpX4_sector μ p0 p1 (fun r' => r = r' ∧ Sim χ μ (i + 1)))
def ok_head (Sim : XS → MO → Nat → Prop) : Prop := ∀ (χ : XS) (μ : MO) (i : Nat), i < 512 → Sim χ μ i → ∀ p0 p1 : Int32, wpX3_head χ p0 p1 (fun r => wpX4_head μ p0 p1 (fun r' => r = r' ∧ Sim χ μ (i + 1)))
def ok_readsLeft (Sim : XS → MO → Nat → Prop) : Prop := ∀ (χ : XS) (μ : MO) (i : Nat), i < 512 → Sim χ μ i → ∀ p0 : Int32, wpX3_readsLeft χ p0 (fun r => wpX4_readsLeft μ p0 (fun r' μ' => r = r' ∧ Sim χ μ' (i + 1)))
def ok_wouldLose (Sim : XS → MO → Nat → Prop) : Prop := ∀ (χ : XS) (μ : MO) (i : Nat), i < 512 → Sim χ μ i → ∀ p0 : Int32, wpX3_wouldLose χ p0 (fun r χ' => wpX4_wouldLose μ p0 (fun r' μ' => r = r' ∧ Sim χ' μ' (i + 1)))
def ok_worst (Sim : XS → MO → Nat → Prop) : Prop := ∀ (χ : XS) (μ : MO) (i : Nat), i < 512 → Sim χ μ i → ∀ p0 : Int32, wpX3_worst χ p0 (fun r => wpX4_worst μ p0 (fun r' => r = r' ∧ Sim χ μ (i + 1)))
def ok_count (Sim : XS → MO → Nat → Prop) : Prop := ∀ (χ : XS) (μ : MO) (i : Nat), i < 512 → Sim χ μ i → ∀ p0 : Int32, wpX3_count χ p0 (fun r => wpX4_count μ p0 (fun r' => r = r' ∧ Sim χ μ (i + 1)))
def LawOK (Sim : XS → MO → Nat → Prop) : Prop := wpX3_init (fun χ => wpX4_init (fun μ => Sim χ μ 0)) ∧ (∀ (χ : XS) (μ : MO) (i : Nat), Sim χ μ i → Sim χ μ (i + 1)) ∧ ok_setLimit Sim ∧ ok_setHead Sim ∧ ok_read Sim ∧ ok_write Sim ∧ ok_copy Sim ∧ ok_test Sim ∧ ok_perform Sim ∧ ok_giveBack Sim ∧ ok_giveUp Sim ∧ ok_type Sim ∧ ok_clearText Sim ∧ ok_undo Sim ∧ ok_keep Sim ∧ ok_restore Sim ∧ ok_address Sim ∧ ok_sector Sim ∧ ok_head Sim ∧ ok_readsLeft Sim ∧ ok_wouldLose Sim ∧ ok_worst Sim ∧ ok_count Sim
theorem law_cmp {L j : Nat} (hL : L ≤ 2048) (hj : 4 * j ≤ 2048) (h : ¬ Int32.ofNat L - 4 < nI (4 * j)) : 4 * j + 4 ≤ L := by
  have e : (Int32.ofNat L - 4).toInt = (L : Int) - 4 := pk_sub_toInt (a := L) (b := 4) (by omega) (by omega)
  rw [Int32.lt_iff_toInt_lt, e, nI_toInt (by omega)] at h
  omega
theorem law_i (j : Nat) : nI (4 * j) + 4 = nI (4 * (j + 1)) := nI_add (4 * j) 4
set_option maxHeartbeats 8000000 in
set_option maxRecDepth 100000 in
theorem law_loop {p : Program} {l : Launch} {e : Env} {s : State} {m : MethodId} {below : List Frame} {meth : Method} {c : Code} {B : va_G} {k : KT} {b L : Nat} {xs : Nat → Int32} {nm : String} (Sim : XS → MO → Nat → Prop) (OK : LawOK Sim) (hL : L ≤ 2048) (C : Cx p s m #[Value.ref b] meth c code 4 wsL_law RL nm ret B k (fun q : Nat => s.heap.size ≤ q)) (hX : va_X b L xs s s.heap) (hbl : b < s.heap.size) (ad : Nat → Nat → Nat) (am : Nat → Nat) :
    ∀ (n j : Nat), 4 * j ≤ L → L + 4 ≤ 4 * j + 4 * n → ∀ (χ : XS) (μ : MO), Sim χ μ j → ∀ (H : Heap) (locs : List Loc) (ls : Array Slot), Wd B (fun q : Nat => s.heap.size ≤ q) s.heap (wX3 k ad χ ++ wX4 k am μ) H locs → lv_has ls 4 [(0, .ref b), (1, .ref (ad 9 0)), (2, .ref (am 0)), (3, .int (nI (4 * j)))] → W p l e room_1 s m #[Value.ref b] below meth c H locs 77 4826 (lw_Z below #[Value.ref b] s) (F0 m 18 ls []) := by
  have hx := C.1; have hb := C.2.1; have hml := C.2.2.1; have hts := C.2.2.2.2.1; have hlocks := C.2.2.2.2.2.2.1; have hr := C.2.2.2.2.2.1
  have hbA : ¬ (fun q : Nat => s.heap.size ≤ q) b := Nat.not_le.mpr hbl
  obtain ⟨-, okS, ok0, ok1, ok2, ok3, ok4, ok5, ok6, ok7, ok8, ok9, ok10, ok11, ok12, ok13, ok14, ok15, ok16, ok17, ok18, ok19, ok20⟩ := OK
  intro n
  induction n with
  | zero => intro j h1 h2; exact absurd h2 (by omega)
  | succ n ih =>
    intro j hj hn χ μ hsim H locs ls hd hl
    have B663 : 4 * j + 4 ≤ L → ∀ (χ : XS) (μ : MO) (H : Heap) (locs : List Loc) (ls : Array Slot), Sim χ μ (j + 1) → Wd B (fun q : Nat => s.heap.size ≤ q) s.heap (wX3 k ad χ ++ wX4 k am μ) H locs → lv_has ls 4 [(0, .ref b), (1, .ref (ad 9 0)), (2, .ref (am 0)), (3, .int (nI (4 * j)))] → W p l e room_1 s m #[Value.ref b] below meth c H locs 77 4826 (lw_Z below #[Value.ref b] s) (F0 m 663 ls []) := by
      intro hlt χ μ H locs ls hsim hd hl
      refine lv_iinc (v := nI (4 * (j + 1))) (lv' := [(3, .int (nI (4 * (j + 1)))), (0, .ref b), (1, .ref (ad 9 0)), (2, .ref (am 0))]) hx hb dL_law_663 hl (k := 3) rfl (law_i j) (by decide) rfl (fun ls hl => ?_)
      refine lv_goto (tgt := 18) hx hb dL_law_666 (by decide) ?_
      exact ih (j + 1) (by omega) (by omega) χ μ hsim _ _ _ hd (lv_sub hl [1, 2, 3, 0] rfl)
    refine lv_iload_n hx hb dL_law_18 rfl (lv_at hl 3 rfl) ?_
    refine lv_aload_n hx hb dL_law_19 rfl (lv_at hl 0 rfl) ?_
    refine va_slen hx hb hX hbl hbA hd.2.2 dL_law_20 ?_
    refine lv_iconst (v := 4) hx hb dL_law_21 (by decide) ?_
    refine lv_isub hx hb dL_law_22 ?_
    refine lv_icmp_gt (tgt := 669) hx hb dL_law_23 (by decide) (fun _ => ?_) (fun hgt => ?_)
    · refine lv_iconst (v := 1) hx hb dL_law_669 (by decide) ?_
      refine va_forget (fun q hq => hd.2.2.2.2 q hq) ?_
      refine W.widen (k := 600000) (n := 7302249) (Nat.le_of_ble_eq_true rfl) (Nat.le_of_ble_eq_true rfl) ?_
      exact lw_ret hx hb hr hlocks dL_law_670
    have hlt : 4 * j + 4 ≤ L := law_cmp hL (by omega) hgt
    have hj5 : j < 512 := by omega
    have in0 : vp_in (nI (4 * j)) L := pk_in (4 * j + 0) L (by omega) rfl
    have in1 : vp_in (nI (4 * j) + 1) L := pk_in (4 * j + 1) L (by omega) (nI_add (4 * j) 1)
    have in2 : vp_in (nI (4 * j) + 2) L := pk_in (4 * j + 2) L (by omega) (nI_add (4 * j) 2)
    have in3 : vp_in (nI (4 * j) + 3) L := pk_in (4 * j + 3) L (by omega) (nI_add (4 * j) 3)
    refine lv_aload_n hx hb dL_law_26 rfl (lv_at hl 0 rfl) ?_
    refine lv_iload_n hx hb dL_law_27 rfl (lv_at hl 3 rfl) ?_
    refine va_sld hx hb hX hbl hbA hd.2.2 in0 dL_law_28 ?_
    refine lv_bipush (v := 31) hx hb dL_law_29 (by decide) ?_
    refine lv_iand hx hb dL_law_31 ?_
    generalize hv : xs (nI (4 * j)).toNatClampNeg &&& 31 = v
    by_cases c1 : v = 0
    · refine lv_tableIn (tgt := 132) hx hb dL_law_32 (by rw [c1]; decide) (by rw [c1]; decide) (by rw [c1]; rfl) (by decide) ?_
      refine lv_aload_n hx hb dL_law_132 rfl (lv_at hl 1 rfl) ?_
      refine lv_aload_n hx hb dL_law_133 rfl (lv_at hl 0 rfl) ?_
      refine lv_iload_n hx hb dL_law_134 rfl (lv_at hl 3 rfl) ?_
      refine lv_iconst (v := 1) hx hb dL_law_135 (by decide) ?_
      refine lv_iadd hx hb dL_law_136 ?_
      refine va_sld hx hb hX hbl hbA hd.2.2 in1 dL_law_137 ?_
      refine v_i C hd hl M_X3_setLimit gL_law_X3_setLimit (c_X3_setLimit l B k ad χ (xs (nI (4 * j) + 1).toNatClampNeg) _ (ok0 χ μ j hj5 hsim (xs (nI (4 * j) + 1).toNatClampNeg))) ⟨rfl, rfl⟩ ⟨Nat.le_of_ble_eq_true rfl, Nat.le_of_ble_eq_true rfl⟩ (List.Perm.refl _) (fun u => wX3 k ad u ++ wX4 k am μ) (fun _ => List.Perm.refl _) 0 3 rfl rfl rfl rfl rfl (Nat.le_of_ble_eq_true rfl) dL_law_138 ⟨Nat.le_of_ble_eq_true rfl, Nat.le_of_ble_eq_true rfl⟩ (fun r χ1 H locs hw hd => ?_)
      refine lv_aload_n hx hb dL_law_141 rfl (lv_at hl 2 rfl) ?_
      refine lv_aload_n hx hb dL_law_142 rfl (lv_at hl 0 rfl) ?_
      refine lv_iload_n hx hb dL_law_143 rfl (lv_at hl 3 rfl) ?_
      refine lv_iconst (v := 1) hx hb dL_law_144 (by decide) ?_
      refine lv_iadd hx hb dL_law_145 ?_
      refine va_sld hx hb hX hbl hbA hd.2.2 in1 dL_law_146 ?_
      refine v_i C hd hl M_X4_setLimit gL_law_X4_setLimit (c_X4_setLimit l B k am μ (xs (nI (4 * j) + 1).toNatClampNeg) _ hw) ⟨rfl, rfl⟩ ⟨Nat.le_of_ble_eq_true rfl, Nat.le_of_ble_eq_true rfl⟩ List.perm_append_comm (fun u => wX3 k ad χ1 ++ wX4 k am u) (fun _ => List.perm_append_comm) 70 4 rfl rfl rfl rfl rfl (Nat.le_of_ble_eq_true rfl) dL_law_147 ⟨Nat.le_of_ble_eq_true rfl, Nat.le_of_ble_eq_true rfl⟩ (fun r2 μ1 H locs hw hd => ?_)
      refine lv_icmp_eq (tgt := 663) hx hb dL_law_150 (by decide) (fun _ => ?_) (fun q => absurd hw.1 q)
      exact B663 hlt χ1 μ1 _ _ _ hw.2 hd hl
    by_cases c2 : v = 1
    · refine lv_tableIn (tgt := 155) hx hb dL_law_32 (by rw [c2]; decide) (by rw [c2]; decide) (by rw [c2]; rfl) (by decide) ?_
      refine lv_aload_n hx hb dL_law_155 rfl (lv_at hl 1 rfl) ?_
      refine lv_aload_n hx hb dL_law_156 rfl (lv_at hl 0 rfl) ?_
      refine lv_iload_n hx hb dL_law_157 rfl (lv_at hl 3 rfl) ?_
      refine lv_iconst (v := 1) hx hb dL_law_158 (by decide) ?_
      refine lv_iadd hx hb dL_law_159 ?_
      refine va_sld hx hb hX hbl hbA hd.2.2 in1 dL_law_160 ?_
      refine lv_aload_n hx hb dL_law_161 rfl (lv_at hl 0 rfl) ?_
      refine lv_iload_n hx hb dL_law_162 rfl (lv_at hl 3 rfl) ?_
      refine lv_iconst (v := 2) hx hb dL_law_163 (by decide) ?_
      refine lv_iadd hx hb dL_law_164 ?_
      refine va_sld hx hb hX hbl hbA hd.2.2 in2 dL_law_165 ?_
      refine lv_if_eq (tgt := 173) hx hb dL_law_166 (by decide) (fun c0 => ?_) (fun c0 => ?_)
      · refine lv_iconst (v := 0) hx hb dL_law_173 (by decide) ?_
        refine lv_aload_n hx hb dL_law_174 rfl (lv_at hl 0 rfl) ?_
        refine lv_iload_n hx hb dL_law_175 rfl (lv_at hl 3 rfl) ?_
        refine lv_iconst (v := 3) hx hb dL_law_176 (by decide) ?_
        refine lv_iadd hx hb dL_law_177 ?_
        refine va_sld hx hb hX hbl hbA hd.2.2 in3 dL_law_178 ?_
        refine v_i C hd hl M_X3_setHead gL_law_X3_setHead (c_X3_setHead l B k ad χ (xs (nI (4 * j) + 1).toNatClampNeg) (0) (xs (nI (4 * j) + 3).toNatClampNeg) _ (ok1 χ μ j hj5 hsim (xs (nI (4 * j) + 1).toNatClampNeg) (0) (xs (nI (4 * j) + 3).toNatClampNeg) (by decide))) ⟨rfl, rfl⟩ ⟨Nat.le_of_ble_eq_true rfl, Nat.le_of_ble_eq_true rfl⟩ (List.Perm.refl _) (fun u => wX3 k ad u ++ wX4 k am μ) (fun _ => List.Perm.refl _) 0 3 rfl rfl rfl rfl rfl (Nat.le_of_ble_eq_true rfl) dL_law_179 ⟨Nat.le_of_ble_eq_true rfl, Nat.le_of_ble_eq_true rfl⟩ (fun r χ1 H locs hw hd => ?_)
        refine lv_aload_n hx hb dL_law_182 rfl (lv_at hl 2 rfl) ?_
        refine lv_aload_n hx hb dL_law_183 rfl (lv_at hl 0 rfl) ?_
        refine lv_iload_n hx hb dL_law_184 rfl (lv_at hl 3 rfl) ?_
        refine lv_iconst (v := 1) hx hb dL_law_185 (by decide) ?_
        refine lv_iadd hx hb dL_law_186 ?_
        refine va_sld hx hb hX hbl hbA hd.2.2 in1 dL_law_187 ?_
        refine lv_aload_n hx hb dL_law_188 rfl (lv_at hl 0 rfl) ?_
        refine lv_iload_n hx hb dL_law_189 rfl (lv_at hl 3 rfl) ?_
        refine lv_iconst (v := 2) hx hb dL_law_190 (by decide) ?_
        refine lv_iadd hx hb dL_law_191 ?_
        refine va_sld hx hb hX hbl hbA hd.2.2 in2 dL_law_192 ?_
        refine lv_if_eq (tgt := 200) hx hb dL_law_193 (by decide) (fun _ => ?_) (fun q => absurd c0 q)
        refine lv_iconst (v := 0) hx hb dL_law_200 (by decide) ?_
        refine lv_aload_n hx hb dL_law_201 rfl (lv_at hl 0 rfl) ?_
        refine lv_iload_n hx hb dL_law_202 rfl (lv_at hl 3 rfl) ?_
        refine lv_iconst (v := 3) hx hb dL_law_203 (by decide) ?_
        refine lv_iadd hx hb dL_law_204 ?_
        refine va_sld hx hb hX hbl hbA hd.2.2 in3 dL_law_205 ?_
        refine v_i C hd hl M_X4_setHead gL_law_X4_setHead (c_X4_setHead l B k am μ (xs (nI (4 * j) + 1).toNatClampNeg) (0) (xs (nI (4 * j) + 3).toNatClampNeg) _ hw) ⟨rfl, rfl⟩ ⟨Nat.le_of_ble_eq_true rfl, Nat.le_of_ble_eq_true rfl⟩ List.perm_append_comm (fun u => wX3 k ad χ1 ++ wX4 k am u) (fun _ => List.perm_append_comm) 70 4 rfl rfl rfl rfl rfl (Nat.le_of_ble_eq_true rfl) dL_law_206 ⟨Nat.le_of_ble_eq_true rfl, Nat.le_of_ble_eq_true rfl⟩ (fun r2 μ1 H locs hw hd => ?_)
        refine lv_icmp_eq (tgt := 663) hx hb dL_law_209 (by decide) (fun _ => ?_) (fun q => absurd hw.1 q)
        exact B663 hlt χ1 μ1 _ _ _ hw.2 hd hl
      · refine lv_iconst (v := 1) hx hb dL_law_169 (by decide) ?_
        refine lv_goto (tgt := 174) hx hb dL_law_170 (by decide) ?_
        refine lv_aload_n hx hb dL_law_174 rfl (lv_at hl 0 rfl) ?_
        refine lv_iload_n hx hb dL_law_175 rfl (lv_at hl 3 rfl) ?_
        refine lv_iconst (v := 3) hx hb dL_law_176 (by decide) ?_
        refine lv_iadd hx hb dL_law_177 ?_
        refine va_sld hx hb hX hbl hbA hd.2.2 in3 dL_law_178 ?_
        refine v_i C hd hl M_X3_setHead gL_law_X3_setHead (c_X3_setHead l B k ad χ (xs (nI (4 * j) + 1).toNatClampNeg) (1) (xs (nI (4 * j) + 3).toNatClampNeg) _ (ok1 χ μ j hj5 hsim (xs (nI (4 * j) + 1).toNatClampNeg) (1) (xs (nI (4 * j) + 3).toNatClampNeg) (by decide))) ⟨rfl, rfl⟩ ⟨Nat.le_of_ble_eq_true rfl, Nat.le_of_ble_eq_true rfl⟩ (List.Perm.refl _) (fun u => wX3 k ad u ++ wX4 k am μ) (fun _ => List.Perm.refl _) 0 3 rfl rfl rfl rfl rfl (Nat.le_of_ble_eq_true rfl) dL_law_179 ⟨Nat.le_of_ble_eq_true rfl, Nat.le_of_ble_eq_true rfl⟩ (fun r χ1 H locs hw hd => ?_)
        refine lv_aload_n hx hb dL_law_182 rfl (lv_at hl 2 rfl) ?_
        refine lv_aload_n hx hb dL_law_183 rfl (lv_at hl 0 rfl) ?_
        refine lv_iload_n hx hb dL_law_184 rfl (lv_at hl 3 rfl) ?_
        refine lv_iconst (v := 1) hx hb dL_law_185 (by decide) ?_
        refine lv_iadd hx hb dL_law_186 ?_
        refine va_sld hx hb hX hbl hbA hd.2.2 in1 dL_law_187 ?_
        refine lv_aload_n hx hb dL_law_188 rfl (lv_at hl 0 rfl) ?_
        refine lv_iload_n hx hb dL_law_189 rfl (lv_at hl 3 rfl) ?_
        refine lv_iconst (v := 2) hx hb dL_law_190 (by decide) ?_
        refine lv_iadd hx hb dL_law_191 ?_
        refine va_sld hx hb hX hbl hbA hd.2.2 in2 dL_law_192 ?_
        refine lv_if_eq (tgt := 200) hx hb dL_law_193 (by decide) (fun q => absurd q c0) (fun _ => ?_)
        refine lv_iconst (v := 1) hx hb dL_law_196 (by decide) ?_
        refine lv_goto (tgt := 201) hx hb dL_law_197 (by decide) ?_
        refine lv_aload_n hx hb dL_law_201 rfl (lv_at hl 0 rfl) ?_
        refine lv_iload_n hx hb dL_law_202 rfl (lv_at hl 3 rfl) ?_
        refine lv_iconst (v := 3) hx hb dL_law_203 (by decide) ?_
        refine lv_iadd hx hb dL_law_204 ?_
        refine va_sld hx hb hX hbl hbA hd.2.2 in3 dL_law_205 ?_
        refine v_i C hd hl M_X4_setHead gL_law_X4_setHead (c_X4_setHead l B k am μ (xs (nI (4 * j) + 1).toNatClampNeg) (1) (xs (nI (4 * j) + 3).toNatClampNeg) _ hw) ⟨rfl, rfl⟩ ⟨Nat.le_of_ble_eq_true rfl, Nat.le_of_ble_eq_true rfl⟩ List.perm_append_comm (fun u => wX3 k ad χ1 ++ wX4 k am u) (fun _ => List.perm_append_comm) 70 4 rfl rfl rfl rfl rfl (Nat.le_of_ble_eq_true rfl) dL_law_206 ⟨Nat.le_of_ble_eq_true rfl, Nat.le_of_ble_eq_true rfl⟩ (fun r2 μ1 H locs hw hd => ?_)
        refine lv_icmp_eq (tgt := 663) hx hb dL_law_209 (by decide) (fun _ => ?_) (fun q => absurd hw.1 q)
        exact B663 hlt χ1 μ1 _ _ _ hw.2 hd hl
    by_cases c3 : v = 2
    · refine lv_tableIn (tgt := 214) hx hb dL_law_32 (by rw [c3]; decide) (by rw [c3]; decide) (by rw [c3]; rfl) (by decide) ?_
      refine lv_aload_n hx hb dL_law_214 rfl (lv_at hl 1 rfl) ?_
      refine lv_aload_n hx hb dL_law_215 rfl (lv_at hl 0 rfl) ?_
      refine lv_iload_n hx hb dL_law_216 rfl (lv_at hl 3 rfl) ?_
      refine lv_iconst (v := 1) hx hb dL_law_217 (by decide) ?_
      refine lv_iadd hx hb dL_law_218 ?_
      refine va_sld hx hb hX hbl hbA hd.2.2 in1 dL_law_219 ?_
      refine v_i C hd hl M_X3_read gL_law_X3_read (c_X3_read l B k ad χ (xs (nI (4 * j) + 1).toNatClampNeg) _ (ok2 χ μ j hj5 hsim (xs (nI (4 * j) + 1).toNatClampNeg))) ⟨rfl, rfl⟩ ⟨Nat.le_of_ble_eq_true rfl, Nat.le_of_ble_eq_true rfl⟩ (List.Perm.refl _) (fun u => wX3 k ad u ++ wX4 k am μ) (fun _ => List.Perm.refl _) 0 3 rfl rfl rfl rfl rfl (Nat.le_of_ble_eq_true rfl) dL_law_220 ⟨Nat.le_of_ble_eq_true rfl, Nat.le_of_ble_eq_true rfl⟩ (fun r χ1 H locs hw hd => ?_)
      refine lv_aload_n hx hb dL_law_223 rfl (lv_at hl 2 rfl) ?_
      refine lv_aload_n hx hb dL_law_224 rfl (lv_at hl 0 rfl) ?_
      refine lv_iload_n hx hb dL_law_225 rfl (lv_at hl 3 rfl) ?_
      refine lv_iconst (v := 1) hx hb dL_law_226 (by decide) ?_
      refine lv_iadd hx hb dL_law_227 ?_
      refine va_sld hx hb hX hbl hbA hd.2.2 in1 dL_law_228 ?_
      refine v_i C hd hl M_X4_read gL_law_X4_read (c_X4_read l B k am μ (xs (nI (4 * j) + 1).toNatClampNeg) _ hw) ⟨rfl, rfl⟩ ⟨Nat.le_of_ble_eq_true rfl, Nat.le_of_ble_eq_true rfl⟩ List.perm_append_comm (fun u => wX3 k ad χ1 ++ wX4 k am u) (fun _ => List.perm_append_comm) 70 4 rfl rfl rfl rfl rfl (Nat.le_of_ble_eq_true rfl) dL_law_229 ⟨Nat.le_of_ble_eq_true rfl, Nat.le_of_ble_eq_true rfl⟩ (fun r2 μ1 H locs hw hd => ?_)
      refine lv_icmp_eq (tgt := 663) hx hb dL_law_232 (by decide) (fun _ => ?_) (fun q => absurd hw.1 q)
      exact B663 hlt χ1 μ1 _ _ _ hw.2 hd hl
    by_cases c4 : v = 3
    · refine lv_tableIn (tgt := 237) hx hb dL_law_32 (by rw [c4]; decide) (by rw [c4]; decide) (by rw [c4]; rfl) (by decide) ?_
      refine lv_aload_n hx hb dL_law_237 rfl (lv_at hl 1 rfl) ?_
      refine lv_aload_n hx hb dL_law_238 rfl (lv_at hl 0 rfl) ?_
      refine lv_iload_n hx hb dL_law_239 rfl (lv_at hl 3 rfl) ?_
      refine lv_iconst (v := 1) hx hb dL_law_240 (by decide) ?_
      refine lv_iadd hx hb dL_law_241 ?_
      refine va_sld hx hb hX hbl hbA hd.2.2 in1 dL_law_242 ?_
      refine lv_aload_n hx hb dL_law_243 rfl (lv_at hl 0 rfl) ?_
      refine lv_iload_n hx hb dL_law_244 rfl (lv_at hl 3 rfl) ?_
      refine lv_iconst (v := 2) hx hb dL_law_245 (by decide) ?_
      refine lv_iadd hx hb dL_law_246 ?_
      refine va_sld hx hb hX hbl hbA hd.2.2 in2 dL_law_247 ?_
      refine v_i C hd hl M_X3_write gL_law_X3_write (c_X3_write l B k ad χ (xs (nI (4 * j) + 1).toNatClampNeg) (xs (nI (4 * j) + 2).toNatClampNeg) _ (ok3 χ μ j hj5 hsim (xs (nI (4 * j) + 1).toNatClampNeg) (xs (nI (4 * j) + 2).toNatClampNeg))) ⟨rfl, rfl⟩ ⟨Nat.le_of_ble_eq_true rfl, Nat.le_of_ble_eq_true rfl⟩ (List.Perm.refl _) (fun u => wX3 k ad u ++ wX4 k am μ) (fun _ => List.Perm.refl _) 0 3 rfl rfl rfl rfl rfl (Nat.le_of_ble_eq_true rfl) dL_law_248 ⟨Nat.le_of_ble_eq_true rfl, Nat.le_of_ble_eq_true rfl⟩ (fun r χ1 H locs hw hd => ?_)
      refine lv_aload_n hx hb dL_law_251 rfl (lv_at hl 2 rfl) ?_
      refine lv_aload_n hx hb dL_law_252 rfl (lv_at hl 0 rfl) ?_
      refine lv_iload_n hx hb dL_law_253 rfl (lv_at hl 3 rfl) ?_
      refine lv_iconst (v := 1) hx hb dL_law_254 (by decide) ?_
      refine lv_iadd hx hb dL_law_255 ?_
      refine va_sld hx hb hX hbl hbA hd.2.2 in1 dL_law_256 ?_
      refine lv_aload_n hx hb dL_law_257 rfl (lv_at hl 0 rfl) ?_
      refine lv_iload_n hx hb dL_law_258 rfl (lv_at hl 3 rfl) ?_
      refine lv_iconst (v := 2) hx hb dL_law_259 (by decide) ?_
      refine lv_iadd hx hb dL_law_260 ?_
      refine va_sld hx hb hX hbl hbA hd.2.2 in2 dL_law_261 ?_
      refine v_i C hd hl M_X4_write gL_law_X4_write (c_X4_write l B k am μ (xs (nI (4 * j) + 1).toNatClampNeg) (xs (nI (4 * j) + 2).toNatClampNeg) _ hw) ⟨rfl, rfl⟩ ⟨Nat.le_of_ble_eq_true rfl, Nat.le_of_ble_eq_true rfl⟩ List.perm_append_comm (fun u => wX3 k ad χ1 ++ wX4 k am u) (fun _ => List.perm_append_comm) 70 4 rfl rfl rfl rfl rfl (Nat.le_of_ble_eq_true rfl) dL_law_262 ⟨Nat.le_of_ble_eq_true rfl, Nat.le_of_ble_eq_true rfl⟩ (fun r2 μ1 H locs hw hd => ?_)
      refine lv_icmp_eq (tgt := 663) hx hb dL_law_265 (by decide) (fun _ => ?_) (fun q => absurd hw.1 q)
      exact B663 hlt χ1 μ1 _ _ _ hw.2 hd hl
    by_cases c5 : v = 4
    · refine lv_tableIn (tgt := 270) hx hb dL_law_32 (by rw [c5]; decide) (by rw [c5]; decide) (by rw [c5]; rfl) (by decide) ?_
      refine lv_aload_n hx hb dL_law_270 rfl (lv_at hl 1 rfl) ?_
      refine lv_aload_n hx hb dL_law_271 rfl (lv_at hl 0 rfl) ?_
      refine lv_iload_n hx hb dL_law_272 rfl (lv_at hl 3 rfl) ?_
      refine lv_iconst (v := 1) hx hb dL_law_273 (by decide) ?_
      refine lv_iadd hx hb dL_law_274 ?_
      refine va_sld hx hb hX hbl hbA hd.2.2 in1 dL_law_275 ?_
      refine lv_aload_n hx hb dL_law_276 rfl (lv_at hl 0 rfl) ?_
      refine lv_iload_n hx hb dL_law_277 rfl (lv_at hl 3 rfl) ?_
      refine lv_iconst (v := 2) hx hb dL_law_278 (by decide) ?_
      refine lv_iadd hx hb dL_law_279 ?_
      refine va_sld hx hb hX hbl hbA hd.2.2 in2 dL_law_280 ?_
      refine lv_aload_n hx hb dL_law_281 rfl (lv_at hl 0 rfl) ?_
      refine lv_iload_n hx hb dL_law_282 rfl (lv_at hl 3 rfl) ?_
      refine lv_iconst (v := 3) hx hb dL_law_283 (by decide) ?_
      refine lv_iadd hx hb dL_law_284 ?_
      refine va_sld hx hb hX hbl hbA hd.2.2 in3 dL_law_285 ?_
      refine v_i C hd hl M_X3_copy gL_law_X3_copy (c_X3_copy l B k ad χ (xs (nI (4 * j) + 1).toNatClampNeg) (xs (nI (4 * j) + 2).toNatClampNeg) (xs (nI (4 * j) + 3).toNatClampNeg) _ (ok4 χ μ j hj5 hsim (xs (nI (4 * j) + 1).toNatClampNeg) (xs (nI (4 * j) + 2).toNatClampNeg) (xs (nI (4 * j) + 3).toNatClampNeg))) ⟨rfl, rfl⟩ ⟨Nat.le_of_ble_eq_true rfl, Nat.le_of_ble_eq_true rfl⟩ (List.Perm.refl _) (fun u => wX3 k ad u ++ wX4 k am μ) (fun _ => List.Perm.refl _) 0 3 rfl rfl rfl rfl rfl (Nat.le_of_ble_eq_true rfl) dL_law_286 ⟨Nat.le_of_ble_eq_true rfl, Nat.le_of_ble_eq_true rfl⟩ (fun r χ1 H locs hw hd => ?_)
      refine lv_aload_n hx hb dL_law_289 rfl (lv_at hl 2 rfl) ?_
      refine lv_aload_n hx hb dL_law_290 rfl (lv_at hl 0 rfl) ?_
      refine lv_iload_n hx hb dL_law_291 rfl (lv_at hl 3 rfl) ?_
      refine lv_iconst (v := 1) hx hb dL_law_292 (by decide) ?_
      refine lv_iadd hx hb dL_law_293 ?_
      refine va_sld hx hb hX hbl hbA hd.2.2 in1 dL_law_294 ?_
      refine lv_aload_n hx hb dL_law_295 rfl (lv_at hl 0 rfl) ?_
      refine lv_iload_n hx hb dL_law_296 rfl (lv_at hl 3 rfl) ?_
      refine lv_iconst (v := 2) hx hb dL_law_297 (by decide) ?_
      refine lv_iadd hx hb dL_law_298 ?_
      refine va_sld hx hb hX hbl hbA hd.2.2 in2 dL_law_299 ?_
      refine lv_aload_n hx hb dL_law_300 rfl (lv_at hl 0 rfl) ?_
      refine lv_iload_n hx hb dL_law_301 rfl (lv_at hl 3 rfl) ?_
      refine lv_iconst (v := 3) hx hb dL_law_302 (by decide) ?_
      refine lv_iadd hx hb dL_law_303 ?_
      refine va_sld hx hb hX hbl hbA hd.2.2 in3 dL_law_304 ?_
      refine v_i C hd hl M_X4_copy gL_law_X4_copy (c_X4_copy l B k am μ (xs (nI (4 * j) + 1).toNatClampNeg) (xs (nI (4 * j) + 2).toNatClampNeg) (xs (nI (4 * j) + 3).toNatClampNeg) _ hw) ⟨rfl, rfl⟩ ⟨Nat.le_of_ble_eq_true rfl, Nat.le_of_ble_eq_true rfl⟩ List.perm_append_comm (fun u => wX3 k ad χ1 ++ wX4 k am u) (fun _ => List.perm_append_comm) 70 4 rfl rfl rfl rfl rfl (Nat.le_of_ble_eq_true rfl) dL_law_305 ⟨Nat.le_of_ble_eq_true rfl, Nat.le_of_ble_eq_true rfl⟩ (fun r2 μ1 H locs hw hd => ?_)
      refine lv_icmp_eq (tgt := 663) hx hb dL_law_308 (by decide) (fun _ => ?_) (fun q => absurd hw.1 q)
      exact B663 hlt χ1 μ1 _ _ _ hw.2 hd hl
    by_cases c6 : v = 5
    · refine lv_tableIn (tgt := 313) hx hb dL_law_32 (by rw [c6]; decide) (by rw [c6]; decide) (by rw [c6]; rfl) (by decide) ?_
      refine lv_aload_n hx hb dL_law_313 rfl (lv_at hl 1 rfl) ?_
      refine lv_aload_n hx hb dL_law_314 rfl (lv_at hl 0 rfl) ?_
      refine lv_iload_n hx hb dL_law_315 rfl (lv_at hl 3 rfl) ?_
      refine lv_iconst (v := 1) hx hb dL_law_316 (by decide) ?_
      refine lv_iadd hx hb dL_law_317 ?_
      refine va_sld hx hb hX hbl hbA hd.2.2 in1 dL_law_318 ?_
      refine v_i C hd hl M_X3_test gL_law_X3_test (c_X3_test l B k ad χ (xs (nI (4 * j) + 1).toNatClampNeg) _ (ok5 χ μ j hj5 hsim (xs (nI (4 * j) + 1).toNatClampNeg))) ⟨rfl, rfl⟩ ⟨Nat.le_of_ble_eq_true rfl, Nat.le_of_ble_eq_true rfl⟩ (List.Perm.refl _) (fun u => wX3 k ad u ++ wX4 k am μ) (fun _ => List.Perm.refl _) 0 3 rfl rfl rfl rfl rfl (Nat.le_of_ble_eq_true rfl) dL_law_319 ⟨Nat.le_of_ble_eq_true rfl, Nat.le_of_ble_eq_true rfl⟩ (fun r χ1 H locs hw hd => ?_)
      refine lv_aload_n hx hb dL_law_322 rfl (lv_at hl 2 rfl) ?_
      refine lv_aload_n hx hb dL_law_323 rfl (lv_at hl 0 rfl) ?_
      refine lv_iload_n hx hb dL_law_324 rfl (lv_at hl 3 rfl) ?_
      refine lv_iconst (v := 1) hx hb dL_law_325 (by decide) ?_
      refine lv_iadd hx hb dL_law_326 ?_
      refine va_sld hx hb hX hbl hbA hd.2.2 in1 dL_law_327 ?_
      refine v_i C hd hl M_X4_test gL_law_X4_test (c_X4_test l B k am μ (xs (nI (4 * j) + 1).toNatClampNeg) _ hw) ⟨rfl, rfl⟩ ⟨Nat.le_of_ble_eq_true rfl, Nat.le_of_ble_eq_true rfl⟩ List.perm_append_comm (fun u => wX3 k ad χ1 ++ wX4 k am u) (fun _ => List.perm_append_comm) 70 4 rfl rfl rfl rfl rfl (Nat.le_of_ble_eq_true rfl) dL_law_328 ⟨Nat.le_of_ble_eq_true rfl, Nat.le_of_ble_eq_true rfl⟩ (fun r2 μ1 H locs hw hd => ?_)
      refine lv_icmp_eq (tgt := 663) hx hb dL_law_331 (by decide) (fun _ => ?_) (fun q => absurd hw.1 q)
      exact B663 hlt χ1 μ1 _ _ _ hw.2 hd hl
    by_cases c7 : v = 6
    · refine lv_tableIn (tgt := 336) hx hb dL_law_32 (by rw [c7]; decide) (by rw [c7]; decide) (by rw [c7]; rfl) (by decide) ?_
      refine lv_aload_n hx hb dL_law_336 rfl (lv_at hl 1 rfl) ?_
      refine v_i C hd hl M_X3_perform gL_law_X3_perform (c_X3_perform l B k ad χ  _ (ok6 χ μ j hj5 hsim )) ⟨rfl, rfl⟩ ⟨Nat.le_of_ble_eq_true rfl, Nat.le_of_ble_eq_true rfl⟩ (List.Perm.refl _) (fun u => wX3 k ad u ++ wX4 k am μ) (fun _ => List.Perm.refl _) 0 3 rfl rfl rfl rfl rfl (Nat.le_of_ble_eq_true rfl) dL_law_337 ⟨Nat.le_of_ble_eq_true rfl, Nat.le_of_ble_eq_true rfl⟩ (fun r χ1 H locs hw hd => ?_)
      refine lv_aload_n hx hb dL_law_340 rfl (lv_at hl 2 rfl) ?_
      refine v_i C hd hl M_X4_perform gL_law_X4_perform (c_X4_perform l B k am μ  _ hw) ⟨rfl, rfl⟩ ⟨Nat.le_of_ble_eq_true rfl, Nat.le_of_ble_eq_true rfl⟩ List.perm_append_comm (fun u => wX3 k ad χ1 ++ wX4 k am u) (fun _ => List.perm_append_comm) 70 4 rfl rfl rfl rfl rfl (Nat.le_of_ble_eq_true rfl) dL_law_341 ⟨Nat.le_of_ble_eq_true rfl, Nat.le_of_ble_eq_true rfl⟩ (fun r2 μ1 H locs hw hd => ?_)
      refine lv_icmp_eq (tgt := 663) hx hb dL_law_344 (by decide) (fun _ => ?_) (fun q => absurd hw.1 q)
      exact B663 hlt χ1 μ1 _ _ _ hw.2 hd hl
    by_cases c8 : v = 7
    · refine lv_tableIn (tgt := 349) hx hb dL_law_32 (by rw [c8]; decide) (by rw [c8]; decide) (by rw [c8]; rfl) (by decide) ?_
      refine lv_aload_n hx hb dL_law_349 rfl (lv_at hl 1 rfl) ?_
      refine lv_aload_n hx hb dL_law_350 rfl (lv_at hl 0 rfl) ?_
      refine lv_iload_n hx hb dL_law_351 rfl (lv_at hl 3 rfl) ?_
      refine lv_iconst (v := 1) hx hb dL_law_352 (by decide) ?_
      refine lv_iadd hx hb dL_law_353 ?_
      refine va_sld hx hb hX hbl hbA hd.2.2 in1 dL_law_354 ?_
      refine v_i C hd hl M_X3_giveBack gL_law_X3_giveBack (c_X3_giveBack l B k ad χ (xs (nI (4 * j) + 1).toNatClampNeg) _ (ok7 χ μ j hj5 hsim (xs (nI (4 * j) + 1).toNatClampNeg))) ⟨rfl, rfl⟩ ⟨Nat.le_of_ble_eq_true rfl, Nat.le_of_ble_eq_true rfl⟩ (List.Perm.refl _) (fun u => wX3 k ad u ++ wX4 k am μ) (fun _ => List.Perm.refl _) 0 3 rfl rfl rfl rfl rfl (Nat.le_of_ble_eq_true rfl) dL_law_355 ⟨Nat.le_of_ble_eq_true rfl, Nat.le_of_ble_eq_true rfl⟩ (fun r χ1 H locs hw hd => ?_)
      refine lv_aload_n hx hb dL_law_358 rfl (lv_at hl 2 rfl) ?_
      refine lv_aload_n hx hb dL_law_359 rfl (lv_at hl 0 rfl) ?_
      refine lv_iload_n hx hb dL_law_360 rfl (lv_at hl 3 rfl) ?_
      refine lv_iconst (v := 1) hx hb dL_law_361 (by decide) ?_
      refine lv_iadd hx hb dL_law_362 ?_
      refine va_sld hx hb hX hbl hbA hd.2.2 in1 dL_law_363 ?_
      refine v_i C hd hl M_X4_giveBack gL_law_X4_giveBack (c_X4_giveBack l B k am μ (xs (nI (4 * j) + 1).toNatClampNeg) _ hw) ⟨rfl, rfl⟩ ⟨Nat.le_of_ble_eq_true rfl, Nat.le_of_ble_eq_true rfl⟩ List.perm_append_comm (fun u => wX3 k ad χ1 ++ wX4 k am u) (fun _ => List.perm_append_comm) 70 4 rfl rfl rfl rfl rfl (Nat.le_of_ble_eq_true rfl) dL_law_364 ⟨Nat.le_of_ble_eq_true rfl, Nat.le_of_ble_eq_true rfl⟩ (fun r2 μ1 H locs hw hd => ?_)
      refine lv_icmp_eq (tgt := 663) hx hb dL_law_367 (by decide) (fun _ => ?_) (fun q => absurd hw.1 q)
      exact B663 hlt χ1 μ1 _ _ _ hw.2 hd hl
    by_cases c9 : v = 8
    · refine lv_tableIn (tgt := 372) hx hb dL_law_32 (by rw [c9]; decide) (by rw [c9]; decide) (by rw [c9]; rfl) (by decide) ?_
      refine lv_aload_n hx hb dL_law_372 rfl (lv_at hl 1 rfl) ?_
      refine lv_aload_n hx hb dL_law_373 rfl (lv_at hl 0 rfl) ?_
      refine lv_iload_n hx hb dL_law_374 rfl (lv_at hl 3 rfl) ?_
      refine lv_iconst (v := 1) hx hb dL_law_375 (by decide) ?_
      refine lv_iadd hx hb dL_law_376 ?_
      refine va_sld hx hb hX hbl hbA hd.2.2 in1 dL_law_377 ?_
      refine v_i C hd hl M_X3_giveUp gL_law_X3_giveUp (c_X3_giveUp l B k ad χ (xs (nI (4 * j) + 1).toNatClampNeg) _ (ok8 χ μ j hj5 hsim (xs (nI (4 * j) + 1).toNatClampNeg))) ⟨rfl, rfl⟩ ⟨Nat.le_of_ble_eq_true rfl, Nat.le_of_ble_eq_true rfl⟩ (List.Perm.refl _) (fun u => wX3 k ad u ++ wX4 k am μ) (fun _ => List.Perm.refl _) 0 3 rfl rfl rfl rfl rfl (Nat.le_of_ble_eq_true rfl) dL_law_378 ⟨Nat.le_of_ble_eq_true rfl, Nat.le_of_ble_eq_true rfl⟩ (fun r χ1 H locs hw hd => ?_)
      refine lv_aload_n hx hb dL_law_381 rfl (lv_at hl 2 rfl) ?_
      refine lv_aload_n hx hb dL_law_382 rfl (lv_at hl 0 rfl) ?_
      refine lv_iload_n hx hb dL_law_383 rfl (lv_at hl 3 rfl) ?_
      refine lv_iconst (v := 1) hx hb dL_law_384 (by decide) ?_
      refine lv_iadd hx hb dL_law_385 ?_
      refine va_sld hx hb hX hbl hbA hd.2.2 in1 dL_law_386 ?_
      refine v_i C hd hl M_X4_giveUp gL_law_X4_giveUp (c_X4_giveUp l B k am μ (xs (nI (4 * j) + 1).toNatClampNeg) _ hw) ⟨rfl, rfl⟩ ⟨Nat.le_of_ble_eq_true rfl, Nat.le_of_ble_eq_true rfl⟩ List.perm_append_comm (fun u => wX3 k ad χ1 ++ wX4 k am u) (fun _ => List.perm_append_comm) 70 4 rfl rfl rfl rfl rfl (Nat.le_of_ble_eq_true rfl) dL_law_387 ⟨Nat.le_of_ble_eq_true rfl, Nat.le_of_ble_eq_true rfl⟩ (fun r2 μ1 H locs hw hd => ?_)
      refine lv_icmp_eq (tgt := 663) hx hb dL_law_390 (by decide) (fun _ => ?_) (fun q => absurd hw.1 q)
      exact B663 hlt χ1 μ1 _ _ _ hw.2 hd hl
    by_cases c10 : v = 9
    · refine lv_tableIn (tgt := 395) hx hb dL_law_32 (by rw [c10]; decide) (by rw [c10]; decide) (by rw [c10]; rfl) (by decide) ?_
      refine lv_aload_n hx hb dL_law_395 rfl (lv_at hl 1 rfl) ?_
      refine lv_aload_n hx hb dL_law_396 rfl (lv_at hl 0 rfl) ?_
      refine lv_iload_n hx hb dL_law_397 rfl (lv_at hl 3 rfl) ?_
      refine lv_iconst (v := 1) hx hb dL_law_398 (by decide) ?_
      refine lv_iadd hx hb dL_law_399 ?_
      refine va_sld hx hb hX hbl hbA hd.2.2 in1 dL_law_400 ?_
      refine lv_i2c (v := ((xs (nI (4 * j) + 1).toNatClampNeg).toUInt32 % 65536).toInt32) hx hb dL_law_401 rfl ?_
      refine v_i C hd hl M_X3_type gL_law_X3_type (c_X3_type l B k ad χ (((xs (nI (4 * j) + 1).toNatClampNeg).toUInt32 % 65536).toInt32) _ (ok9 χ μ j hj5 hsim (((xs (nI (4 * j) + 1).toNatClampNeg).toUInt32 % 65536).toInt32) (i2c_nn _))) ⟨rfl, rfl⟩ ⟨Nat.le_of_ble_eq_true rfl, Nat.le_of_ble_eq_true rfl⟩ (List.Perm.refl _) (fun u => wX3 k ad u ++ wX4 k am μ) (fun _ => List.Perm.refl _) 0 3 rfl rfl rfl rfl rfl (Nat.le_of_ble_eq_true rfl) dL_law_402 ⟨Nat.le_of_ble_eq_true rfl, Nat.le_of_ble_eq_true rfl⟩ (fun r χ1 H locs hw hd => ?_)
      refine lv_aload_n hx hb dL_law_405 rfl (lv_at hl 2 rfl) ?_
      refine lv_aload_n hx hb dL_law_406 rfl (lv_at hl 0 rfl) ?_
      refine lv_iload_n hx hb dL_law_407 rfl (lv_at hl 3 rfl) ?_
      refine lv_iconst (v := 1) hx hb dL_law_408 (by decide) ?_
      refine lv_iadd hx hb dL_law_409 ?_
      refine va_sld hx hb hX hbl hbA hd.2.2 in1 dL_law_410 ?_
      refine lv_i2c (v := ((xs (nI (4 * j) + 1).toNatClampNeg).toUInt32 % 65536).toInt32) hx hb dL_law_411 rfl ?_
      refine v_i C hd hl M_X4_type gL_law_X4_type (c_X4_type l B k am μ (((xs (nI (4 * j) + 1).toNatClampNeg).toUInt32 % 65536).toInt32) _ hw) ⟨rfl, rfl⟩ ⟨Nat.le_of_ble_eq_true rfl, Nat.le_of_ble_eq_true rfl⟩ List.perm_append_comm (fun u => wX3 k ad χ1 ++ wX4 k am u) (fun _ => List.perm_append_comm) 70 4 rfl rfl rfl rfl rfl (Nat.le_of_ble_eq_true rfl) dL_law_412 ⟨Nat.le_of_ble_eq_true rfl, Nat.le_of_ble_eq_true rfl⟩ (fun r2 μ1 H locs hw hd => ?_)
      refine lv_icmp_eq (tgt := 663) hx hb dL_law_415 (by decide) (fun _ => ?_) (fun q => absurd hw.1 q)
      exact B663 hlt χ1 μ1 _ _ _ hw.2 hd hl
    by_cases c11 : v = 10
    · refine lv_tableIn (tgt := 420) hx hb dL_law_32 (by rw [c11]; decide) (by rw [c11]; decide) (by rw [c11]; rfl) (by decide) ?_
      refine lv_aload_n hx hb dL_law_420 rfl (lv_at hl 1 rfl) ?_
      refine v_i C hd hl M_X3_clearText gL_law_X3_clearText (c_X3_clearText l B k ad χ  _ (ok10 χ μ j hj5 hsim )) ⟨rfl, rfl⟩ ⟨Nat.le_of_ble_eq_true rfl, Nat.le_of_ble_eq_true rfl⟩ (List.Perm.refl _) (fun u => wX3 k ad u ++ wX4 k am μ) (fun _ => List.Perm.refl _) 0 3 rfl rfl rfl rfl rfl (Nat.le_of_ble_eq_true rfl) dL_law_421 ⟨Nat.le_of_ble_eq_true rfl, Nat.le_of_ble_eq_true rfl⟩ (fun r χ1 H locs hw hd => ?_)
      refine lv_aload_n hx hb dL_law_424 rfl (lv_at hl 2 rfl) ?_
      refine v_i C hd hl M_X4_clearText gL_law_X4_clearText (c_X4_clearText l B k am μ  _ hw) ⟨rfl, rfl⟩ ⟨Nat.le_of_ble_eq_true rfl, Nat.le_of_ble_eq_true rfl⟩ List.perm_append_comm (fun u => wX3 k ad χ1 ++ wX4 k am u) (fun _ => List.perm_append_comm) 70 4 rfl rfl rfl rfl rfl (Nat.le_of_ble_eq_true rfl) dL_law_425 ⟨Nat.le_of_ble_eq_true rfl, Nat.le_of_ble_eq_true rfl⟩ (fun r2 μ1 H locs hw hd => ?_)
      refine lv_icmp_eq (tgt := 663) hx hb dL_law_428 (by decide) (fun _ => ?_) (fun q => absurd hw.1 q)
      exact B663 hlt χ1 μ1 _ _ _ hw.2 hd hl
    by_cases c12 : v = 11
    · refine lv_tableIn (tgt := 433) hx hb dL_law_32 (by rw [c12]; decide) (by rw [c12]; decide) (by rw [c12]; rfl) (by decide) ?_
      refine lv_aload_n hx hb dL_law_433 rfl (lv_at hl 1 rfl) ?_
      refine v_i C hd hl M_X3_undo gL_law_X3_undo (c_X3_undo l B k ad χ  _ (ok11 χ μ j hj5 hsim )) ⟨rfl, rfl⟩ ⟨Nat.le_of_ble_eq_true rfl, Nat.le_of_ble_eq_true rfl⟩ (List.Perm.refl _) (fun u => wX3 k ad u ++ wX4 k am μ) (fun _ => List.Perm.refl _) 0 3 rfl rfl rfl rfl rfl (Nat.le_of_ble_eq_true rfl) dL_law_434 ⟨Nat.le_of_ble_eq_true rfl, Nat.le_of_ble_eq_true rfl⟩ (fun r χ1 H locs hw hd => ?_)
      refine lv_aload_n hx hb dL_law_437 rfl (lv_at hl 2 rfl) ?_
      refine v_i C hd hl M_X4_undo gL_law_X4_undo (c_X4_undo l B k am μ  _ hw) ⟨rfl, rfl⟩ ⟨Nat.le_of_ble_eq_true rfl, Nat.le_of_ble_eq_true rfl⟩ List.perm_append_comm (fun u => wX3 k ad χ1 ++ wX4 k am u) (fun _ => List.perm_append_comm) 70 4 rfl rfl rfl rfl rfl (Nat.le_of_ble_eq_true rfl) dL_law_438 ⟨Nat.le_of_ble_eq_true rfl, Nat.le_of_ble_eq_true rfl⟩ (fun r2 μ1 H locs hw hd => ?_)
      refine lv_icmp_eq (tgt := 663) hx hb dL_law_441 (by decide) (fun _ => ?_) (fun q => absurd hw.1 q)
      exact B663 hlt χ1 μ1 _ _ _ hw.2 hd hl
    by_cases c13 : v = 12
    · refine lv_tableIn (tgt := 446) hx hb dL_law_32 (by rw [c13]; decide) (by rw [c13]; decide) (by rw [c13]; rfl) (by decide) ?_
      refine lv_aload_n hx hb dL_law_446 rfl (lv_at hl 1 rfl) ?_
      refine v_i C hd hl M_X3_keep gL_law_X3_keep (c_X3_keep l B k ad χ  _ (ok12 χ μ j hj5 hsim )) ⟨rfl, rfl⟩ ⟨Nat.le_of_ble_eq_true rfl, Nat.le_of_ble_eq_true rfl⟩ (List.Perm.refl _) (fun u => wX3 k ad u ++ wX4 k am μ) (fun _ => List.Perm.refl _) 0 3 rfl rfl rfl rfl rfl (Nat.le_of_ble_eq_true rfl) dL_law_447 ⟨Nat.le_of_ble_eq_true rfl, Nat.le_of_ble_eq_true rfl⟩ (fun r χ1 H locs hw hd => ?_)
      refine lv_aload_n hx hb dL_law_450 rfl (lv_at hl 2 rfl) ?_
      refine v_i C hd hl M_X4_keep gL_law_X4_keep (c_X4_keep l B k am μ  _ hw) ⟨rfl, rfl⟩ ⟨Nat.le_of_ble_eq_true rfl, Nat.le_of_ble_eq_true rfl⟩ List.perm_append_comm (fun u => wX3 k ad χ1 ++ wX4 k am u) (fun _ => List.perm_append_comm) 70 4 rfl rfl rfl rfl rfl (Nat.le_of_ble_eq_true rfl) dL_law_451 ⟨Nat.le_of_ble_eq_true rfl, Nat.le_of_ble_eq_true rfl⟩ (fun r2 μ1 H locs hw hd => ?_)
      refine lv_icmp_eq (tgt := 663) hx hb dL_law_454 (by decide) (fun _ => ?_) (fun q => absurd hw.1 q)
      exact B663 hlt χ1 μ1 _ _ _ hw.2 hd hl
    by_cases c14 : v = 13
    · refine lv_tableIn (tgt := 459) hx hb dL_law_32 (by rw [c14]; decide) (by rw [c14]; decide) (by rw [c14]; rfl) (by decide) ?_
      refine lv_aload_n hx hb dL_law_459 rfl (lv_at hl 1 rfl) ?_
      refine v_i C hd hl M_X3_restore gL_law_X3_restore (c_X3_restore l B k ad χ  _ (ok13 χ μ j hj5 hsim )) ⟨rfl, rfl⟩ ⟨Nat.le_of_ble_eq_true rfl, Nat.le_of_ble_eq_true rfl⟩ (List.Perm.refl _) (fun u => wX3 k ad u ++ wX4 k am μ) (fun _ => List.Perm.refl _) 0 3 rfl rfl rfl rfl rfl (Nat.le_of_ble_eq_true rfl) dL_law_460 ⟨Nat.le_of_ble_eq_true rfl, Nat.le_of_ble_eq_true rfl⟩ (fun r χ1 H locs hw hd => ?_)
      refine lv_aload_n hx hb dL_law_463 rfl (lv_at hl 2 rfl) ?_
      refine v_i C hd hl M_X4_restore gL_law_X4_restore (c_X4_restore l B k am μ  _ hw) ⟨rfl, rfl⟩ ⟨Nat.le_of_ble_eq_true rfl, Nat.le_of_ble_eq_true rfl⟩ List.perm_append_comm (fun u => wX3 k ad χ1 ++ wX4 k am u) (fun _ => List.perm_append_comm) 70 4 rfl rfl rfl rfl rfl (Nat.le_of_ble_eq_true rfl) dL_law_464 ⟨Nat.le_of_ble_eq_true rfl, Nat.le_of_ble_eq_true rfl⟩ (fun r2 μ1 H locs hw hd => ?_)
      refine lv_icmp_eq (tgt := 663) hx hb dL_law_467 (by decide) (fun _ => ?_) (fun q => absurd hw.1 q)
      exact B663 hlt χ1 μ1 _ _ _ hw.2 hd hl
    by_cases c15 : v = 14
    · refine lv_tableIn (tgt := 472) hx hb dL_law_32 (by rw [c15]; decide) (by rw [c15]; decide) (by rw [c15]; rfl) (by decide) ?_
      refine lv_aload_n hx hb dL_law_472 rfl (lv_at hl 1 rfl) ?_
      refine lv_aload_n hx hb dL_law_473 rfl (lv_at hl 0 rfl) ?_
      refine lv_iload_n hx hb dL_law_474 rfl (lv_at hl 3 rfl) ?_
      refine lv_iconst (v := 1) hx hb dL_law_475 (by decide) ?_
      refine lv_iadd hx hb dL_law_476 ?_
      refine va_sld hx hb hX hbl hbA hd.2.2 in1 dL_law_477 ?_
      refine lv_aload_n hx hb dL_law_478 rfl (lv_at hl 0 rfl) ?_
      refine lv_iload_n hx hb dL_law_479 rfl (lv_at hl 3 rfl) ?_
      refine lv_iconst (v := 2) hx hb dL_law_480 (by decide) ?_
      refine lv_iadd hx hb dL_law_481 ?_
      refine va_sld hx hb hX hbl hbA hd.2.2 in2 dL_law_482 ?_
      refine v_i C hd hl M_X3_address gL_law_X3_address (c_X3_address l B k ad χ (xs (nI (4 * j) + 1).toNatClampNeg) (xs (nI (4 * j) + 2).toNatClampNeg) _ (ok14 χ μ j hj5 hsim (xs (nI (4 * j) + 1).toNatClampNeg) (xs (nI (4 * j) + 2).toNatClampNeg))) ⟨rfl, rfl⟩ ⟨Nat.le_of_ble_eq_true rfl, Nat.le_of_ble_eq_true rfl⟩ (List.Perm.refl _) (fun _ => wX3 k ad χ ++ wX4 k am μ) (fun _ => List.Perm.refl _) 0 3 rfl rfl rfl rfl rfl (Nat.le_of_ble_eq_true rfl) dL_law_483 ⟨Nat.le_of_ble_eq_true rfl, Nat.le_of_ble_eq_true rfl⟩ (fun r _ H locs hw hd => ?_)
      refine lv_aload_n hx hb dL_law_486 rfl (lv_at hl 2 rfl) ?_
      refine lv_aload_n hx hb dL_law_487 rfl (lv_at hl 0 rfl) ?_
      refine lv_iload_n hx hb dL_law_488 rfl (lv_at hl 3 rfl) ?_
      refine lv_iconst (v := 1) hx hb dL_law_489 (by decide) ?_
      refine lv_iadd hx hb dL_law_490 ?_
      refine va_sld hx hb hX hbl hbA hd.2.2 in1 dL_law_491 ?_
      refine lv_aload_n hx hb dL_law_492 rfl (lv_at hl 0 rfl) ?_
      refine lv_iload_n hx hb dL_law_493 rfl (lv_at hl 3 rfl) ?_
      refine lv_iconst (v := 2) hx hb dL_law_494 (by decide) ?_
      refine lv_iadd hx hb dL_law_495 ?_
      refine va_sld hx hb hX hbl hbA hd.2.2 in2 dL_law_496 ?_
      refine v_i C hd hl M_X4_address gL_law_X4_address (c_X4_address l B k am μ (xs (nI (4 * j) + 1).toNatClampNeg) (xs (nI (4 * j) + 2).toNatClampNeg) _ hw) ⟨rfl, rfl⟩ ⟨Nat.le_of_ble_eq_true rfl, Nat.le_of_ble_eq_true rfl⟩ List.perm_append_comm (fun _ => wX3 k ad χ ++ wX4 k am μ) (fun _ => List.perm_append_comm) 70 4 rfl rfl rfl rfl rfl (Nat.le_of_ble_eq_true rfl) dL_law_497 ⟨Nat.le_of_ble_eq_true rfl, Nat.le_of_ble_eq_true rfl⟩ (fun r2 _ H locs hw hd => ?_)
      refine lv_icmp_eq (tgt := 663) hx hb dL_law_500 (by decide) (fun _ => ?_) (fun q => absurd hw.1 q)
      exact B663 hlt χ μ _ _ _ hw.2 hd hl
    by_cases c16 : v = 15
    · refine lv_tableIn (tgt := 505) hx hb dL_law_32 (by rw [c16]; decide) (by rw [c16]; decide) (by rw [c16]; rfl) (by decide) ?_
      refine lv_aload_n hx hb dL_law_505 rfl (lv_at hl 1 rfl) ?_
      refine lv_aload_n hx hb dL_law_506 rfl (lv_at hl 0 rfl) ?_
      refine lv_iload_n hx hb dL_law_507 rfl (lv_at hl 3 rfl) ?_
      refine lv_iconst (v := 1) hx hb dL_law_508 (by decide) ?_
      refine lv_iadd hx hb dL_law_509 ?_
      refine va_sld hx hb hX hbl hbA hd.2.2 in1 dL_law_510 ?_
      refine lv_aload_n hx hb dL_law_511 rfl (lv_at hl 0 rfl) ?_
      refine lv_iload_n hx hb dL_law_512 rfl (lv_at hl 3 rfl) ?_
      refine lv_iconst (v := 2) hx hb dL_law_513 (by decide) ?_
      refine lv_iadd hx hb dL_law_514 ?_
      refine va_sld hx hb hX hbl hbA hd.2.2 in2 dL_law_515 ?_
      refine v_i C hd hl M_X3_sector gL_law_X3_sector (c_X3_sector l B k ad χ (xs (nI (4 * j) + 1).toNatClampNeg) (xs (nI (4 * j) + 2).toNatClampNeg) _ (ok15 χ μ j hj5 hsim (xs (nI (4 * j) + 1).toNatClampNeg) (xs (nI (4 * j) + 2).toNatClampNeg))) ⟨rfl, rfl⟩ ⟨Nat.le_of_ble_eq_true rfl, Nat.le_of_ble_eq_true rfl⟩ (List.Perm.refl _) (fun _ => wX3 k ad χ ++ wX4 k am μ) (fun _ => List.Perm.refl _) 0 3 rfl rfl rfl rfl rfl (Nat.le_of_ble_eq_true rfl) dL_law_516 ⟨Nat.le_of_ble_eq_true rfl, Nat.le_of_ble_eq_true rfl⟩ (fun r _ H locs hw hd => ?_)
      refine lv_aload_n hx hb dL_law_519 rfl (lv_at hl 2 rfl) ?_
      refine lv_aload_n hx hb dL_law_520 rfl (lv_at hl 0 rfl) ?_
      refine lv_iload_n hx hb dL_law_521 rfl (lv_at hl 3 rfl) ?_
      refine lv_iconst (v := 1) hx hb dL_law_522 (by decide) ?_
      refine lv_iadd hx hb dL_law_523 ?_
      refine va_sld hx hb hX hbl hbA hd.2.2 in1 dL_law_524 ?_
      refine lv_aload_n hx hb dL_law_525 rfl (lv_at hl 0 rfl) ?_
      refine lv_iload_n hx hb dL_law_526 rfl (lv_at hl 3 rfl) ?_
      refine lv_iconst (v := 2) hx hb dL_law_527 (by decide) ?_
      refine lv_iadd hx hb dL_law_528 ?_
      refine va_sld hx hb hX hbl hbA hd.2.2 in2 dL_law_529 ?_
      refine v_i C hd hl M_X4_sector gL_law_X4_sector (c_X4_sector l B k am μ (xs (nI (4 * j) + 1).toNatClampNeg) (xs (nI (4 * j) + 2).toNatClampNeg) _ hw) ⟨rfl, rfl⟩ ⟨Nat.le_of_ble_eq_true rfl, Nat.le_of_ble_eq_true rfl⟩ List.perm_append_comm (fun _ => wX3 k ad χ ++ wX4 k am μ) (fun _ => List.perm_append_comm) 70 4 rfl rfl rfl rfl rfl (Nat.le_of_ble_eq_true rfl) dL_law_530 ⟨Nat.le_of_ble_eq_true rfl, Nat.le_of_ble_eq_true rfl⟩ (fun r2 _ H locs hw hd => ?_)
      refine lv_icmp_eq (tgt := 663) hx hb dL_law_533 (by decide) (fun _ => ?_) (fun q => absurd hw.1 q)
      exact B663 hlt χ μ _ _ _ hw.2 hd hl
    by_cases c17 : v = 16
    · refine lv_tableIn (tgt := 538) hx hb dL_law_32 (by rw [c17]; decide) (by rw [c17]; decide) (by rw [c17]; rfl) (by decide) ?_
      refine lv_aload_n hx hb dL_law_538 rfl (lv_at hl 1 rfl) ?_
      refine lv_aload_n hx hb dL_law_539 rfl (lv_at hl 0 rfl) ?_
      refine lv_iload_n hx hb dL_law_540 rfl (lv_at hl 3 rfl) ?_
      refine lv_iconst (v := 1) hx hb dL_law_541 (by decide) ?_
      refine lv_iadd hx hb dL_law_542 ?_
      refine va_sld hx hb hX hbl hbA hd.2.2 in1 dL_law_543 ?_
      refine lv_aload_n hx hb dL_law_544 rfl (lv_at hl 0 rfl) ?_
      refine lv_iload_n hx hb dL_law_545 rfl (lv_at hl 3 rfl) ?_
      refine lv_iconst (v := 2) hx hb dL_law_546 (by decide) ?_
      refine lv_iadd hx hb dL_law_547 ?_
      refine va_sld hx hb hX hbl hbA hd.2.2 in2 dL_law_548 ?_
      refine v_i C hd hl M_X3_head gL_law_X3_head (c_X3_head l B k ad χ (xs (nI (4 * j) + 1).toNatClampNeg) (xs (nI (4 * j) + 2).toNatClampNeg) _ (ok16 χ μ j hj5 hsim (xs (nI (4 * j) + 1).toNatClampNeg) (xs (nI (4 * j) + 2).toNatClampNeg))) ⟨rfl, rfl⟩ ⟨Nat.le_of_ble_eq_true rfl, Nat.le_of_ble_eq_true rfl⟩ (List.Perm.refl _) (fun _ => wX3 k ad χ ++ wX4 k am μ) (fun _ => List.Perm.refl _) 0 3 rfl rfl rfl rfl rfl (Nat.le_of_ble_eq_true rfl) dL_law_549 ⟨Nat.le_of_ble_eq_true rfl, Nat.le_of_ble_eq_true rfl⟩ (fun r _ H locs hw hd => ?_)
      refine lv_aload_n hx hb dL_law_552 rfl (lv_at hl 2 rfl) ?_
      refine lv_aload_n hx hb dL_law_553 rfl (lv_at hl 0 rfl) ?_
      refine lv_iload_n hx hb dL_law_554 rfl (lv_at hl 3 rfl) ?_
      refine lv_iconst (v := 1) hx hb dL_law_555 (by decide) ?_
      refine lv_iadd hx hb dL_law_556 ?_
      refine va_sld hx hb hX hbl hbA hd.2.2 in1 dL_law_557 ?_
      refine lv_aload_n hx hb dL_law_558 rfl (lv_at hl 0 rfl) ?_
      refine lv_iload_n hx hb dL_law_559 rfl (lv_at hl 3 rfl) ?_
      refine lv_iconst (v := 2) hx hb dL_law_560 (by decide) ?_
      refine lv_iadd hx hb dL_law_561 ?_
      refine va_sld hx hb hX hbl hbA hd.2.2 in2 dL_law_562 ?_
      refine v_i C hd hl M_X4_head gL_law_X4_head (c_X4_head l B k am μ (xs (nI (4 * j) + 1).toNatClampNeg) (xs (nI (4 * j) + 2).toNatClampNeg) _ hw) ⟨rfl, rfl⟩ ⟨Nat.le_of_ble_eq_true rfl, Nat.le_of_ble_eq_true rfl⟩ List.perm_append_comm (fun _ => wX3 k ad χ ++ wX4 k am μ) (fun _ => List.perm_append_comm) 70 4 rfl rfl rfl rfl rfl (Nat.le_of_ble_eq_true rfl) dL_law_563 ⟨Nat.le_of_ble_eq_true rfl, Nat.le_of_ble_eq_true rfl⟩ (fun r2 _ H locs hw hd => ?_)
      refine lv_icmp_eq (tgt := 663) hx hb dL_law_566 (by decide) (fun _ => ?_) (fun q => absurd hw.1 q)
      exact B663 hlt χ μ _ _ _ hw.2 hd hl
    by_cases c18 : v = 17
    · refine lv_tableIn (tgt := 571) hx hb dL_law_32 (by rw [c18]; decide) (by rw [c18]; decide) (by rw [c18]; rfl) (by decide) ?_
      refine lv_aload_n hx hb dL_law_571 rfl (lv_at hl 1 rfl) ?_
      refine lv_aload_n hx hb dL_law_572 rfl (lv_at hl 0 rfl) ?_
      refine lv_iload_n hx hb dL_law_573 rfl (lv_at hl 3 rfl) ?_
      refine lv_iconst (v := 1) hx hb dL_law_574 (by decide) ?_
      refine lv_iadd hx hb dL_law_575 ?_
      refine va_sld hx hb hX hbl hbA hd.2.2 in1 dL_law_576 ?_
      refine v_i C hd hl M_X3_readsLeft gL_law_X3_readsLeft (c_X3_readsLeft l B k ad χ (xs (nI (4 * j) + 1).toNatClampNeg) _ (ok17 χ μ j hj5 hsim (xs (nI (4 * j) + 1).toNatClampNeg))) ⟨rfl, rfl⟩ ⟨Nat.le_of_ble_eq_true rfl, Nat.le_of_ble_eq_true rfl⟩ (List.Perm.refl _) (fun _ => wX3 k ad χ ++ wX4 k am μ) (fun _ => List.Perm.refl _) 0 3 rfl rfl rfl rfl rfl (Nat.le_of_ble_eq_true rfl) dL_law_577 ⟨Nat.le_of_ble_eq_true rfl, Nat.le_of_ble_eq_true rfl⟩ (fun r _ H locs hw hd => ?_)
      refine lv_aload_n hx hb dL_law_580 rfl (lv_at hl 2 rfl) ?_
      refine lv_aload_n hx hb dL_law_581 rfl (lv_at hl 0 rfl) ?_
      refine lv_iload_n hx hb dL_law_582 rfl (lv_at hl 3 rfl) ?_
      refine lv_iconst (v := 1) hx hb dL_law_583 (by decide) ?_
      refine lv_iadd hx hb dL_law_584 ?_
      refine va_sld hx hb hX hbl hbA hd.2.2 in1 dL_law_585 ?_
      refine v_i C hd hl M_X4_readsLeft gL_law_X4_readsLeft (c_X4_readsLeft l B k am μ (xs (nI (4 * j) + 1).toNatClampNeg) _ hw) ⟨rfl, rfl⟩ ⟨Nat.le_of_ble_eq_true rfl, Nat.le_of_ble_eq_true rfl⟩ List.perm_append_comm (fun u => wX3 k ad χ ++ wX4 k am u) (fun _ => List.perm_append_comm) 70 4 rfl rfl rfl rfl rfl (Nat.le_of_ble_eq_true rfl) dL_law_586 ⟨Nat.le_of_ble_eq_true rfl, Nat.le_of_ble_eq_true rfl⟩ (fun r2 μ1 H locs hw hd => ?_)
      refine lv_icmp_eq (tgt := 663) hx hb dL_law_589 (by decide) (fun _ => ?_) (fun q => absurd hw.1 q)
      exact B663 hlt χ μ1 _ _ _ hw.2 hd hl
    by_cases c19 : v = 18
    · refine lv_tableIn (tgt := 594) hx hb dL_law_32 (by rw [c19]; decide) (by rw [c19]; decide) (by rw [c19]; rfl) (by decide) ?_
      refine lv_aload_n hx hb dL_law_594 rfl (lv_at hl 1 rfl) ?_
      refine lv_aload_n hx hb dL_law_595 rfl (lv_at hl 0 rfl) ?_
      refine lv_iload_n hx hb dL_law_596 rfl (lv_at hl 3 rfl) ?_
      refine lv_iconst (v := 1) hx hb dL_law_597 (by decide) ?_
      refine lv_iadd hx hb dL_law_598 ?_
      refine va_sld hx hb hX hbl hbA hd.2.2 in1 dL_law_599 ?_
      refine v_i C hd hl M_X3_wouldLose gL_law_X3_wouldLose (c_X3_wouldLose l B k ad χ (xs (nI (4 * j) + 1).toNatClampNeg) _ (ok18 χ μ j hj5 hsim (xs (nI (4 * j) + 1).toNatClampNeg))) ⟨rfl, rfl⟩ ⟨Nat.le_of_ble_eq_true rfl, Nat.le_of_ble_eq_true rfl⟩ (List.Perm.refl _) (fun u => wX3 k ad u ++ wX4 k am μ) (fun _ => List.Perm.refl _) 0 3 rfl rfl rfl rfl rfl (Nat.le_of_ble_eq_true rfl) dL_law_600 ⟨Nat.le_of_ble_eq_true rfl, Nat.le_of_ble_eq_true rfl⟩ (fun r χ1 H locs hw hd => ?_)
      refine lv_aload_n hx hb dL_law_603 rfl (lv_at hl 2 rfl) ?_
      refine lv_aload_n hx hb dL_law_604 rfl (lv_at hl 0 rfl) ?_
      refine lv_iload_n hx hb dL_law_605 rfl (lv_at hl 3 rfl) ?_
      refine lv_iconst (v := 1) hx hb dL_law_606 (by decide) ?_
      refine lv_iadd hx hb dL_law_607 ?_
      refine va_sld hx hb hX hbl hbA hd.2.2 in1 dL_law_608 ?_
      refine v_i C hd hl M_X4_wouldLose gL_law_X4_wouldLose (c_X4_wouldLose l B k am μ (xs (nI (4 * j) + 1).toNatClampNeg) _ hw) ⟨rfl, rfl⟩ ⟨Nat.le_of_ble_eq_true rfl, Nat.le_of_ble_eq_true rfl⟩ List.perm_append_comm (fun u => wX3 k ad χ1 ++ wX4 k am u) (fun _ => List.perm_append_comm) 70 4 rfl rfl rfl rfl rfl (Nat.le_of_ble_eq_true rfl) dL_law_609 ⟨Nat.le_of_ble_eq_true rfl, Nat.le_of_ble_eq_true rfl⟩ (fun r2 μ1 H locs hw hd => ?_)
      refine lv_icmp_eq (tgt := 663) hx hb dL_law_612 (by decide) (fun _ => ?_) (fun q => absurd hw.1 q)
      exact B663 hlt χ1 μ1 _ _ _ hw.2 hd hl
    by_cases c20 : v = 19
    · refine lv_tableIn (tgt := 617) hx hb dL_law_32 (by rw [c20]; decide) (by rw [c20]; decide) (by rw [c20]; rfl) (by decide) ?_
      refine lv_aload_n hx hb dL_law_617 rfl (lv_at hl 1 rfl) ?_
      refine lv_aload_n hx hb dL_law_618 rfl (lv_at hl 0 rfl) ?_
      refine lv_iload_n hx hb dL_law_619 rfl (lv_at hl 3 rfl) ?_
      refine lv_iconst (v := 1) hx hb dL_law_620 (by decide) ?_
      refine lv_iadd hx hb dL_law_621 ?_
      refine va_sld hx hb hX hbl hbA hd.2.2 in1 dL_law_622 ?_
      refine v_i C hd hl M_X3_worst gL_law_X3_worst (c_X3_worst l B k ad χ (xs (nI (4 * j) + 1).toNatClampNeg) _ (ok19 χ μ j hj5 hsim (xs (nI (4 * j) + 1).toNatClampNeg))) ⟨rfl, rfl⟩ ⟨Nat.le_of_ble_eq_true rfl, Nat.le_of_ble_eq_true rfl⟩ (List.Perm.refl _) (fun _ => wX3 k ad χ ++ wX4 k am μ) (fun _ => List.Perm.refl _) 0 3 rfl rfl rfl rfl rfl (Nat.le_of_ble_eq_true rfl) dL_law_623 ⟨Nat.le_of_ble_eq_true rfl, Nat.le_of_ble_eq_true rfl⟩ (fun r _ H locs hw hd => ?_)
      refine lv_aload_n hx hb dL_law_626 rfl (lv_at hl 2 rfl) ?_
      refine lv_aload_n hx hb dL_law_627 rfl (lv_at hl 0 rfl) ?_
      refine lv_iload_n hx hb dL_law_628 rfl (lv_at hl 3 rfl) ?_
      refine lv_iconst (v := 1) hx hb dL_law_629 (by decide) ?_
      refine lv_iadd hx hb dL_law_630 ?_
      refine va_sld hx hb hX hbl hbA hd.2.2 in1 dL_law_631 ?_
      refine v_i C hd hl M_X4_worst gL_law_X4_worst (c_X4_worst l B k am μ (xs (nI (4 * j) + 1).toNatClampNeg) _ hw) ⟨rfl, rfl⟩ ⟨Nat.le_of_ble_eq_true rfl, Nat.le_of_ble_eq_true rfl⟩ List.perm_append_comm (fun _ => wX3 k ad χ ++ wX4 k am μ) (fun _ => List.perm_append_comm) 70 4 rfl rfl rfl rfl rfl (Nat.le_of_ble_eq_true rfl) dL_law_632 ⟨Nat.le_of_ble_eq_true rfl, Nat.le_of_ble_eq_true rfl⟩ (fun r2 _ H locs hw hd => ?_)
      refine lv_icmp_eq (tgt := 663) hx hb dL_law_635 (by decide) (fun _ => ?_) (fun q => absurd hw.1 q)
      exact B663 hlt χ μ _ _ _ hw.2 hd hl
    by_cases c21 : v = 20
    · refine lv_tableIn (tgt := 640) hx hb dL_law_32 (by rw [c21]; decide) (by rw [c21]; decide) (by rw [c21]; rfl) (by decide) ?_
      refine lv_aload_n hx hb dL_law_640 rfl (lv_at hl 1 rfl) ?_
      refine lv_aload_n hx hb dL_law_641 rfl (lv_at hl 0 rfl) ?_
      refine lv_iload_n hx hb dL_law_642 rfl (lv_at hl 3 rfl) ?_
      refine lv_iconst (v := 1) hx hb dL_law_643 (by decide) ?_
      refine lv_iadd hx hb dL_law_644 ?_
      refine va_sld hx hb hX hbl hbA hd.2.2 in1 dL_law_645 ?_
      refine v_i C hd hl M_X3_count gL_law_X3_count (c_X3_count l B k ad χ (xs (nI (4 * j) + 1).toNatClampNeg) _ (ok20 χ μ j hj5 hsim (xs (nI (4 * j) + 1).toNatClampNeg))) ⟨rfl, rfl⟩ ⟨Nat.le_of_ble_eq_true rfl, Nat.le_of_ble_eq_true rfl⟩ (List.Perm.refl _) (fun _ => wX3 k ad χ ++ wX4 k am μ) (fun _ => List.Perm.refl _) 0 3 rfl rfl rfl rfl rfl (Nat.le_of_ble_eq_true rfl) dL_law_646 ⟨Nat.le_of_ble_eq_true rfl, Nat.le_of_ble_eq_true rfl⟩ (fun r _ H locs hw hd => ?_)
      refine lv_aload_n hx hb dL_law_649 rfl (lv_at hl 2 rfl) ?_
      refine lv_aload_n hx hb dL_law_650 rfl (lv_at hl 0 rfl) ?_
      refine lv_iload_n hx hb dL_law_651 rfl (lv_at hl 3 rfl) ?_
      refine lv_iconst (v := 1) hx hb dL_law_652 (by decide) ?_
      refine lv_iadd hx hb dL_law_653 ?_
      refine va_sld hx hb hX hbl hbA hd.2.2 in1 dL_law_654 ?_
      refine v_i C hd hl M_X4_count gL_law_X4_count (c_X4_count l B k am μ (xs (nI (4 * j) + 1).toNatClampNeg) _ hw) ⟨rfl, rfl⟩ ⟨Nat.le_of_ble_eq_true rfl, Nat.le_of_ble_eq_true rfl⟩ List.perm_append_comm (fun _ => wX3 k ad χ ++ wX4 k am μ) (fun _ => List.perm_append_comm) 70 4 rfl rfl rfl rfl rfl (Nat.le_of_ble_eq_true rfl) dL_law_655 ⟨Nat.le_of_ble_eq_true rfl, Nat.le_of_ble_eq_true rfl⟩ (fun r2 _ H locs hw hd => ?_)
      refine lv_icmp_eq (tgt := 663) hx hb dL_law_658 (by decide) (fun _ => ?_) (fun q => absurd hw.1 q)
      exact B663 hlt χ μ _ _ _ hw.2 hd hl
    refine lv_tableOut (tgt := 663) hx hb dL_law_32 (by have q0 := sw_ne (z := 0) c1 (by decide); have q1 := sw_ne (z := 1) c2 (by decide); have q2 := sw_ne (z := 2) c3 (by decide); have q3 := sw_ne (z := 3) c4 (by decide); have q4 := sw_ne (z := 4) c5 (by decide); have q5 := sw_ne (z := 5) c6 (by decide); have q6 := sw_ne (z := 6) c7 (by decide); have q7 := sw_ne (z := 7) c8 (by decide); have q8 := sw_ne (z := 8) c9 (by decide); have q9 := sw_ne (z := 9) c10 (by decide); have q10 := sw_ne (z := 10) c11 (by decide); have q11 := sw_ne (z := 11) c12 (by decide); have q12 := sw_ne (z := 12) c13 (by decide); have q13 := sw_ne (z := 13) c14 (by decide); have q14 := sw_ne (z := 14) c15 (by decide); have q15 := sw_ne (z := 15) c16 (by decide); have q16 := sw_ne (z := 16) c17 (by decide); have q17 := sw_ne (z := 17) c18 (by decide); have q18 := sw_ne (z := 18) c19 (by decide); have q19 := sw_ne (z := 19) c20 (by decide); have q20 := sw_ne (z := 20) c21 (by decide); omega) (by decide) ?_
    exact B663 hlt χ μ _ _ _ (okS χ μ j hsim) hd hl
set_option maxHeartbeats 8000000 in
set_option maxRecDepth 100000 in
theorem start_of (Sim : XS → MO → Nat → Prop) (OK : LawOK Sim) {p : Program} {e : Env} {s : State} {m : MethodId} {below : List Frame} {meth : Method} {c : Code} (l : Launch) {b L : Nat} {xs : Nat → Int32} (hL : L ≤ 2048) (C0 : lw_At p s m meth c b L xs) : W p l e room_1 s m #[Value.ref b] below meth c s.heap [] 0 0 (lw_Z below #[Value.ref b] s) (entryFrame m ([Value.ref b] : List Value).toArray 4) := by
  obtain ⟨hx, hb, hr, hml, hown, hts, hX, hbl, hlocks, hgv⟩ := id C0
  obtain ⟨c0, iS0, hKn0⟩ := u_known (C := RX0) (T := TX0) (N := 6) (n := 6) hts inX0 (hts _ (wsL_law_in _ (List.mem_of_getElem? (i := 23) rfl)))
  obtain ⟨c1, iS1, hKn1⟩ := u_known (C := RX1) (T := TX1) (N := 15) (n := 15) hts inX1 (hts _ (wsL_law_in _ (List.mem_of_getElem? (i := 13) rfl)))
  obtain ⟨c2, iS2, hKn2⟩ := u_known (C := RX2) (T := TX2) (N := 3) (n := 3) hts inX2 (hts _ (wsL_law_in _ (List.mem_of_getElem? (i := 19) rfl)))
  obtain ⟨c3, iS3, hKn3⟩ := u_known (C := RX3) (T := TX3) (N := 6) (n := 6) hts inX3 (hts _ (wsL_law_in _ (List.mem_of_getElem? (i := 1) rfl)))
  obtain ⟨c4, iS4, hKn4⟩ := u_known (C := RX4) (T := TX4) (N := 10) (n := 10) hts inX4 (hts _ (wsL_law_in _ (List.mem_of_getElem? (i := 4) rfl)))
  obtain ⟨dC, dI, hKc⟩ : ∃ (dC : Nat → ClassId) (dI : Nat → Nat → Nat), ∀ (k : Nat) (q : vw_C), vwCl[k]? = some q → u_Kn s q.1 q.2.1 q.2.2 (dC k) (dI k) := by
    refine ⟨fun k => match k with | 0 => c0 | 1 => c1 | 2 => c2 | 3 => c3 | _ => c4, fun k => match k with | 0 => iS0 | 1 => iS1 | 2 => iS2 | 3 => iS3 | _ => iS4, ?_⟩
    intro k q hq
    match k, hq with
    | 0, hq => cases hq; exact hKn0
    | 1, hq => cases hq; exact hKn1
    | 2, hq => cases hq; exact hKn2
    | 3, hq => cases hq; exact hKn3
    | 4, hq => cases hq; exact hKn4
    | k + 5, hq => simp [vwCl] at hq
  obtain ⟨cI, kI, pI, i1, i2, i3⟩ := Cond.arrayClass_spec (hts (.arrayClass .int) (wsL_law_in _ (List.mem_of_getElem? (i := 32) rfl)))
  obtain ⟨cZ, kZ, pZ, z1, z2, z3⟩ := Cond.arrayClass_spec (hts (.arrayClass .boolean) (wsL_law_in _ (List.mem_of_getElem? (i := 35) rfl)))
  have hao : (Cond.arrayOver (.object RX1)).before #[Value.ref b] s = true := hts _ (by decide +kernel)
  obtain ⟨pO, cO, kO, o1, -, o3, o4, o5⟩ := Cond.arrayOver_spec hao
  have hK : Kx (dC, dI) (cI, cZ, cO) s := by
    refine ⟨⟨hKc, fun j q hq => ?_⟩, fun w hw => ?_, va_AO.of hao⟩
    · match j, hq with
      | 0, hq => cases hq; exact ⟨fun n z => ⟨(fun k h => by cases h), kI, i2, pI, i3⟩, i1⟩
      | 1, hq => cases hq; exact ⟨fun n z => ⟨(fun k h => by cases h), kZ, z2, pZ, z3⟩, z1⟩
      | 2, hq => cases hq; exact ⟨fun n z => ⟨(fun k h => by cases h), kO, o3, pO, o4⟩, kO, pO, o3, o4, o1, o5⟩
      | j + 3, hq => simp at hq
    · obtain ⟨a, i, x, g, rfl⟩ := nWs_form w hw
      exact va_Nw.of rfl (hts _ (nWs_in _ hw))
  have C : Cx p s m #[Value.ref b] meth c code 4 wsL_law RL meth.name ret (dC, dI) (cI, cZ, cO) (fun q : Nat => s.heap.size ≤ q) := ⟨hx, hb, hml, hown, fun w h => hts w (wsL_law_in w h), hr, hlocks, fun _ h => h, hK, rfl⟩
  have hd : Wd (dC, dI) (fun q : Nat => s.heap.size ≤ q) s.heap [] s.heap [] := ⟨fun k q h => by simp at h, ⟨fun i j p q h => by simp at h, fun k q h => by simp at h⟩, va_S.rf⟩
  have hl := lv_entry ([.ref b]) (n := 4) (Nat.le_of_ble_eq_true rfl)
  rw [lg_entry_eq]
  generalize (lg_sl ([.ref b]) ++ List.replicate (4 - (lg_sl ([.ref b])).length) Slot.unset).toArray = ls at hl ⊢
  have hl : lv_has ls 4 [(0, .ref b)] := hl
  have hw := OK.1
  refine g_new C hd inlX3 tyX3 tyX3_ok 3 rfl (List.mem_of_getElem? (i := 0) rfl) (List.mem_of_getElem? (i := 1) rfl) (List.mem_of_getElem? (i := 2) rfl) (fs := [.null, .null, .null, .null, .null, .int 0]) (by decide +kernel) (Nat.le_of_ble_eq_true rfl) (Nat.le_of_ble_eq_true rfl) dL_law_0 (fun q H hd => ?_)
  refine lv_dup hx hb dL_law_3 rfl ?_
  refine i_v C hd hl M_X3_init rfl gL_law_X3_init (List.mem_of_getElem? (i := 2) rfl) (List.mem_of_getElem? (i := 6) rfl) (List.mem_of_getElem? (i := 7) rfl) (c_X3_init l (dC, dI) (cI, cZ, cO) q _ hw) ⟨rfl, rfl⟩ ⟨Nat.le_of_ble_eq_true rfl, Nat.le_of_ble_eq_true rfl⟩ (List.Perm.refl _) (fun u => wX3 (cI, cZ, cO) u.1 u.2) (fun u => List.Perm.of_eq (List.append_nil _)) rfl rfl (Nat.le_of_ble_eq_true rfl) dL_law_4 ⟨Nat.le_of_ble_eq_true rfl, Nat.le_of_ble_eq_true rfl⟩ (fun ⟨ad, χ⟩ H locs hw hd => ?_)
  obtain ⟨e1, hw⟩ := hw
  have e1 : ad 9 0 = q := e1
  rw [← e1]
  refine lv_astore_n (lv' := [(1, .ref (ad 9 0)), (0, .ref b)]) hx hb dL_law_7 rfl hl (by decide) rfl (fun ls hl => ?_)
  refine g_new C hd inlX4 tyX4 tyX4_ok 4 rfl (List.mem_of_getElem? (i := 3) rfl) (List.mem_of_getElem? (i := 4) rfl) (List.mem_of_getElem? (i := 5) rfl) (fs := [.null, .null, .null, .null, .null, .null, .int 0, .int 0, .int 0, .int 0]) (by decide +kernel) (Nat.le_of_ble_eq_true rfl) (Nat.le_of_ble_eq_true rfl) dL_law_8 (fun q2 H hd => ?_)
  refine lv_dup hx hb dL_law_11 rfl ?_
  refine i_v C hd hl M_X4_init rfl gL_law_X4_init (List.mem_of_getElem? (i := 5) rfl) (List.mem_of_getElem? (i := 80) rfl) (List.mem_of_getElem? (i := 81) rfl) (c_X4_init l (dC, dI) (cI, cZ, cO) q2 _ hw) ⟨rfl, rfl⟩ ⟨Nat.le_of_ble_eq_true rfl, Nat.le_of_ble_eq_true rfl⟩ List.perm_append_comm (fun u => wX3 (cI, cZ, cO) ad χ ++ wX4 (cI, cZ, cO) u.1 u.2) (fun u => List.perm_append_comm) rfl rfl (Nat.le_of_ble_eq_true rfl) dL_law_12 ⟨Nat.le_of_ble_eq_true rfl, Nat.le_of_ble_eq_true rfl⟩ (fun ⟨am, μ⟩ H locs hw hd => ?_)
  obtain ⟨e2, hw⟩ := hw
  have e2 : am 0 = q2 := e2
  rw [← e2]
  refine lv_astore_n (lv' := [(2, .ref (am 0)), (1, .ref (ad 9 0)), (0, .ref b)]) hx hb dL_law_15 rfl hl (by decide) rfl (fun ls hl => ?_)
  refine lv_iconst (v := 0) hx hb dL_law_16 (by decide) ?_
  refine lv_istore_n (lv' := [(3, .int 0), (2, .ref (am 0)), (1, .ref (ad 9 0)), (0, .ref b)]) hx hb dL_law_17 rfl hl (by decide) rfl (fun ls hl => ?_)
  refine W.cs (cells' := 77) (slots' := 4826) rfl rfl ?_
  exact law_loop Sim OK hL C hX hbl ad am (L + 1) 0 (by omega) (by omega) χ μ hw _ _ _ hd (lv_sub hl [3, 2, 1, 0] rfl)
