section LZ
variable {p : Program} {l : Launch} {e : Env} {R : Room} {s : State} {m : MethodId} {args : Array Value} {below : List Frame} {meth : Method} {c : Code} {H : Heap} {locs : List Loc} {cl sl : Nat} {Q : State → Prop}
variable {cc : ByteArray} {pc nL : Nat} {ls : Array Slot} {rest st0 : List Value} {Ts : List Cond} {own nm : String} {ret : Option FieldType} {B : va_G} {k : KT} {A : Nat → Prop} {ws wc wr : va_W} {lv : List (Nat × Value)} {S : Type}
theorem g_newi (C : Cx p s m args meth c cc nL Ts own nm ret B k A) (hd : Wd B A s.heap ws H locs) (harr : Cond.arrayClass .int ∈ Ts) {n : Int32} {N : Nat} (hn : ¬ n < 0) (hN : n.toNatClampNeg = N) (hbytes : N * 4 ≤ 536870912) (hcells : cl + 1 ≤ R.cells) (hslots : sl + N ≤ R.slots) (hdg : decode cc pc = .ok (.newarray .int, 2))
    (kk : ∀ (q : Nat) (H1 : Heap), Wd B A s.heap (ws ++ [(q, .inl (k.1, N, .inl (fun _ => 0)))]) H1 locs → W p l e R s m args below meth c H1 locs (cl + 1) (sl + N) Q (F0 m (pc + 2) ls (.ref q :: rest))) : W p l e R s m args below meth c H locs cl sl Q (F0 m pc ls (.int n :: rest)) := by
  obtain ⟨hx, hb, -, ho, hts, -, -, hA, hK, -⟩ := C
  refine va_newa (atype := .int) (ty := .int) hx hb (hts _ harr) rfl hK.1 hd.1 hd.2.1 hd.2.2 hA (a0 := (N, .inl (fun _ => 0))) (fun _ => rfl) hn hN hbytes hcells hslots hdg (fun q cA H1 hK1 a1 a2 a3 => ?_)
  have e : cA = k.1 := by
    have h1 := (hK1.2 3 (cA, .int) rfl).2
    have h2 := (hK.1.2 0 (k.1, .int) rfl).2
    exact Option.some.inj (h1.symm.trans h2)
  rw [e] at a1 a2
  exact kk q H1 ⟨a1, a2, a3⟩
theorem g_newz (C : Cx p s m args meth c cc nL Ts own nm ret B k A) (hd : Wd B A s.heap ws H locs) (harr : Cond.arrayClass .boolean ∈ Ts) {n : Int32} {N : Nat} (hn : ¬ n < 0) (hN : n.toNatClampNeg = N) (hbytes : N * 1 ≤ 536870912) (hcells : cl + 1 ≤ R.cells) (hslots : sl + N ≤ R.slots) (hdg : decode cc pc = .ok (.newarray .boolean, 2))
    (kk : ∀ (q : Nat) (H1 : Heap), Wd B A s.heap (ws ++ [(q, .inl (k.2.1, N, .inl (fun _ => 0)))]) H1 locs → W p l e R s m args below meth c H1 locs (cl + 1) (sl + N) Q (F0 m (pc + 2) ls (.ref q :: rest))) : W p l e R s m args below meth c H locs cl sl Q (F0 m pc ls (.int n :: rest)) := by
  obtain ⟨hx, hb, -, ho, hts, -, -, hA, hK, -⟩ := C
  refine va_newa (atype := .boolean) (ty := .boolean) hx hb (hts _ harr) rfl hK.1 hd.1 hd.2.1 hd.2.2 hA (a0 := (N, .inl (fun _ => 0))) (fun _ => rfl) hn hN hbytes hcells hslots hdg (fun q cA H1 hK1 a1 a2 a3 => ?_)
  have e : cA = k.2.1 := by
    have h1 := (hK1.2 3 (cA, .boolean) rfl).2
    have h2 := (hK.1.2 1 (k.2.1, .boolean) rfl).2
    exact Option.some.inj (h1.symm.trans h2)
  rw [e] at a1 a2
  exact kk q H1 ⟨a1, a2, a3⟩
theorem g_newq (C : Cx p s m args meth c cc nL Ts own nm ret B k A) (hd : Wd B A s.heap ws H locs) {index : Nat} (hlk : Cond.classLink own index RX1 ∈ Ts) {n : Int32} {N : Nat} (hn : ¬ n < 0) (hN : n.toNatClampNeg = N) (hbytes : N * 4 ≤ 536870912) (hcells : cl + 1 ≤ R.cells) (hslots : sl + N ≤ R.slots) (hdg : decode cc pc = .ok (.anewarray index, 3))
    (kk : ∀ (q : Nat) (H1 : Heap), Wd B A s.heap (ws ++ [(q, .inl (k.2.2, N, .inr (.inr (.inr (.inr (fun _ => none))))))]) H1 locs → W p l e R s m args below meth c H1 locs (cl + 1) (sl + N) Q (F0 m (pc + 3) ls (.ref q :: rest))) : W p l e R s m args below meth c H locs cl sl Q (F0 m pc ls (.int n :: rest)) := by
  obtain ⟨hx, hb, -, ho, hts, -, -, hA, hK, -⟩ := C
  refine va_newq (C := RX1) hx hb ho (hts _ hlk) hK.2.2 hK.1 hd.1 hd.2.1 hd.2.2 hA hn hN hbytes hcells hslots hdg (fun q cA H1 hK1 a1 a2 a3 => ?_)
  have e : cA = k.2.2 := by
    obtain ⟨-, -, -, -, -, h1⟩ := (hK1.2 3 (cA, .object RX1) rfl).2
    obtain ⟨-, -, -, -, -, h2⟩ := (hK.1.2 2 (k.2.2, .object RX1) rfl).2
    exact Option.some.inj (h1.symm.trans h2)
  rw [e] at a1 a2
  exact kk q H1 ⟨a1, a2, a3⟩
theorem g_new (C : Cx p s m args meth c cc nL Ts own nm ret B k A) (hd : Wd B A s.heap ws H locs) {Cn : String} {T : u_T} {N index : Nat} (hin : ∀ w ∈ u_ws Cn T N, w ∈ Ts) (ty0 : Nat → FieldType) (hty : ∀ k, k < N → parseFieldDescriptor (T k).2.2.1 = some (ty0 k)) (ci : Nat) (hc : vwCl[ci]? = some (Cn, T, N)) (hlk : Cond.classLink own index Cn ∈ Ts) (hins : Cond.instantiable Cn N ∈ Ts) (hini : Cond.initialized Cn ∈ Ts) {fs : List Value} (hfs : ∀ j, j < N → defaultValue (ty0 j) = vp_V fs j) (hcells : cl + 1 ≤ R.cells) (hslots : sl + N ≤ R.slots) (hdg : decode cc pc = .ok (.new index, 3))
    (kk : ∀ (q : Nat) (H1 : Heap), Wd B A s.heap (ws ++ [(q, .inr (ci, fs))]) H1 locs → W p l e R s m args below meth c H1 locs (cl + 1) (sl + N) Q (F0 m (pc + 3) ls (.ref q :: rest))) : W p l e R s m args below meth c H locs cl sl Q (F0 m pc ls rest) := by
  obtain ⟨hx, hb, -, ho, hts, -, -, hA, hK, -⟩ := C
  exact va_new hx hb hts hin ty0 hty ho (hts _ hlk) (hts _ hins) (hts _ hini) hK.1 hd.1 hd.2.1 hd.2.2 hA hc hfs hcells hslots hdg (fun q H1 a1 a2 a3 => kk q H1 ⟨a1, a2, a3⟩)
theorem g_qst (C : Cx p s m args meth c cc nL Ts own nm ret B k A) (hd : Wd B A s.heap ws H locs) (q0 qk : Nat) {a n v : Nat} {vs : List Value} {f : Nat → Option Nat} (ha : ws[q0]? = some (a, .inl (k.2.2, n, .inr (.inr (.inr (.inr f)))))) (hv : ws[qk]? = some (v, .inr (1, vs))) {i : Int32} (hin : vp_in i n) (ws' : va_W) (hset : ws.set q0 (a, .inl (k.2.2, n, .inr (.inr (.inr (.inr (va_up f i.toNatClampNeg (some v))))))) = ws') (hdg : decode cc pc = .ok (.aastore, 1))
    (kk : ∀ (H1 : Heap) (locs1 : List Loc), Wd B A s.heap ws' H1 locs1 → W p l e R s m args below meth c H1 locs1 cl sl Q (F0 m (pc + 1) ls rest)) : W p l e R s m args below meth c H locs cl sl Q (F0 m pc ls (.ref v :: .int i :: .ref a :: rest)) := by
  subst hset
  exact va_astq (r := (RX1, TX1, 15)) C.1 C.2.1 C.2.2.2.2.2.2.2.2.1.1 hd.1 hd.2.1 hd.2.2 q0 2 qk 1 ha rfl hv rfl hin hdg (fun H1 l1 a1 a2 a3 => kk H1 l1 ⟨a1, a2, a3⟩)
theorem i_v {y : MethodName} {wds : List Cond} {bytes : ByteArray} {maxL index n mc ms b : Nat} {rm : Room} {As : List Value} {cells : S → va_W} {post : S → Prop} (C : Cx p s m args meth c cc nL Ts own nm ret B k A) (hd : Wd B A s.heap ws H locs) (hl : lv_has ls nL lv) (M : MI y wds bytes maxL none n) (hy1 : y.name = "<init>") (G : GoodIn Ts wds) (hini : Cond.initialized y.cls ∈ Ts) (hlk : Cond.methodLink own index y ∈ Ts) (hins : Cond.instanceMethod y ∈ Ts) (hC : Ctv l y wds rm mc ms B k (.ref b :: As) wc cells post) (hrm : rm.cells = mc ∧ rm.slots = ms) (hR : rm.frames + 1 ≤ R.frames ∧ 8 + (maxL + 11) + rm.locals ≤ R.locals)
    (hpm : ws.Perm (wc ++ wr)) (out : S → va_W) (hout : ∀ u, (cells u ++ wr).Perm (out u)) (hn : As.length = n) (hst : st0 = As.reverse ++ .ref b :: rest) (hrest : (rest.map fun v => v.category).sum ≤ 8) (hdg : decode cc pc = .ok (.invokespecial index, 3)) (hf : cl + mc ≤ R.cells ∧ sl + ms ≤ R.slots)
    (kk : ∀ (u : S) (H1 : Heap) (locs1 : List Loc), post u → Wd B A s.heap (out u) H1 locs1 → W p l e R s m args below meth c H1 locs1 (cl + mc) (sl + ms) Q (F0 m (pc + 3) ls rest)) : W p l e R s m args below meth c H locs cl sl Q (F0 m pc ls st0) := by
  subst hst
  have hd' := hd.perm hpm
  have hA := C.2.2.2.2.2.2.2.1
  have hts := C.2.2.2.2.1
  obtain ⟨⟨ws', hw⟩, h1, h2, h3, -⟩ := M
  refine va_callv (va_runI (As := As) (rest := rest) ⟨C.1, C.2.1, C.2.2.1, C.2.2.2.1, C.2.2.2.2.1⟩ (hC H.size) (cwI n hts G hw hrm.1 hrm.2 (hts _ hini) (hts _ hlk) (hts _ hins) hy1 ⟨h1, h2, h3⟩ hR) ⟨pre_blind, fr_pre C.2.2.2.2.2.2.2.2.1 hd'⟩ rfl hn hl.1 rfl (lv_room hrest) hdg hf) hd.2.2 (fun q _ h => fr_A hA hd' q h) (fr_A hA hd') (fun u t H1 locs1 ht hvm hw hB hz1 hk1 hS => ?_)
  obtain ⟨hP1, hD1⟩ := hB
  rw [ht] at hP1
  exact kk u H1 locs1 hw ((fr_call hA hd' hk1 hS hP1 hD1).perm (hout u))
theorem in_v {y : MethodName} {wds : List Cond} {bytes : ByteArray} {maxL index n mc ms b : Nat} {rm : Room} {As : List Value} {host : String} {cells : S → va_W} {post : S → Prop} (C : Cx p s m args meth c cc nL Ts own nm ret B k A) (hd : Wd B A s.heap ws H locs) (hl : lv_has ls nL lv) (M : MI y wds bytes maxL none n) (hy1 : y.name = "<init>") (G : GoodIn Ts wds) (hini : Cond.initialized y.cls ∈ Ts) (hnw : Cond.methodLinkNest own index y host ∈ nWs) (hins : Cond.instanceMethod y ∈ Ts) (hC : Ctv l y wds rm mc ms B k (.ref b :: As) wc cells post) (hrm : rm.cells = mc ∧ rm.slots = ms) (hR : rm.frames + 1 ≤ R.frames ∧ 8 + (maxL + 11) + rm.locals ≤ R.locals)
    (hpm : ws.Perm (wc ++ wr)) (out : S → va_W) (hout : ∀ u, (cells u ++ wr).Perm (out u)) (hn : As.length = n) (hst : st0 = As.reverse ++ .ref b :: rest) (hrest : (rest.map fun v => v.category).sum ≤ 8) (hdg : decode cc pc = .ok (.invokespecial index, 3)) (hf : cl + mc ≤ R.cells ∧ sl + ms ≤ R.slots)
    (kk : ∀ (u : S) (H1 : Heap) (locs1 : List Loc), post u → Wd B A s.heap (out u) H1 locs1 → W p l e R s m args below meth c H1 locs1 (cl + mc) (sl + ms) Q (F0 m (pc + 3) ls rest)) : W p l e R s m args below meth c H locs cl sl Q (F0 m pc ls st0) := by
  subst hst
  have hd' := hd.perm hpm
  have hA := C.2.2.2.2.2.2.2.1
  have hts := C.2.2.2.2.1
  obtain ⟨⟨ws', hw⟩, h1, h2, h3, -⟩ := M
  refine va_callv (va_runIN (As := As) (rest := rest) ⟨C.1, C.2.1, C.2.2.1, C.2.2.2.1, C.2.2.2.2.1⟩ (hC H.size) ⟨va_cnB n hts G hw hrm.1 hrm.2 (C.2.2.2.2.2.2.2.2.1.2.1 _ hnw) (hts _ hini) ⟨h1, h2, h3⟩ hR, hy1, hts _ hins⟩ ⟨pre_blind, fr_pre C.2.2.2.2.2.2.2.2.1 hd'⟩ rfl hn hl.1 rfl (lv_room hrest) hdg hf) hd.2.2 (fun q _ h => fr_A hA hd' q h) (fr_A hA hd') (fun u t H1 locs1 ht hvm hw hB hz1 hk1 hS => ?_)
  obtain ⟨hP1, hD1⟩ := hB
  rw [ht] at hP1
  exact kk u H1 locs1 hw ((fr_call hA hd' hk1 hS hP1 hD1).perm (hout u))
end LZ
def ct_0 : CT := (fun _ => 0, 0, fun _ => 0, fun _ => 0, 0, 0)
abbrev rm_X0_init : Room := { frames := 1, cells := 3, slots := 100, locals := 12 }
theorem M_X0_init : MI yX0_init wsX0_init cX0_init 1 none 0 := ⟨⟨_, rfl⟩, by decide +kernel, by decide +kernel, by decide +kernel, by decide +kernel⟩
theorem iX0_init_X0 : ∀ w ∈ wsX00, w ∈ wsX0_init := fun _ h => List.mem_cons_of_mem _ (List.mem_append_right _ h)
def wpX0_init  (post : CT → Prop) : Prop := post (ct_setAt (ct_setCommands ct_0 0) 0)
set_option maxHeartbeats 4000000 in
set_option maxRecDepth 100000 in
theorem c_X0_init (l : Launch) (B : va_G) (k : KT) (h : Nat) (post : CT → Prop) (hw : wpX0_init  post) : Ctv l yX0_init wsX0_init rm_X0_init 3 100 B k [.ref h] [(h, .inr (0, [.null, .int 0, .null, .null, .int 0, .int 0]))] (fun u : (Nat → Nat) × CT => wX0 k u.1 u.2) (fun u : (Nat → Nat) × CT => u.1 0 = h ∧ post u.2) := by
  refine Ctv.of M_X0_init (Nat.le_of_ble_eq_true rfl) ?_
  intro p e s m args below meth c A C hd ls hl
  have hx := C.1; have hb := C.2.1; have hml := C.2.2.1; have hts := C.2.2.2.2.1
  have hl : lv_has ls 1 [(0, .ref h)] := hl
  refine lv_aload_n hx hb dX0_init_0 rfl (lv_at hl 0 rfl) ?_
  refine W.objInit hx hb C.2.2.2.1 (hts (.methodLink RX0 3 objectInit) (List.mem_of_getElem? (i := 1) rfl)) (hts (.instanceMethod objectInit) (List.mem_of_getElem? (i := 2) rfl)) (hts _ (List.mem_of_getElem? (i := 3) rfl)) rfl (by rw [hml]; exact hl.1) rfl dX0_init_1 (Nat.le_of_ble_eq_true rfl) (Nat.le_of_ble_eq_true rfl) ?_
  refine W.eq (g2 := F0 m 4 ls []) rfl ?_
  refine lv_aload_n hx hb dX0_init_4 rfl (lv_at hl 0 rfl) ?_
  refine lv_bipush (v := 60) hx hb dX0_init_5 (by decide) ?_
  refine g_newi C hd (List.mem_of_getElem? (i := 4) rfl) (N := 60) (by decide) rfl (Nat.le_of_ble_eq_true rfl) (Nat.le_of_ble_eq_true rfl) (Nat.le_of_ble_eq_true rfl) dX0_init_7 (fun q7 H hd => ?_)
  have hd : Wd B A s.heap [(h, .inr (0, [.null, .int 0, .null, .null, .int 0, .int 0])), (q7, .inl (k.1, 60, .inl (fun _ => 0)))] H _ := hd
  refine g_putF C rfl hd iX0_init_X0 tyX0 tyX0_ok nmX0 0 0 rfl rfl 0 (by decide) (List.mem_of_getElem? (i := 5) rfl) rfl rfl rfl rfl (Nat.le_of_ble_eq_true rfl) [(h, .inr (0, [.ref q7, .int 0, .null, .null, .int 0, .int 0])), (q7, .inl (k.1, 60, .inl (fun _ => 0)))] rfl dX0_init_9 (fun H locs hd => ?_)
  refine lv_aload_n hx hb dX0_init_12 rfl (lv_at hl 0 rfl) ?_
  refine lv_iconst (v := 0) hx hb dX0_init_13 (by decide) ?_
  refine g_put C hd iX0_init_X0 tyX0 tyX0_ok nmX0 0 0 rfl rfl 1 (by decide) (List.mem_of_getElem? (i := 6) rfl) rfl rfl rfl (Nat.le_of_ble_eq_true rfl) [(h, .inr (0, [.ref q7, .int 0, .null, .null, .int 0, .int 0])), (q7, .inl (k.1, 60, .inl (fun _ => 0)))] rfl dX0_init_14 (fun H locs hd => ?_)
  refine lv_aload_n hx hb dX0_init_17 rfl (lv_at hl 0 rfl) ?_
  refine lv_bipush (v := 20) hx hb dX0_init_18 (by decide) ?_
  refine g_newi C hd (List.mem_of_getElem? (i := 4) rfl) (N := 20) (by decide) rfl (Nat.le_of_ble_eq_true rfl) (Nat.le_of_ble_eq_true rfl) (Nat.le_of_ble_eq_true rfl) dX0_init_20 (fun q20 H hd => ?_)
  have hd : Wd B A s.heap [(h, .inr (0, [.ref q7, .int 0, .null, .null, .int 0, .int 0])), (q7, .inl (k.1, 60, .inl (fun _ => 0))), (q20, .inl (k.1, 20, .inl (fun _ => 0)))] H _ := hd
  refine g_putF C rfl hd iX0_init_X0 tyX0 tyX0_ok nmX0 0 0 rfl rfl 2 (by decide) (List.mem_of_getElem? (i := 7) rfl) rfl rfl rfl rfl (Nat.le_of_ble_eq_true rfl) [(h, .inr (0, [.ref q7, .int 0, .ref q20, .null, .int 0, .int 0])), (q7, .inl (k.1, 60, .inl (fun _ => 0))), (q20, .inl (k.1, 20, .inl (fun _ => 0)))] rfl dX0_init_22 (fun H locs hd => ?_)
  refine lv_aload_n hx hb dX0_init_25 rfl (lv_at hl 0 rfl) ?_
  refine lv_bipush (v := 20) hx hb dX0_init_26 (by decide) ?_
  refine g_newi C hd (List.mem_of_getElem? (i := 4) rfl) (N := 20) (by decide) rfl (Nat.le_of_ble_eq_true rfl) (Nat.le_of_ble_eq_true rfl) (Nat.le_of_ble_eq_true rfl) dX0_init_28 (fun q28 H hd => ?_)
  have hd : Wd B A s.heap [(h, .inr (0, [.ref q7, .int 0, .ref q20, .null, .int 0, .int 0])), (q7, .inl (k.1, 60, .inl (fun _ => 0))), (q20, .inl (k.1, 20, .inl (fun _ => 0))), (q28, .inl (k.1, 20, .inl (fun _ => 0)))] H _ := hd
  refine g_putF C rfl hd iX0_init_X0 tyX0 tyX0_ok nmX0 0 0 rfl rfl 3 (by decide) (List.mem_of_getElem? (i := 8) rfl) rfl rfl rfl rfl (Nat.le_of_ble_eq_true rfl) [(h, .inr (0, [.ref q7, .int 0, .ref q20, .ref q28, .int 0, .int 0])), (q7, .inl (k.1, 60, .inl (fun _ => 0))), (q20, .inl (k.1, 20, .inl (fun _ => 0))), (q28, .inl (k.1, 20, .inl (fun _ => 0)))] rfl dX0_init_30 (fun H locs hd => ?_)
  obtain ⟨a, ea⟩ : ∃ a : Nat → Nat, a = (fun j => [h, q7, q20, q28].getD j 0) := ⟨_, rfl⟩
  have ea0 : a 0 = h := by rw [ea]; rfl
  have hd : Wd B A s.heap (wX0 k a ct_0) H locs := by rw [ea]; exact hd
  have hl : lv_has ls 1 [(0, .ref (a 0))] := by rw [ea0]; exact hl
  refine W.cs (cells' := 3) (slots' := 100) rfl rfl ?_
  rw [wpX0_init] at hw
  refine lv_aload_n hx hb dX0_init_33 rfl (lv_at hl 0 rfl) ?_
  refine lv_iconst (v := 0) hx hb dX0_init_34 (by decide) ?_
  refine g_put C hd iX0_init_X0 tyX0 tyX0_ok nmX0 0 0 rfl rfl 4 (by decide) (List.mem_of_getElem? (i := 9) rfl) rfl rfl rfl (Nat.le_of_ble_eq_true rfl) (wX0 k a (ct_setCommands ct_0 0)) (wX0_putCommands k a _ _) dX0_init_35 (fun H locs hd => ?_)
  refine lv_aload_n hx hb dX0_init_38 rfl (lv_at hl 0 rfl) ?_
  refine lv_iconst (v := 0) hx hb dX0_init_39 (by decide) ?_
  refine g_put C hd iX0_init_X0 tyX0 tyX0_ok nmX0 0 0 rfl rfl 5 (by decide) (List.mem_of_getElem? (i := 10) rfl) rfl rfl rfl (Nat.le_of_ble_eq_true rfl) (wX0 k a (ct_setAt (ct_setCommands ct_0 0) 0)) (wX0_putAt k a _ _) dX0_init_40 (fun H locs hd => ?_)
  exact r_v C hd dX0_init_43 (a, ct_setAt (ct_setCommands ct_0 0) 0) rfl ⟨ea0, hw⟩
def hs_0 : HS := (30, fun _ => 0, fun _ => 0, fun _ => 0, fun _ => 0, fun _ => 0, fun _ => 0, fun _ => 0, fun _ => 0, 0, 0, 0, 0, 0, 0)
abbrev rm_X1_init : Room := { frames := 3, cells := 8, slots := 332, locals := 66 }
theorem M_X1_init : MI yX1_init wsX1_init cX1_init 2 none 0 := ⟨⟨_, rfl⟩, by decide +kernel, by decide +kernel, by decide +kernel, by decide +kernel⟩
theorem iX1_init_X1 : ∀ w ∈ wsX10, w ∈ wsX1_init := fun _ h => List.mem_cons_of_mem _ (List.mem_append_right _ h)
def wpX1_init_L103  (post : HS → Prop) : Nat → Int32 → HS → Prop
  | 0, _, _ => False
  | n103 + 1, v103l1, σ103 => ((4 ≤ v103l1 → post σ103) ∧ (¬ 4 ≤ v103l1 → (vp_in v103l1 4 ∧ wpX1_divide (hs_setAgeing σ103 (upd (hs_ageing σ103) v103l1.toNatClampNeg (v103l1 + 1))) v103l1 4 (fun σ120 => wpX1_init_L103 post n103 (v103l1 + 1) σ120))))
def wpX1_init  (post : HS → Prop) : Prop := ∃ n103 : Nat, wpX1_init_L103 post n103 0 (hs_setWrites (hs_setReads (hs_setLosses (hs_setRescues (hs_setSteps (hs_setArm hs_0 0) 0) 0) 0) 0) 0)
set_option maxHeartbeats 4000000 in
set_option maxRecDepth 100000 in
theorem c_X1_init (l : Launch) (B : va_G) (k : KT) (h : Nat) (post : HS → Prop) (hw : wpX1_init  post) : Ctv l yX1_init wsX1_init rm_X1_init 8 332 B k [.ref h] [(h, .inr (1, [.int 0, .null, .null, .null, .null, .null, .null, .null, .null, .int 0, .int 0, .int 0, .int 0, .int 0, .int 0]))] (fun u : (Nat → Nat) × HS => wX1 k u.1 u.2) (fun u : (Nat → Nat) × HS => u.1 0 = h ∧ post u.2) := by
  refine Ctv.of M_X1_init (Nat.le_of_ble_eq_true rfl) ?_
  intro p e s m args below meth c A C hd ls hl
  have hx := C.1; have hb := C.2.1; have hml := C.2.2.1; have hts := C.2.2.2.2.1
  have hl : lv_has ls 2 [(0, .ref h)] := hl
  refine lv_aload_n hx hb dX1_init_0 rfl (lv_at hl 0 rfl) ?_
  refine W.objInit hx hb C.2.2.2.1 (hts (.methodLink RX1 3 objectInit) (List.mem_of_getElem? (i := 1) rfl)) (hts (.instanceMethod objectInit) (List.mem_of_getElem? (i := 2) rfl)) (hts _ (List.mem_of_getElem? (i := 3) rfl)) rfl (by rw [hml]; exact hl.1) rfl dX1_init_1 (Nat.le_of_ble_eq_true rfl) (Nat.le_of_ble_eq_true rfl) ?_
  refine W.eq (g2 := F0 m 4 ls []) rfl ?_
  refine lv_aload_n hx hb dX1_init_4 rfl (lv_at hl 0 rfl) ?_
  refine lv_bipush (v := 30) hx hb dX1_init_5 (by decide) ?_
  refine g_put C hd iX1_init_X1 tyX1 tyX1_ok nmX1 0 1 rfl rfl 0 (by decide) (List.mem_of_getElem? (i := 4) rfl) rfl rfl rfl (Nat.le_of_ble_eq_true rfl) [(h, .inr (1, [.int 30, .null, .null, .null, .null, .null, .null, .null, .null, .int 0, .int 0, .int 0, .int 0, .int 0, .int 0]))] rfl dX1_init_7 (fun H locs hd => ?_)
  refine lv_aload_n hx hb dX1_init_10 rfl (lv_at hl 0 rfl) ?_
  refine lv_iconst (v := 4) hx hb dX1_init_11 (by decide) ?_
  refine g_newi C hd (List.mem_of_getElem? (i := 5) rfl) (N := 4) (by decide) rfl (Nat.le_of_ble_eq_true rfl) (Nat.le_of_ble_eq_true rfl) (Nat.le_of_ble_eq_true rfl) dX1_init_12 (fun q12 H hd => ?_)
  have hd : Wd B A s.heap [(h, .inr (1, [.int 30, .null, .null, .null, .null, .null, .null, .null, .null, .int 0, .int 0, .int 0, .int 0, .int 0, .int 0])), (q12, .inl (k.1, 4, .inl (fun _ => 0)))] H _ := hd
  refine g_putF C rfl hd iX1_init_X1 tyX1 tyX1_ok nmX1 0 1 rfl rfl 1 (by decide) (List.mem_of_getElem? (i := 6) rfl) rfl rfl rfl rfl (Nat.le_of_ble_eq_true rfl) [(h, .inr (1, [.int 30, .ref q12, .null, .null, .null, .null, .null, .null, .null, .int 0, .int 0, .int 0, .int 0, .int 0, .int 0])), (q12, .inl (k.1, 4, .inl (fun _ => 0)))] rfl dX1_init_14 (fun H locs hd => ?_)
  refine lv_aload_n hx hb dX1_init_17 rfl (lv_at hl 0 rfl) ?_
  refine lv_iconst (v := 4) hx hb dX1_init_18 (by decide) ?_
  refine g_newi C hd (List.mem_of_getElem? (i := 5) rfl) (N := 4) (by decide) rfl (Nat.le_of_ble_eq_true rfl) (Nat.le_of_ble_eq_true rfl) (Nat.le_of_ble_eq_true rfl) dX1_init_19 (fun q19 H hd => ?_)
  have hd : Wd B A s.heap [(h, .inr (1, [.int 30, .ref q12, .null, .null, .null, .null, .null, .null, .null, .int 0, .int 0, .int 0, .int 0, .int 0, .int 0])), (q12, .inl (k.1, 4, .inl (fun _ => 0))), (q19, .inl (k.1, 4, .inl (fun _ => 0)))] H _ := hd
  refine g_putF C rfl hd iX1_init_X1 tyX1 tyX1_ok nmX1 0 1 rfl rfl 2 (by decide) (List.mem_of_getElem? (i := 7) rfl) rfl rfl rfl rfl (Nat.le_of_ble_eq_true rfl) [(h, .inr (1, [.int 30, .ref q12, .ref q19, .null, .null, .null, .null, .null, .null, .int 0, .int 0, .int 0, .int 0, .int 0, .int 0])), (q12, .inl (k.1, 4, .inl (fun _ => 0))), (q19, .inl (k.1, 4, .inl (fun _ => 0)))] rfl dX1_init_21 (fun H locs hd => ?_)
  refine lv_aload_n hx hb dX1_init_24 rfl (lv_at hl 0 rfl) ?_
  refine lv_iconst (v := 4) hx hb dX1_init_25 (by decide) ?_
  refine g_newz C hd (List.mem_of_getElem? (i := 8) rfl) (N := 4) (by decide) rfl (Nat.le_of_ble_eq_true rfl) (Nat.le_of_ble_eq_true rfl) (Nat.le_of_ble_eq_true rfl) dX1_init_26 (fun q26 H hd => ?_)
  have hd : Wd B A s.heap [(h, .inr (1, [.int 30, .ref q12, .ref q19, .null, .null, .null, .null, .null, .null, .int 0, .int 0, .int 0, .int 0, .int 0, .int 0])), (q12, .inl (k.1, 4, .inl (fun _ => 0))), (q19, .inl (k.1, 4, .inl (fun _ => 0))), (q26, .inl (k.2.1, 4, .inl (fun _ => 0)))] H _ := hd
  refine g_putF C rfl hd iX1_init_X1 tyX1 tyX1_ok nmX1 0 1 rfl rfl 3 (by decide) (List.mem_of_getElem? (i := 9) rfl) rfl rfl rfl rfl (Nat.le_of_ble_eq_true rfl) [(h, .inr (1, [.int 30, .ref q12, .ref q19, .ref q26, .null, .null, .null, .null, .null, .int 0, .int 0, .int 0, .int 0, .int 0, .int 0])), (q12, .inl (k.1, 4, .inl (fun _ => 0))), (q19, .inl (k.1, 4, .inl (fun _ => 0))), (q26, .inl (k.2.1, 4, .inl (fun _ => 0)))] rfl dX1_init_28 (fun H locs hd => ?_)
  refine lv_aload_n hx hb dX1_init_31 rfl (lv_at hl 0 rfl) ?_
  refine lv_bipush (v := 64) hx hb dX1_init_32 (by decide) ?_
  refine g_newi C hd (List.mem_of_getElem? (i := 5) rfl) (N := 64) (by decide) rfl (Nat.le_of_ble_eq_true rfl) (Nat.le_of_ble_eq_true rfl) (Nat.le_of_ble_eq_true rfl) dX1_init_34 (fun q34 H hd => ?_)
  have hd : Wd B A s.heap [(h, .inr (1, [.int 30, .ref q12, .ref q19, .ref q26, .null, .null, .null, .null, .null, .int 0, .int 0, .int 0, .int 0, .int 0, .int 0])), (q12, .inl (k.1, 4, .inl (fun _ => 0))), (q19, .inl (k.1, 4, .inl (fun _ => 0))), (q26, .inl (k.2.1, 4, .inl (fun _ => 0))), (q34, .inl (k.1, 64, .inl (fun _ => 0)))] H _ := hd
  refine g_putF C rfl hd iX1_init_X1 tyX1 tyX1_ok nmX1 0 1 rfl rfl 4 (by decide) (List.mem_of_getElem? (i := 10) rfl) rfl rfl rfl rfl (Nat.le_of_ble_eq_true rfl) [(h, .inr (1, [.int 30, .ref q12, .ref q19, .ref q26, .ref q34, .null, .null, .null, .null, .int 0, .int 0, .int 0, .int 0, .int 0, .int 0])), (q12, .inl (k.1, 4, .inl (fun _ => 0))), (q19, .inl (k.1, 4, .inl (fun _ => 0))), (q26, .inl (k.2.1, 4, .inl (fun _ => 0))), (q34, .inl (k.1, 64, .inl (fun _ => 0)))] rfl dX1_init_36 (fun H locs hd => ?_)
  refine lv_aload_n hx hb dX1_init_39 rfl (lv_at hl 0 rfl) ?_
  refine lv_bipush (v := 64) hx hb dX1_init_40 (by decide) ?_
  refine g_newi C hd (List.mem_of_getElem? (i := 5) rfl) (N := 64) (by decide) rfl (Nat.le_of_ble_eq_true rfl) (Nat.le_of_ble_eq_true rfl) (Nat.le_of_ble_eq_true rfl) dX1_init_42 (fun q42 H hd => ?_)
  have hd : Wd B A s.heap [(h, .inr (1, [.int 30, .ref q12, .ref q19, .ref q26, .ref q34, .null, .null, .null, .null, .int 0, .int 0, .int 0, .int 0, .int 0, .int 0])), (q12, .inl (k.1, 4, .inl (fun _ => 0))), (q19, .inl (k.1, 4, .inl (fun _ => 0))), (q26, .inl (k.2.1, 4, .inl (fun _ => 0))), (q34, .inl (k.1, 64, .inl (fun _ => 0))), (q42, .inl (k.1, 64, .inl (fun _ => 0)))] H _ := hd
  refine g_putF C rfl hd iX1_init_X1 tyX1 tyX1_ok nmX1 0 1 rfl rfl 5 (by decide) (List.mem_of_getElem? (i := 11) rfl) rfl rfl rfl rfl (Nat.le_of_ble_eq_true rfl) [(h, .inr (1, [.int 30, .ref q12, .ref q19, .ref q26, .ref q34, .ref q42, .null, .null, .null, .int 0, .int 0, .int 0, .int 0, .int 0, .int 0])), (q12, .inl (k.1, 4, .inl (fun _ => 0))), (q19, .inl (k.1, 4, .inl (fun _ => 0))), (q26, .inl (k.2.1, 4, .inl (fun _ => 0))), (q34, .inl (k.1, 64, .inl (fun _ => 0))), (q42, .inl (k.1, 64, .inl (fun _ => 0)))] rfl dX1_init_44 (fun H locs hd => ?_)
  refine lv_aload_n hx hb dX1_init_47 rfl (lv_at hl 0 rfl) ?_
  refine lv_bipush (v := 64) hx hb dX1_init_48 (by decide) ?_
  refine g_newi C hd (List.mem_of_getElem? (i := 5) rfl) (N := 64) (by decide) rfl (Nat.le_of_ble_eq_true rfl) (Nat.le_of_ble_eq_true rfl) (Nat.le_of_ble_eq_true rfl) dX1_init_50 (fun q50 H hd => ?_)
  have hd : Wd B A s.heap [(h, .inr (1, [.int 30, .ref q12, .ref q19, .ref q26, .ref q34, .ref q42, .null, .null, .null, .int 0, .int 0, .int 0, .int 0, .int 0, .int 0])), (q12, .inl (k.1, 4, .inl (fun _ => 0))), (q19, .inl (k.1, 4, .inl (fun _ => 0))), (q26, .inl (k.2.1, 4, .inl (fun _ => 0))), (q34, .inl (k.1, 64, .inl (fun _ => 0))), (q42, .inl (k.1, 64, .inl (fun _ => 0))), (q50, .inl (k.1, 64, .inl (fun _ => 0)))] H _ := hd
  refine g_putF C rfl hd iX1_init_X1 tyX1 tyX1_ok nmX1 0 1 rfl rfl 6 (by decide) (List.mem_of_getElem? (i := 12) rfl) rfl rfl rfl rfl (Nat.le_of_ble_eq_true rfl) [(h, .inr (1, [.int 30, .ref q12, .ref q19, .ref q26, .ref q34, .ref q42, .ref q50, .null, .null, .int 0, .int 0, .int 0, .int 0, .int 0, .int 0])), (q12, .inl (k.1, 4, .inl (fun _ => 0))), (q19, .inl (k.1, 4, .inl (fun _ => 0))), (q26, .inl (k.2.1, 4, .inl (fun _ => 0))), (q34, .inl (k.1, 64, .inl (fun _ => 0))), (q42, .inl (k.1, 64, .inl (fun _ => 0))), (q50, .inl (k.1, 64, .inl (fun _ => 0)))] rfl dX1_init_52 (fun H locs hd => ?_)
  refine lv_aload_n hx hb dX1_init_55 rfl (lv_at hl 0 rfl) ?_
  refine lv_bipush (v := 64) hx hb dX1_init_56 (by decide) ?_
  refine g_newi C hd (List.mem_of_getElem? (i := 5) rfl) (N := 64) (by decide) rfl (Nat.le_of_ble_eq_true rfl) (Nat.le_of_ble_eq_true rfl) (Nat.le_of_ble_eq_true rfl) dX1_init_58 (fun q58 H hd => ?_)
  have hd : Wd B A s.heap [(h, .inr (1, [.int 30, .ref q12, .ref q19, .ref q26, .ref q34, .ref q42, .ref q50, .null, .null, .int 0, .int 0, .int 0, .int 0, .int 0, .int 0])), (q12, .inl (k.1, 4, .inl (fun _ => 0))), (q19, .inl (k.1, 4, .inl (fun _ => 0))), (q26, .inl (k.2.1, 4, .inl (fun _ => 0))), (q34, .inl (k.1, 64, .inl (fun _ => 0))), (q42, .inl (k.1, 64, .inl (fun _ => 0))), (q50, .inl (k.1, 64, .inl (fun _ => 0))), (q58, .inl (k.1, 64, .inl (fun _ => 0)))] H _ := hd
  refine g_putF C rfl hd iX1_init_X1 tyX1 tyX1_ok nmX1 0 1 rfl rfl 7 (by decide) (List.mem_of_getElem? (i := 13) rfl) rfl rfl rfl rfl (Nat.le_of_ble_eq_true rfl) [(h, .inr (1, [.int 30, .ref q12, .ref q19, .ref q26, .ref q34, .ref q42, .ref q50, .ref q58, .null, .int 0, .int 0, .int 0, .int 0, .int 0, .int 0])), (q12, .inl (k.1, 4, .inl (fun _ => 0))), (q19, .inl (k.1, 4, .inl (fun _ => 0))), (q26, .inl (k.2.1, 4, .inl (fun _ => 0))), (q34, .inl (k.1, 64, .inl (fun _ => 0))), (q42, .inl (k.1, 64, .inl (fun _ => 0))), (q50, .inl (k.1, 64, .inl (fun _ => 0))), (q58, .inl (k.1, 64, .inl (fun _ => 0)))] rfl dX1_init_60 (fun H locs hd => ?_)
  refine lv_aload_n hx hb dX1_init_63 rfl (lv_at hl 0 rfl) ?_
  refine lv_bipush (v := 64) hx hb dX1_init_64 (by decide) ?_
  refine g_newi C hd (List.mem_of_getElem? (i := 5) rfl) (N := 64) (by decide) rfl (Nat.le_of_ble_eq_true rfl) (Nat.le_of_ble_eq_true rfl) (Nat.le_of_ble_eq_true rfl) dX1_init_66 (fun q66 H hd => ?_)
  have hd : Wd B A s.heap [(h, .inr (1, [.int 30, .ref q12, .ref q19, .ref q26, .ref q34, .ref q42, .ref q50, .ref q58, .null, .int 0, .int 0, .int 0, .int 0, .int 0, .int 0])), (q12, .inl (k.1, 4, .inl (fun _ => 0))), (q19, .inl (k.1, 4, .inl (fun _ => 0))), (q26, .inl (k.2.1, 4, .inl (fun _ => 0))), (q34, .inl (k.1, 64, .inl (fun _ => 0))), (q42, .inl (k.1, 64, .inl (fun _ => 0))), (q50, .inl (k.1, 64, .inl (fun _ => 0))), (q58, .inl (k.1, 64, .inl (fun _ => 0))), (q66, .inl (k.1, 64, .inl (fun _ => 0)))] H _ := hd
  refine g_putF C rfl hd iX1_init_X1 tyX1 tyX1_ok nmX1 0 1 rfl rfl 8 (by decide) (List.mem_of_getElem? (i := 14) rfl) rfl rfl rfl rfl (Nat.le_of_ble_eq_true rfl) [(h, .inr (1, [.int 30, .ref q12, .ref q19, .ref q26, .ref q34, .ref q42, .ref q50, .ref q58, .ref q66, .int 0, .int 0, .int 0, .int 0, .int 0, .int 0])), (q12, .inl (k.1, 4, .inl (fun _ => 0))), (q19, .inl (k.1, 4, .inl (fun _ => 0))), (q26, .inl (k.2.1, 4, .inl (fun _ => 0))), (q34, .inl (k.1, 64, .inl (fun _ => 0))), (q42, .inl (k.1, 64, .inl (fun _ => 0))), (q50, .inl (k.1, 64, .inl (fun _ => 0))), (q58, .inl (k.1, 64, .inl (fun _ => 0))), (q66, .inl (k.1, 64, .inl (fun _ => 0)))] rfl dX1_init_68 (fun H locs hd => ?_)
  obtain ⟨a, ea⟩ : ∃ a : Nat → Nat, a = (fun j => [h, q12, q19, q26, q34, q42, q50, q58, q66].getD j 0) := ⟨_, rfl⟩
  have ea0 : a 0 = h := by rw [ea]; rfl
  have hd : Wd B A s.heap (wX1 k a hs_0) H locs := by rw [ea]; exact hd
  have hl : lv_has ls 2 [(0, .ref (a 0))] := by rw [ea0]; exact hl
  refine W.cs (cells' := 8) (slots' := 332) rfl rfl ?_
  have L103 : ∀ (n103 : Nat), ∀ (v103l1 : Int32) (σ103 : HS) (H : Heap) (locs : List Loc) (ls : Array Slot), Wd B A s.heap (wX1 k a σ103) H locs → lv_has ls 2 [(0, .ref (a 0)), (1, .int v103l1)] → wpX1_init_L103  post n103 v103l1 σ103 → W p l e rm_X1_init s m args below meth c H locs 8 332 (Qv below args s B A (fun u : (Nat → Nat) × HS => wX1 k u.1 u.2) (fun u : (Nat → Nat) × HS => u.1 0 = h ∧ post u.2) 8 332) (F0 m 103 ls []) := by
    intro n103
    induction n103 with
    | zero => intro v103l1 σ103 H locs ls hd hl hw; exact absurd hw (by simp [wpX1_init_L103])
    | succ n103 ih103 =>
      intro v103l1 σ103 H locs ls hd hl hw
      rw [wpX1_init_L103] at hw
      refine lv_iload_n hx hb dX1_init_103 rfl (lv_at hl 1 rfl) ?_
      refine lv_iconst (v := 4) hx hb dX1_init_104 (by decide) ?_
      refine lv_icmp_ge (tgt := 129) hx hb dX1_init_105 (by decide) (fun c5 => ?_) (fun c5 => ?_)
      · replace hw := hw.1 c5
        exact r_v C hd dX1_init_129 (a, σ103) rfl ⟨ea0, hw⟩
      · replace hw := hw.2 c5
        refine lv_aload_n hx hb dX1_init_108 rfl (lv_at hl 0 rfl) ?_
        refine g_get (v := .ref (a 1)) C hd iX1_init_X1 0 1 rfl rfl 1 (by decide) (List.mem_of_getElem? (i := 6) rfl) rfl dX1_init_109 ?_
        refine lv_iload_n hx hb dX1_init_112 rfl (lv_at hl 1 rfl) ?_
        refine lv_iload_n hx hb dX1_init_113 rfl (lv_at hl 1 rfl) ?_
        refine lv_iconst (v := 1) hx hb dX1_init_114 (by decide) ?_
        refine lv_iadd hx hb dX1_init_115 ?_
        obtain ⟨h5, hw⟩ := hw
        refine g_ist (f := hs_ageing σ103) C hd 1 rfl h5 (wX1 k a (hs_setAgeing σ103 (upd (hs_ageing σ103) v103l1.toNatClampNeg (v103l1 + 1)))) (wX1_stAgeing k a _ _) dX1_init_116 (fun H locs hd => ?_)
        refine lv_aload_n hx hb dX1_init_117 rfl (lv_at hl 0 rfl) ?_
        refine lv_iload_n hx hb dX1_init_118 rfl (lv_at hl 1 rfl) ?_
        refine lv_iconst (v := 4) hx hb dX1_init_119 (by decide) ?_
        refine v_v C hd hl M_X1_divide gX1_init_X1_divide (c_X1_divide l B k a (hs_setAgeing σ103 (upd (hs_ageing σ103) v103l1.toNatClampNeg (v103l1 + 1))) v103l1 4 _ hw) ⟨rfl, rfl⟩ ⟨Nat.le_of_ble_eq_true rfl, Nat.le_of_ble_eq_true rfl⟩ (pm_all _) (fun u => wX1 k a u) (fun _ => (pm_all _).symm) 0 1 rfl rfl rfl rfl rfl (Nat.le_of_ble_eq_true rfl) dX1_init_120 ⟨Nat.le_of_ble_eq_true rfl, Nat.le_of_ble_eq_true rfl⟩ (fun σ120 H locs hw hd => ?_)
        refine lv_iinc (v := v103l1 + 1) (lv' := [(1, .int (v103l1 + 1)), (0, .ref (a 0))]) hx hb dX1_init_123 hl (k := 1) rfl rfl (by decide) rfl (fun ls hl => ?_)
        refine lv_goto (tgt := 103) hx hb dX1_init_126 (by decide) ?_
        exact ih103 (v103l1 + 1) σ120 _ _ _ hd (lv_sub hl [1, 0] rfl) hw
  rw [wpX1_init] at hw
  refine lv_aload_n hx hb dX1_init_71 rfl (lv_at hl 0 rfl) ?_
  refine lv_iconst (v := 0) hx hb dX1_init_72 (by decide) ?_
  refine g_put C hd iX1_init_X1 tyX1 tyX1_ok nmX1 0 1 rfl rfl 9 (by decide) (List.mem_of_getElem? (i := 15) rfl) rfl rfl rfl (Nat.le_of_ble_eq_true rfl) (wX1 k a (hs_setArm hs_0 0)) (wX1_putArm k a _ _) dX1_init_73 (fun H locs hd => ?_)
  refine lv_aload_n hx hb dX1_init_76 rfl (lv_at hl 0 rfl) ?_
  refine lv_iconst (v := 0) hx hb dX1_init_77 (by decide) ?_
  refine g_put C hd iX1_init_X1 tyX1 tyX1_ok nmX1 0 1 rfl rfl 10 (by decide) (List.mem_of_getElem? (i := 16) rfl) rfl rfl rfl (Nat.le_of_ble_eq_true rfl) (wX1 k a (hs_setSteps (hs_setArm hs_0 0) 0)) (wX1_putSteps k a _ _) dX1_init_78 (fun H locs hd => ?_)
  refine lv_aload_n hx hb dX1_init_81 rfl (lv_at hl 0 rfl) ?_
  refine lv_iconst (v := 0) hx hb dX1_init_82 (by decide) ?_
  refine g_put C hd iX1_init_X1 tyX1 tyX1_ok nmX1 0 1 rfl rfl 11 (by decide) (List.mem_of_getElem? (i := 17) rfl) rfl rfl rfl (Nat.le_of_ble_eq_true rfl) (wX1 k a (hs_setRescues (hs_setSteps (hs_setArm hs_0 0) 0) 0)) (wX1_putRescues k a _ _) dX1_init_83 (fun H locs hd => ?_)
  refine lv_aload_n hx hb dX1_init_86 rfl (lv_at hl 0 rfl) ?_
  refine lv_iconst (v := 0) hx hb dX1_init_87 (by decide) ?_
  refine g_put C hd iX1_init_X1 tyX1 tyX1_ok nmX1 0 1 rfl rfl 12 (by decide) (List.mem_of_getElem? (i := 18) rfl) rfl rfl rfl (Nat.le_of_ble_eq_true rfl) (wX1 k a (hs_setLosses (hs_setRescues (hs_setSteps (hs_setArm hs_0 0) 0) 0) 0)) (wX1_putLosses k a _ _) dX1_init_88 (fun H locs hd => ?_)
  refine lv_aload_n hx hb dX1_init_91 rfl (lv_at hl 0 rfl) ?_
  refine lv_iconst (v := 0) hx hb dX1_init_92 (by decide) ?_
  refine g_put C hd iX1_init_X1 tyX1 tyX1_ok nmX1 0 1 rfl rfl 13 (by decide) (List.mem_of_getElem? (i := 19) rfl) rfl rfl rfl (Nat.le_of_ble_eq_true rfl) (wX1 k a (hs_setReads (hs_setLosses (hs_setRescues (hs_setSteps (hs_setArm hs_0 0) 0) 0) 0) 0)) (wX1_putReads k a _ _) dX1_init_93 (fun H locs hd => ?_)
  refine lv_aload_n hx hb dX1_init_96 rfl (lv_at hl 0 rfl) ?_
  refine lv_iconst (v := 0) hx hb dX1_init_97 (by decide) ?_
  refine g_put C hd iX1_init_X1 tyX1 tyX1_ok nmX1 0 1 rfl rfl 14 (by decide) (List.mem_of_getElem? (i := 20) rfl) rfl rfl rfl (Nat.le_of_ble_eq_true rfl) (wX1 k a (hs_setWrites (hs_setReads (hs_setLosses (hs_setRescues (hs_setSteps (hs_setArm hs_0 0) 0) 0) 0) 0) 0)) (wX1_putWrites k a _ _) dX1_init_98 (fun H locs hd => ?_)
  refine lv_iconst (v := 0) hx hb dX1_init_101 (by decide) ?_
  refine lv_istore_n (lv' := [(1, .int 0), (0, .ref (a 0))]) hx hb dX1_init_102 rfl hl (by decide) rfl (fun ls hl => ?_)
  obtain ⟨n, hw⟩ := hw
  exact L103 n 0 (hs_setWrites (hs_setReads (hs_setLosses (hs_setRescues (hs_setSteps (hs_setArm hs_0 0) 0) 0) 0) 0) 0) _ _ _ hd (lv_sub hl [1, 0] rfl) hw
