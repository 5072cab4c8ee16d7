/-! answers that are longs; the law's own script, handed to a helper -/
def Ctl (l : Launch) (y : MethodName) (wds : List Cond) (rm : Room) (mc ms : Nat) (B : va_G) (k : KT) (av : List Value) (ws : va_W) {S : Type} (cells : S → va_W) (post : Int64 → S → Prop) : Prop :=
  ∀ sz : Nat, Met l y wds rm (pre B k av ws sz) (va_Ql post (aft B (va_A ws sz) cells) (va_A ws sz)) mc ms (va_A ws sz)
def Ql (below : List Frame) (args : Array Value) (s : State) (B : va_G) (A : Nat → Prop) {S : Type} (cells : S → va_W) (post : Int64 → S → Prop) (mc ms : Nat) : State → Prop := MQ below (va_Ql post (aft B A cells) A) args s mc ms A
def preX (B : va_G) (k : KT) (b L : Nat) (xs : Nat → Int32) (av : List Value) (sz : Nat) : Array Value → State → Prop := va_Pc av (fun U => U.heap.size = sz ∧ Kx B k U ∧ b < sz ∧ va_X b L xs U U.heap)
theorem preX_blind {B : va_G} {k : KT} {b L : Nat} {xs : Nat → Int32} {av : List Value} {sz : Nat} : FrameBlind (preX B k b L xs av sz) := by
  intro a U g mk h
  obtain ⟨h1, h2, h3, h4, h5⟩ := h
  exact ⟨h1, h2, Kx.same (s := U) (U := U.calling g mk a) rfl h3, h4, va_X.moved (u := U) (U := U.calling g mk a) (Vm.Alike.refl U.vm) h5⟩
section LZ2
variable {p : Program} {l : Launch} {e : Env} {R : Room} {s : State} {m : MethodId} {args : Array Value} {below : List Frame} {meth : Method} {c : Code} {H : Heap} {locs : List Loc} {cl sl : Nat} {Q : State → Prop}
variable {cc : ByteArray} {pc nL : Nat} {ls : Array Slot} {rest st0 : List Value} {Ts : List Cond} {own nm : String} {ret : Option FieldType} {B : va_G} {k : KT} {A : Nat → Prop} {ws wc wr : va_W} {lv : List (Nat × Value)} {S : Type}
theorem Ctl.of {y : MethodName} {wds : List Cond} {rm : Room} {mc ms : Nat} {av : List Value} {cells : S → va_W} {post : Int64 → S → Prop} {maxL n : Nat} {rt : FieldType} (M : MI y wds cc maxL (some rt) n) (hlen : (lg_sl av).length ≤ maxL)
    (body : ∀ p e s m args below meth c A, Cx p s m args meth c cc maxL wds y.cls y.name (some rt) B k A → Wd B A s.heap ws s.heap [] → ∀ ls, lv_has ls maxL (lv_args 0 av) → W p l e rm s m args below meth c s.heap [] 0 0 (Ql below args s B A cells post mc ms) (F0 m 0 ls [])) : Ctl l y wds rm mc ms B k av ws cells post := by
  intro sz
  obtain ⟨⟨ws', hw⟩, -, -, -, hy⟩ := M
  refine Met.ofW (cc := cc) (maxL := maxL) (ret := some rt) hy hw ?_
  intro p e s m args below meth c s₁ Bd hml hv
  obtain ⟨rfl, hsz, hP, hK, hD0⟩ := hv
  have hx := Bd.exec
  have hb := Bd.bytes
  have hr := Bd.returns
  have hts := atoms_spec (ws := wds) Bd.pre
  have hown : s.vm.findClass y.cls = some m.cls := findClass_of_methodNamed Bd.named
  have hlocks := Bd.notSynchronized
  have hnm : meth.name = y.name := (name_of_methodNamed Bd.named Bd.method).1
  subst hsz
  have hD := hD0.self (sz := s.heap.size)
  generalize hAe : va_A ws s.heap.size = A at hD ⊢
  have hA : ∀ q : Nat, s.heap.size ≤ q → A q := fun q h => by rw [← hAe]; exact Or.inr h
  have hl := lv_entry av (n := maxL) hlen
  rw [lg_entry_eq]
  generalize (lg_sl av ++ List.replicate (maxL - (lg_sl av).length) Slot.unset).toArray = ls at hl ⊢
  exact body p e s m av.toArray below meth c A ⟨hx, hb, hml, hown, hts, hr, hlocks, hA, hK, hnm⟩ ⟨hP, hD, va_S.rf⟩ ls hl
theorem r_l {cells : S → va_W} {post : Int64 → S → Prop} {r : Int64} (C : Cx p s m args meth c cc nL Ts own nm (some .long) B k A) (hd : Wd B A s.heap ws H locs) (hdg : decode cc pc = .ok (.lreturn, 1)) (u : S) (hu : ws = cells u) (hp : post r u) : W p l e R s m args below meth c H locs cl sl (Ql below args s B A cells post cl sl) (F0 m pc ls [.long r]) := by
  obtain ⟨hx, hb, -, -, -, hr, hlocks, -⟩ := C
  subst hu
  exact W.lret hx hb hr (fun t ht hW => ⟨⟨r, u, rfl, hp, by rw [ht]; exact hd.1, hd.2.1⟩, hd.2.2.F ht⟩) hd.2.2.2.2 hdg hlocks
theorem s_l {y : MethodName} {wds : List Cond} {bytes : ByteArray} {maxL index n : Nat} {rt : Option FieldType} {rm : Room} {As : List Value} {cells : S → va_W} {post : Int64 → S → Prop} (C : Cx p s m args meth c cc nL Ts own nm ret B k A) (hd : Wd B A s.heap ws H locs) (hl : lv_has ls nL lv) (M : MI y wds bytes maxL rt n) (G : GoodIn Ts (wsS own index y wds)) (hyo : y.cls = own) (hC : Ctl l y wds rm 0 0 B k As wc cells post) (hrm : rm.cells = 0 ∧ rm.slots = 0) (hR : rm.frames + 1 ≤ R.frames ∧ 8 + (maxL + 11) + rm.locals ≤ R.locals)
    (hpm : ws.Perm (wc ++ wr)) (out : S → va_W) (hout : ∀ u, (cells u ++ wr).Perm (out u)) (hn : As.length = n) (hst : st0 = As.reverse ++ rest) (hrest : (rest.map fun v => v.category).sum ≤ 8) (hdg : decode cc pc = .ok (.invokestatic index, 3)) (hf : cl ≤ R.cells ∧ sl ≤ R.slots)
    (kk : ∀ (r : Int64) (u : S) (H1 : Heap) (locs1 : List Loc), post r u → Wd B A s.heap (out u) H1 locs1 → W p l e R s m args below meth c H1 locs1 cl sl Q (F0 m (pc + 3) ls (.long r :: rest))) : W p l e R s m args below meth c H locs cl sl Q (F0 m pc ls st0) := by
  subst hst
  have hd' := hd.perm hpm
  have hA := C.2.2.2.2.2.2.2.1
  obtain ⟨⟨ws', hw⟩, h1, h2, h3, -⟩ := M
  refine va_calll (va_runS (As := As) (rest := rest) ⟨C.1, C.2.1, C.2.2.1, C.2.2.2.1, C.2.2.2.2.1⟩ (hC H.size) (cwS n C.2.2.2.2.1 G hw hrm.1 hrm.2 ⟨hyo, h1, h2, h3⟩ hR) ⟨pre_blind, fr_pre C.2.2.2.2.2.2.2.2.1 hd'⟩ rfl hn hl.1 rfl (lv_room hrest) hdg hf) hd.2.2 (fun q _ h => fr_A hA hd' q h) (fr_A hA hd') (fun r u t H1 locs1 ht hvm hw hB hz1 hk1 hS => ?_)
  obtain ⟨hP1, hD1⟩ := hB
  rw [ht] at hP1
  exact kk r u H1 locs1 hw ((fr_call hA hd' hk1 hS hP1 hD1).perm (hout u))
theorem s_cell {y : MethodName} {wds : List Cond} {bytes : ByteArray} {maxL index n b L : Nat} {xs : Nat → Int32} {rt : Option FieldType} {rm : Room} {As : List Value} {post : Int32 → Prop} (C : Cx p s m args meth c cc nL Ts own nm ret B k A) (hd : Wd B A s.heap ws H locs) (hl : lv_has ls nL lv) (hX : va_X b L xs s s.heap) (hbl : b < s.heap.size) (hbA : ¬ A b) (M : MI y wds bytes maxL rt n) (G : GoodIn Ts (wsS own index y wds)) (hyo : y.cls = own) (hC : ∀ sz : Nat, Met l y wds rm (preX B k b L xs As sz) (va_Qi (fun r (_ : Unit) => post r) (aft B (va_A [] sz) (fun _ : Unit => [])) (va_A [] sz)) 0 0 (va_A [] sz)) (hrm : rm.cells = 0 ∧ rm.slots = 0) (hR : rm.frames + 1 ≤ R.frames ∧ 8 + (maxL + 11) + rm.locals ≤ R.locals)
    (hn : As.length = n) (hst : st0 = As.reverse ++ rest) (hrest : (rest.map fun v => v.category).sum ≤ 8) (hdg : decode cc pc = .ok (.invokestatic index, 3)) (hf : cl ≤ R.cells ∧ sl ≤ R.slots)
    (kk : ∀ (r : Int32) (H1 : Heap) (locs1 : List Loc), post r → Wd B A s.heap ws H1 locs1 → W p l e R s m args below meth c H1 locs1 cl sl Q (F0 m (pc + 3) ls (.int r :: rest))) : W p l e R s m args below meth c H locs cl sl Q (F0 m pc ls st0) := by
  subst hst
  have hd' : Wd B A s.heap (([] : va_W) ++ ws) H locs := hd
  have hA := C.2.2.2.2.2.2.2.1
  have hK := C.2.2.2.2.2.2.2.2.1
  obtain ⟨⟨ws', hw⟩, h1, h2, h3, -⟩ := M
  have hP : ∀ U : State, U.heap = H → s.WarmedH U.vm → preX B k b L xs As H.size As.toArray U := fun U hU hW =>
    ⟨rfl, by rw [hU], Kx.warm hW hK, Nat.lt_of_lt_of_le hbl hd.2.2.1, by rw [hU]; exact va_X.moved hW.alike (hX.kept (hd.2.2.2.1 b hbl hbA))⟩
  refine va_calli (va_runS (As := As) (rest := rest) ⟨C.1, C.2.1, C.2.2.1, C.2.2.2.1, C.2.2.2.2.1⟩ (hC H.size) (cwS n C.2.2.2.2.1 G hw hrm.1 hrm.2 ⟨hyo, h1, h2, h3⟩ hR) ⟨preX_blind, hP⟩ rfl hn hl.1 rfl (lv_room hrest) hdg hf) hd.2.2 (fun q _ h => fr_A hA hd' q h) (fr_A hA hd') (fun r u t H1 locs1 ht hvm hw hB hz1 hk1 hS => ?_)
  obtain ⟨hP1, hD1⟩ := hB
  rw [ht] at hP1
  exact kk r H1 locs1 hw (fr_call hA hd' hk1 hS hP1 hD1)
end LZ2
