/-! THE LAYER: a world as a list of cells up to order, contracts with a free post, and one row for each kind of call -/
abbrev KT : Type := ClassId × ClassId × ClassId
abbrev kTy (k : KT) : List (ClassId × FieldType) := [(k.1, .int), (k.2.1, .boolean), (k.2.2, .object RX1)]
def bi : Bool → Int32
  | true => 1
  | false => 0
theorem bi_t : bi true = 1 := rfl
theorem bi_f : bi false = 0 := rfl
theorem bi_nar (b : Bool) : narrow .boolean (.int (bi b)) = .int (bi b) := by cases b <;> rfl
theorem bi_ne (b : Bool) : ¬ bi b = 0 ↔ b = true := by cases b <;> simp [bi]
theorem bi_eq (b : Bool) : bi b = 0 ↔ b = false := by cases b <;> simp [bi]
def nWs : List Cond := [.methodLinkNest RX1 73 yX3_isSector RX3, .methodLinkNest RX1 76 yX3_placeOf RX3, .methodLinkNest RX1 80 yX3_headOf RX3, .methodLinkNest RX1 101 yX3_stepsBetween RX3, .methodLinkNest RX3 31 yX0_init RX3]
def Kx (B : va_G) (k : KT) (U : State) : Prop := va_K B vwCl (kTy k) U ∧ (∀ w ∈ nWs, va_Nw w U) ∧ va_AO RX1 U
theorem nWs_form : ∀ w ∈ nWs, ∃ a i x h, w = .methodLinkNest a i x h := by
  intro w hw
  simp only [nWs, List.mem_cons, List.not_mem_nil, or_false] at hw
  rcases hw with rfl | rfl | rfl | rfl | rfl <;> exact ⟨_, _, _, _, rfl⟩
theorem Kx.warm {B : va_G} {k : KT} {s U : State} (hW : s.WarmedH U.vm) (h : Kx B k s) : Kx B k U := by
  refine ⟨va_K.moved hW.alike h.1, fun w hw => ?_, va_AO.moved hW.alike h.2.2⟩
  obtain ⟨a, i, x, g, rfl⟩ := nWs_form w hw
  exact va_Nw.warmM hW (h.2.1 _ hw)
theorem Kx.same {B : va_G} {k : KT} {s U : State} (hv : s.vm = U.vm) (h : Kx B k s) : Kx B k U := by
  refine ⟨va_K.moved (by rw [hv]; exact Vm.Alike.refl U.vm) h.1, fun w hw => ?_, va_AO.moved (by rw [hv]; exact Vm.Alike.refl U.vm) h.2.2⟩
  obtain ⟨a, i, x, g, rfl⟩ := nWs_form w hw
  exact va_Nw.same rfl hv (h.2.1 _ hw)
/-! worlds up to order -/
theorem va_P_mem {D : va_G} {cl : List vw_C} {ws : va_W} {H : Heap} : va_P D cl ws H ↔ ∀ q ∈ ws, va_at D cl q H := by
  constructor
  · intro h q hq
    obtain ⟨i, hi⟩ := List.getElem?_of_mem hq
    exact h i q hi
  · intro h i q hi
    exact h q (List.mem_of_getElem? hi)
theorem va_D_nd {A : Nat → Prop} : ∀ {ws : va_W}, va_D A ws ↔ (ws.map (·.1)).Nodup ∧ ∀ q ∈ ws, A q.1 := by
  intro ws
  constructor
  · intro h
    refine ⟨?_, fun q hq => ?_⟩
    · rw [List.nodup_iff_pairwise_ne, List.pairwise_iff_getElem]
      intro i j hi hj hij e
      simp only [List.getElem_map] at e
      have hi' : i < ws.length := by simpa using hi
      have hj' : j < ws.length := by simpa using hj
      have := h.1 i j ws[i] ws[j] (List.getElem?_eq_getElem hi') (List.getElem?_eq_getElem hj') e
      omega
    · obtain ⟨i, hi⟩ := List.getElem?_of_mem hq
      exact h.2 i q hi
  · intro h
    refine ⟨fun i j p q hi hj e => ?_, fun i q hi => h.2 q (List.mem_of_getElem? hi)⟩
    obtain ⟨hi', rfl⟩ := List.getElem?_eq_some_iff.mp hi
    obtain ⟨hj', rfl⟩ := List.getElem?_eq_some_iff.mp hj
    have hn := h.1
    rw [List.nodup_iff_pairwise_ne, List.pairwise_iff_getElem] at hn
    rcases Nat.lt_trichotomy i j with q | q | q
    · have z := hn i j (by simpa using hi') (by simpa using hj') q
      rw [List.getElem_map, List.getElem_map] at z
      exact absurd e z
    · exact q
    · have z := hn j i (by simpa using hj') (by simpa using hi') q
      rw [List.getElem_map, List.getElem_map] at z
      exact absurd e.symm z
def Wd (B : va_G) (A : Nat → Prop) (H0 : Heap) (ws : va_W) (H : Heap) (locs : List Loc) : Prop := va_P B vwCl ws H ∧ va_D A ws ∧ va_S A H0 H locs
theorem Wd.perm {B : va_G} {A : Nat → Prop} {H0 H : Heap} {ws ws' : va_W} {locs : List Loc} (h : Wd B A H0 ws H locs) (hp : ws.Perm ws') : Wd B A H0 ws' H locs := by
  refine ⟨va_P_mem.mpr fun q hq => va_P_mem.mp h.1 q (hp.mem_iff.mpr hq), va_D_nd.mpr ?_, h.2.2⟩
  obtain ⟨h1, h2⟩ := va_D_nd.mp h.2.1
  exact ⟨(hp.map _).nodup_iff.mp h1, fun q hq => h2 q (hp.mem_iff.mpr hq)⟩
theorem pm_all (ws : va_W) : ws.Perm (ws ++ []) := by rw [List.append_nil]
theorem pm_non (ws : va_W) : ws.Perm (([] : va_W) ++ ws) := List.Perm.refl _
theorem pm_mid (X Y Z : va_W) : (X ++ (Y ++ Z)).Perm (Y ++ (X ++ Z)) := by
  rw [← List.append_assoc, ← List.append_assoc]
  exact List.Perm.append_right Z List.perm_append_comm
theorem pm_two (X Y Z V U : va_W) : (X ++ (Y ++ (Z ++ (V ++ U)))).Perm ((Y ++ V) ++ (X ++ (Z ++ U))) := by
  refine (pm_mid X Y _).trans ?_
  rw [List.append_assoc]
  refine List.Perm.append_left Y ?_
  refine (List.Perm.append_left X (pm_mid Z V U)).trans (pm_mid X V _)
theorem pm_owt (X Y Z V U : va_W) : (X ++ (Y ++ (Z ++ (V ++ U)))).Perm ((V ++ Y) ++ (X ++ (Z ++ U))) :=
  (pm_two X Y Z V U).trans (List.Perm.append_right _ List.perm_append_comm)
/-- the frame: behind a call, what came back beside the rest -/
theorem fr_join {A : Nat → Prop} {B : va_G} {wc wr w1 : va_W} {H H1 : Heap} (hP : va_P B vwCl (wc ++ wr) H) (hD : va_D A (wc ++ wr)) (hk : ∀ q : Nat, q < H.size → ¬ va_A wc H.size q → H1[q]? = H[q]?) (hF : ∀ q, va_A wc H.size q → A q) (hP1 : va_P B vwCl w1 H1) (hD1 : va_D (va_A wc H.size) w1) : va_P B vwCl (w1 ++ wr) H1 ∧ va_D A (w1 ++ wr) := by
  have hPm := va_P_mem.mp hP
  obtain ⟨hn, hAm⟩ := va_D_nd.mp hD
  have hn0 := hn
  rw [List.map_append, List.nodup_append] at hn
  have apart : ∀ q ∈ wr, q.1 < H.size ∧ ¬ va_A wc H.size q.1 := by
    intro q hq
    have hl := (hPm q (List.mem_append_right _ hq)).lt
    refine ⟨hl, fun h => ?_⟩
    rcases h with ⟨k2, e, h⟩ | h
    · exact hn.2.2 q.1 (List.mem_map.mpr ⟨(q.1, e), List.mem_of_getElem? h, rfl⟩) q.1 (List.mem_map.mpr ⟨q, hq, rfl⟩) rfl
    · omega
  obtain ⟨hn1, hA1⟩ := va_D_nd.mp hD1
  refine ⟨va_P_mem.mpr fun q hq => ?_, va_D_nd.mpr ⟨?_, fun q hq => ?_⟩⟩
  · rcases List.mem_append.mp hq with h | h
    · exact va_P_mem.mp hP1 q h
    · obtain ⟨g1, g2⟩ := apart q h
      exact (hPm q (List.mem_append_right _ h)).kept (hk q.1 g1 g2)
  · rw [List.map_append, List.nodup_append]
    refine ⟨hn1, hn.2.1, fun a ha b hb e => ?_⟩
    obtain ⟨x, hx, rfl⟩ := List.mem_map.mp ha
    obtain ⟨y, hy, rfl⟩ := List.mem_map.mp hb
    exact (apart y hy).2 (by rw [← e]; exact hA1 x hx)
  · rcases List.mem_append.mp hq with h | h
    · exact hF q.1 (hA1 q h)
    · exact hAm q (List.mem_append_right _ h)
theorem pm_pick {ws : va_W} (i : Nat) {q : Nat × va_E} (h : ws[i]? = some q) : ws.Perm ([q] ++ ws.eraseIdx i) := by
  obtain ⟨hi, rfl⟩ := List.getElem?_eq_some_iff.mp h
  rw [List.eraseIdx_eq_take_drop_succ]
  have e : ws = ws.take i ++ ([ws[i]] ++ ws.drop (i + 1)) := by
    rw [List.singleton_append, List.getElem_cons_drop, List.take_append_drop]
  exact (List.Perm.of_eq e).trans (pm_mid _ _ _)
theorem pm_pick2 {ws : va_W} (i j : Nat) {q r : Nat × va_E} (h : ws[i]? = some q) (h2 : (ws.eraseIdx i)[j]? = some r) : ws.Perm ([q, r] ++ (ws.eraseIdx i).eraseIdx j) :=
  (pm_pick i h).trans (List.Perm.cons q (pm_pick j h2))
theorem sw_ne {x j : Int32} {z : Int} (h : ¬ x = j) (e : j.toInt = z) : x.toInt ≠ z := fun q => h (Int32.toInt_inj.mp (q.trans e.symm))
/-! contracts -/
def pre (B : va_G) (k : KT) (av : List Value) (ws : va_W) (sz : Nat) : Array Value → State → Prop := va_Pc av (fun U => U.heap.size = sz ∧ va_P B vwCl ws U.heap ∧ Kx B k U ∧ va_D (fun _ => True) ws)
def aft (B : va_G) (A : Nat → Prop) {S : Type} (cells : S → va_W) : S → State → Prop := fun u t => va_P B vwCl (cells u) t.heap ∧ va_D A (cells u)
def Cti (l : Launch) (y : MethodName) (wds : List Cond) (rm : Room) (mc ms : Nat) (B : va_G) (k : KT) (av : List Value) (ws : va_W) {S : Type} (cells : S → va_W) (post : Int32 → S → Prop) : Prop :=
  ∀ sz : Nat, Met l y wds rm (pre B k av ws sz) (va_Qi post (aft B (va_A ws sz) cells) (va_A ws sz)) mc ms (va_A ws sz)
def Ctv (l : Launch) (y : MethodName) (wds : List Cond) (rm : Room) (mc ms : Nat) (B : va_G) (k : KT) (av : List Value) (ws : va_W) {S : Type} (cells : S → va_W) (post : S → Prop) : Prop :=
  ∀ sz : Nat, Met l y wds rm (pre B k av ws sz) (va_Qv post (aft B (va_A ws sz) cells) (va_A ws sz)) mc ms (va_A ws sz)
def bpost {S : Type} (post : Bool → S → Prop) : Int32 → S → Prop := fun r u => ∃ b : Bool, r = bi b ∧ post b u
theorem pre_blind {B : va_G} {k : KT} {av : List Value} {ws : va_W} {sz : Nat} : FrameBlind (pre B k av ws sz) := by
  intro a U g mk h
  obtain ⟨h1, h2, h3, h4, h5⟩ := h
  exact ⟨h1, h2, h3, Kx.same (s := U) (U := U.calling g mk a) rfl h4, h5⟩
/-- what stays all through a method's walk -/
def Cx (p : Program) (s : State) (m : MethodId) (args : Array Value) (meth : Method) (c : Code) (cc : ByteArray) (nL : Nat) (Ts : List Cond) (own nm : String) (ret : Option FieldType) (B : va_G) (k : KT) (A : Nat → Prop) : Prop :=
  p.tables.exec = Jvm.exec ∧ c.code = cc ∧ c.maxLocals = nL ∧ s.vm.findClass own = some m.cls ∧ (∀ w ∈ Ts, w.before args s = true) ∧ meth.sig.returnType = ret ∧ meth.locks = false ∧ (∀ q, s.heap.size ≤ q → A q) ∧ Kx B k s ∧ meth.name = nm
def Qi (below : List Frame) (args : Array Value) (s : State) (B : va_G) (A : Nat → Prop) {S : Type} (cells : S → va_W) (post : Int32 → S → Prop) (mc ms : Nat) : State → Prop := MQ below (va_Qi post (aft B A cells) A) args s mc ms A
def Qv (below : List Frame) (args : Array Value) (s : State) (B : va_G) (A : Nat → Prop) {S : Type} (cells : S → va_W) (post : S → Prop) (mc ms : Nat) : State → Prop := MQ below (va_Qv post (aft B A cells) A) args s mc ms A
/-- what a call needs to know of a method, once and for all -/
def MI (y : MethodName) (wds : List Cond) (bytes : ByteArray) (maxL : Nat) (rt : Option FieldType) (n : Nat) : Prop :=
  (∃ ws', wds = Cond.code y bytes maxL rt :: ws') ∧ y.cls ≠ "java/lang/invoke/MethodHandle" ∧ y.cls ≠ "java/lang/invoke/VarHandle" ∧ (parseMethodDescriptor y.desc).map (fun d => d.parameters.length) = some n ∧ plainName y.cls = true
section LY
variable {p : Program} {l : Launch} {e : Env} {R : Room} {s : State} {m : MethodId} {args : Array Value} {below : List Frame} {meth : Method} {c : Code} {H : Heap} {locs : List Loc} {cl sl : Nat} {Q : State → Prop}
variable {cc : ByteArray} {pc nL : Nat} {ls : Array Slot} {rest st0 : List Value} {Ts : List Cond} {own nm : String} {ret : Option FieldType} {B : va_G} {k : KT} {A : Nat → Prop} {ws wc wr : va_W} {lv : List (Nat × Value)} {S : Type}
theorem Cti.of {y : MethodName} {wds : List Cond} {rm : Room} {mc ms : Nat} {av : List Value} {cells : S → va_W} {post : Int32 → S → Prop} {maxL n : Nat} {rt : FieldType} (M : MI y wds cc maxL (some rt) n) (hlen : (lg_sl av).length ≤ maxL)
    (body : ∀ p e s m args below meth c A, Cx p s m args meth c cc maxL wds y.cls y.name (some rt) B k A → Wd B A s.heap ws s.heap [] → ∀ ls, lv_has ls maxL (lv_args 0 av) → W p l e rm s m args below meth c s.heap [] 0 0 (Qi below args s B A cells post mc ms) (F0 m 0 ls [])) : Cti l y wds rm mc ms B k av ws cells post := by
  intro sz
  obtain ⟨⟨ws', hw⟩, -, -, -, hy⟩ := M
  refine Met.ofW (cc := cc) (maxL := maxL) (ret := some rt) hy hw ?_
  intro p e s m args below meth c s₁ Bd hml hv
  obtain ⟨rfl, hsz, hP, hK, hD0⟩ := hv
  have hx := Bd.exec
  have hb := Bd.bytes
  have hr := Bd.returns
  have hts := atoms_spec (ws := wds) Bd.pre
  have hown : s.vm.findClass y.cls = some m.cls := findClass_of_methodNamed Bd.named
  have hlocks := Bd.notSynchronized
  have hnm : meth.name = y.name := (name_of_methodNamed Bd.named Bd.method).1
  subst hsz
  have hD := hD0.self (sz := s.heap.size)
  generalize hAe : va_A ws s.heap.size = A at hD ⊢
  have hA : ∀ q : Nat, s.heap.size ≤ q → A q := fun q h => by rw [← hAe]; exact Or.inr h
  have hl := lv_entry av (n := maxL) hlen
  rw [lg_entry_eq]
  generalize (lg_sl av ++ List.replicate (maxL - (lg_sl av).length) Slot.unset).toArray = ls at hl ⊢
  exact body p e s m av.toArray below meth c A ⟨hx, hb, hml, hown, hts, hr, hlocks, hA, hK, hnm⟩ ⟨hP, hD, va_S.rf⟩ ls hl
theorem Ctv.of {y : MethodName} {wds : List Cond} {rm : Room} {mc ms : Nat} {av : List Value} {cells : S → va_W} {post : S → Prop} {maxL n : Nat} (M : MI y wds cc maxL none n) (hlen : (lg_sl av).length ≤ maxL)
    (body : ∀ p e s m args below meth c A, Cx p s m args meth c cc maxL wds y.cls y.name none B k A → Wd B A s.heap ws s.heap [] → ∀ ls, lv_has ls maxL (lv_args 0 av) → W p l e rm s m args below meth c s.heap [] 0 0 (Qv below args s B A cells post mc ms) (F0 m 0 ls [])) : Ctv l y wds rm mc ms B k av ws cells post := by
  intro sz
  obtain ⟨⟨ws', hw⟩, -, -, -, hy⟩ := M
  refine Met.ofW (cc := cc) (maxL := maxL) (ret := none) hy hw ?_
  intro p e s m args below meth c s₁ Bd hml hv
  obtain ⟨rfl, hsz, hP, hK, hD0⟩ := hv
  have hx := Bd.exec
  have hb := Bd.bytes
  have hr := Bd.returns
  have hts := atoms_spec (ws := wds) Bd.pre
  have hown : s.vm.findClass y.cls = some m.cls := findClass_of_methodNamed Bd.named
  have hlocks := Bd.notSynchronized
  have hnm : meth.name = y.name := (name_of_methodNamed Bd.named Bd.method).1
  subst hsz
  have hD := hD0.self (sz := s.heap.size)
  generalize hAe : va_A ws s.heap.size = A at hD ⊢
  have hA : ∀ q : Nat, s.heap.size ≤ q → A q := fun q h => by rw [← hAe]; exact Or.inr h
  have hl := lv_entry av (n := maxL) hlen
  rw [lg_entry_eq]
  generalize (lg_sl av ++ List.replicate (maxL - (lg_sl av).length) Slot.unset).toArray = ls at hl ⊢
  exact body p e s m av.toArray below meth c A ⟨hx, hb, hml, hown, hts, hr, hlocks, hA, hK, hnm⟩ ⟨hP, hD, va_S.rf⟩ ls hl
/-! ends -/
theorem r_i {cells : S → va_W} {post : Int32 → S → Prop} {r : Int32} (C : Cx p s m args meth c cc nL Ts own nm (some .int) B k A) (hd : Wd B A s.heap ws H locs) (hdg : decode cc pc = .ok (.ireturn, 1)) (u : S) (hu : ws = cells u) (hp : post r u) : W p l e R s m args below meth c H locs cl sl (Qi below args s B A cells post cl sl) (F0 m pc ls [.int r]) := by
  obtain ⟨hx, hb, -, -, -, hr, hlocks, -⟩ := C
  subst hu
  exact W.iret hx hb hr (fun t ht hW => ⟨⟨r, u, rfl, hp, by rw [ht]; exact hd.1, hd.2.1⟩, hd.2.2.F ht⟩) hd.2.2.2.2 hdg hlocks
theorem r_z {cells : S → va_W} {post : Bool → S → Prop} (b : Bool) (C : Cx p s m args meth c cc nL Ts own nm (some .boolean) B k A) (hd : Wd B A s.heap ws H locs) (hdg : decode cc pc = .ok (.ireturn, 1)) (u : S) (hu : ws = cells u) (hp : post b u) : W p l e R s m args below meth c H locs cl sl (Qi below args s B A cells (bpost post) cl sl) (F0 m pc ls [.int (bi b)]) := by
  obtain ⟨hx, hb, -, -, -, hr, hlocks, -⟩ := C
  subst hu
  exact W.zret hx hb hr (bi_nar b) (fun t ht hW => ⟨⟨bi b, u, rfl, ⟨b, rfl, hp⟩, by rw [ht]; exact hd.1, hd.2.1⟩, hd.2.2.F ht⟩) hd.2.2.2.2 hdg hlocks
theorem r_v {cells : S → va_W} {post : S → Prop} (C : Cx p s m args meth c cc nL Ts own nm none B k A) (hd : Wd B A s.heap ws H locs) (hdg : decode cc pc = .ok (.return_, 1)) (u : S) (hu : ws = cells u) (hp : post u) : W p l e R s m args below meth c H locs cl sl (Qv below args s B A cells post cl sl) (F0 m pc ls []) := by
  obtain ⟨hx, hb, -, -, -, hr, hlocks, -⟩ := C
  subst hu
  exact W.vret hx hb hr (fun t ht hW => ⟨⟨u, rfl, hp, by rw [ht]; exact hd.1, hd.2.1⟩, hd.2.2.F ht⟩) hd.2.2.2.2 hdg hlocks
/-! fields and arrays -/
theorem g_get (C : Cx p s m args meth c cc nL Ts own nm ret B k A) (hd : Wd B A s.heap ws H locs) {a : Nat} {Cn : String} {T : u_T} {N index : Nat} (hin : ∀ w ∈ u_ws Cn T N, w ∈ Ts) (q0 ci : Nat) {fs : List Value} (he : ws[q0]? = some (a, .inr (ci, fs))) (hc : vwCl[ci]? = some (Cn, T, N)) (j : Nat) (hj : j < N) (hlink : Cond.fieldLink own index (T j).1 (T j).2.1 (T j).2.2.1 ∈ Ts) {v : Value} (hv : fs[j]? = some v) (hdg : decode cc pc = .ok (.getfield index, 3))
    (kk : W p l e R s m args below meth c H locs cl sl Q (F0 m (pc + 3) ls (v :: rest))) : W p l e R s m args below meth c H locs cl sl Q (F0 m pc ls (.ref a :: rest)) := by
  obtain ⟨hx, hb, -, ho, hts, -, -, -, hK, -⟩ := C
  exact va_get hx hb hts hin ho hK.1 hd.1 q0 he hc j hj (hts _ hlink) (fun _ h9 => h9) hv hdg kk
theorem g_put (C : Cx p s m args meth c cc nL Ts own nm ret B k A) (hd : Wd B A s.heap ws H locs) {a : Nat} {Cn : String} {T : u_T} {N index : Nat} (hin : ∀ w ∈ u_ws Cn T N, w ∈ Ts) (ty0 : Nat → FieldType) (hty : ∀ k, k < N → parseFieldDescriptor (T k).2.2.1 = some (ty0 k)) (hnm : ∀ a, a < N → ∀ b, b < N → a ≠ b → (T a).2.1 ≠ (T b).2.1) (q0 ci : Nat) {fs : List Value} (he : ws[q0]? = some (a, .inr (ci, fs))) (hc : vwCl[ci]? = some (Cn, T, N)) (j : Nat) (hj : j < N) (hlink : Cond.fieldLink own index (T j).1 (T j).2.1 (T j).2.2.1 ∈ Ts) (hfin : (T j).2.2.2 = false) {v : Value} (hn : narrow (ty0 j) v = v) (hfit : fits (ty0 j) v = true) (hlf : j + 1 ≤ fs.length) (ws' : va_W) (hset : ws.set q0 (a, .inr (ci, fs.set j v)) = ws') (hdg : decode cc pc = .ok (.putfield index, 3))
    (kk : ∀ (H1 : Heap) (locs1 : List Loc), Wd B A s.heap ws' H1 locs1 → W p l e R s m args below meth c H1 locs1 cl sl Q (F0 m (pc + 3) ls rest)) : W p l e R s m args below meth c H locs cl sl Q (F0 m pc ls (v :: .ref a :: rest)) := by
  obtain ⟨hx, hb, -, ho, hts, -, -, -, hK, -⟩ := C
  subst hset
  exact va_put hx hb hts hin ty0 hty hnm ho hK.1 hd.1 hd.2.1 hd.2.2 q0 he hc j hj (hts _ hlink) (fun _ h9 => h9) hfin (hty j hj) hn hfit hlf hdg (fun H1 l1 a1 a2 a3 => kk H1 l1 ⟨a1, a2, a3⟩)
theorem g_putF (C : Cx p s m args meth c cc nL Ts own nm ret B k A) (hini : nm = "<init>") (hd : Wd B A s.heap ws H locs) {a : Nat} {T : u_T} {N index : Nat} (hin : ∀ w ∈ u_ws own T N, w ∈ Ts) (ty0 : Nat → FieldType) (hty : ∀ k, k < N → parseFieldDescriptor (T k).2.2.1 = some (ty0 k)) (hnm : ∀ a, a < N → ∀ b, b < N → a ≠ b → (T a).2.1 ≠ (T b).2.1) (q0 ci : Nat) {fs : List Value} (he : ws[q0]? = some (a, .inr (ci, fs))) (hc : vwCl[ci]? = some (own, T, N)) (j : Nat) (hj : j < N) (hlink : Cond.fieldLink own index (T j).1 (T j).2.1 (T j).2.2.1 ∈ Ts) (hfin : (T j).2.2.2 = true) (hdecl : (T j).1 = own) {v : Value} (hn : narrow (ty0 j) v = v) (hfit : fits (ty0 j) v = true) (hlf : j + 1 ≤ fs.length) (ws' : va_W) (hset : ws.set q0 (a, .inr (ci, fs.set j v)) = ws') (hdg : decode cc pc = .ok (.putfield index, 3))
    (kk : ∀ (H1 : Heap) (locs1 : List Loc), Wd B A s.heap ws' H1 locs1 → W p l e R s m args below meth c H1 locs1 cl sl Q (F0 m (pc + 3) ls rest)) : W p l e R s m args below meth c H locs cl sl Q (F0 m pc ls (v :: .ref a :: rest)) := by
  obtain ⟨hx, hb, -, ho, hts, -, -, -, hK, hm⟩ := C
  subst hset
  exact va_putF hx hb hts hin ty0 hty hnm ho hK.1 hd.1 hd.2.1 hd.2.2 q0 he hc j hj (hts _ hlink) (fun _ h9 => h9) hfin (hm.trans hini) hdecl (hty j hj) hn hfit hlf hdg (fun H1 l1 a1 a2 a3 => kk H1 l1 ⟨a1, a2, a3⟩)
theorem g_ild (C : Cx p s m args meth c cc nL Ts own nm ret B k A) (hd : Wd B A s.heap ws H locs) (q0 : Nat) {a n : Nat} {f : Nat → Int32} (ha : ws[q0]? = some (a, .inl (k.1, n, .inl f))) {i : Int32} (hin : vp_in i n) (hdg : decode cc pc = .ok (.iaload, 1))
    (kk : W p l e R s m args below meth c H locs cl sl Q (F0 m (pc + 1) ls (.int (f i.toNatClampNeg) :: rest))) : W p l e R s m args below meth c H locs cl sl Q (F0 m pc ls (.int i :: .ref a :: rest)) :=
  va_iald C.1 C.2.1 C.2.2.2.2.2.2.2.2.1.1 hd.1 q0 0 ha rfl hin hdg kk
theorem g_zld (C : Cx p s m args meth c cc nL Ts own nm ret B k A) (hd : Wd B A s.heap ws H locs) (q0 : Nat) {a n : Nat} {f : Nat → Int32} (ha : ws[q0]? = some (a, .inl (k.2.1, n, .inl f))) {i : Int32} (hin : vp_in i n) (hdg : decode cc pc = .ok (.baload, 1))
    (kk : W p l e R s m args below meth c H locs cl sl Q (F0 m (pc + 1) ls (.int (f i.toNatClampNeg) :: rest))) : W p l e R s m args below meth c H locs cl sl Q (F0 m pc ls (.int i :: .ref a :: rest)) :=
  va_zald C.1 C.2.1 C.2.2.2.2.2.2.2.2.1.1 hd.1 q0 1 ha rfl hin hdg kk
theorem g_qld (C : Cx p s m args meth c cc nL Ts own nm ret B k A) (hd : Wd B A s.heap ws H locs) (q0 : Nat) {a n : Nat} {f : Nat → Option Nat} (ha : ws[q0]? = some (a, .inl (k.2.2, n, .inr (.inr (.inr (.inr f)))))) {i : Int32} (hin : vp_in i n) (hdg : decode cc pc = .ok (.aaload, 1))
    (kk : W p l e R s m args below meth c H locs cl sl Q (F0 m (pc + 1) ls (va_rf (f i.toNatClampNeg) :: rest))) : W p l e R s m args below meth c H locs cl sl Q (F0 m pc ls (.int i :: .ref a :: rest)) :=
  va_aldq C.1 C.2.1 C.2.2.2.2.2.2.2.2.1.1 hd.1 q0 2 ha rfl hin hdg kk
theorem g_ist (C : Cx p s m args meth c cc nL Ts own nm ret B k A) (hd : Wd B A s.heap ws H locs) (q0 : Nat) {a n : Nat} {f : Nat → Int32} (ha : ws[q0]? = some (a, .inl (k.1, n, .inl f))) {i x : Int32} (hin : vp_in i n) (ws' : va_W) (hset : ws.set q0 (a, .inl (k.1, n, .inl (upd f i.toNatClampNeg x))) = ws') (hdg : decode cc pc = .ok (.iastore, 1))
    (kk : ∀ (H1 : Heap) (locs1 : List Loc), Wd B A s.heap ws' H1 locs1 → W p l e R s m args below meth c H1 locs1 cl sl Q (F0 m (pc + 1) ls rest)) : W p l e R s m args below meth c H locs cl sl Q (F0 m pc ls (.int x :: .int i :: .ref a :: rest)) := by
  subst hset
  exact va_iast C.1 C.2.1 C.2.2.2.2.2.2.2.2.1.1 hd.1 hd.2.1 hd.2.2 q0 0 ha rfl hin hdg (fun H1 l1 a1 a2 a3 => kk H1 l1 ⟨a1, a2, a3⟩)
theorem g_zst (C : Cx p s m args meth c cc nL Ts own nm ret B k A) (hd : Wd B A s.heap ws H locs) (q0 : Nat) {a n : Nat} {f : Nat → Int32} (ha : ws[q0]? = some (a, .inl (k.2.1, n, .inl f))) {i : Int32} (b : Bool) (hin : vp_in i n) (ws' : va_W) (hset : ws.set q0 (a, .inl (k.2.1, n, .inl (upd f i.toNatClampNeg (bi b)))) = ws') (hdg : decode cc pc = .ok (.bastore, 1))
    (kk : ∀ (H1 : Heap) (locs1 : List Loc), Wd B A s.heap ws' H1 locs1 → W p l e R s m args below meth c H1 locs1 cl sl Q (F0 m (pc + 1) ls rest)) : W p l e R s m args below meth c H locs cl sl Q (F0 m pc ls (.int (bi b) :: .int i :: .ref a :: rest)) := by
  subst hset
  have hn : vp_nar .boolean (bi b) = bi b := by cases b <;> rfl
  exact va_zast C.1 C.2.1 C.2.2.2.2.2.2.2.2.1.1 hd.1 hd.2.1 hd.2.2 q0 1 ha rfl hin hdg (fun H1 l1 a1 a2 a3 => by rw [hn] at a1 a2; exact kk H1 l1 ⟨a1, a2, a3⟩)
theorem set_l {X Y X' : va_W} {i : Nat} {q : Nat × va_E} (hi : i + 1 ≤ X.length) (h : X.set i q = X') : (X ++ Y).set i q = X' ++ Y := by rw [List.set_append_left _ _ hi, h]
theorem g_cpy (C : Cx p s m args meth c cc nL Ts own nm ret B k A) (hd : Wd B A s.heap ws H locs) (hl : lv_has ls nL lv) (q0 q1 t0 : Nat) {a0 a n0 n1 : Nat} {c0 : ClassId} {f g : Nat → Int32} {ty : FieldType} (ha0 : ws[q0]? = some (a0, .inl (c0, n0, .inl f))) (ha1 : ws[q1]? = some (a, .inl (c0, n1, .inl g))) (ht0 : (kTy k)[t0]? = some (c0, ty)) (hprim : refKind ty = false) (hz : (0 : Int32).toNatClampNeg = 0) {n : Int32} {N index : Nat} (hN : n.toNatClampNeg = N) (hn : ¬ n < 0) (hfit : ∀ i, i < N → fits ty (.int (f i)) = true) (hlink : Cond.methodLink own index arraycopyName ∈ Ts) (hnat : Cond.native arraycopyName ∈ Ts) (hstat : Cond.static arraycopyName ∈ Ts) (hini : Cond.initialized "java/lang/System" ∈ Ts) (hframes : 1 ≤ R.frames) (hlocals : (rest.map fun v => v.category).sum + (nativeFrameWords "java/lang/System" "arraycopy" 5 + 11) ≤ R.locals) (ws' : va_W) (hset : ws.set q1 (a, .inl (c0, n1, .inl (va_cpy f g 0 0 N))) = ws') (hdg : decode cc pc = .ok (.invokestatic index, 3)) (h4 : N ≤ n0) (h5 : N ≤ n1)
    (kk : ∀ (H1 : Heap) (locs1 : List Loc), Wd B A s.heap ws' H1 locs1 → W p l e R s m args below meth c H1 locs1 cl sl Q (F0 m (pc + 3) ls rest)) : W p l e R s m args below meth c H locs cl sl Q (F0 m pc ls (.int n :: .int 0 :: .ref a :: .int 0 :: .ref a0 :: rest)) := by
  subst hset
  subst hN
  obtain ⟨hx, hb, hml, ho, hts, -, -, -, hK, -⟩ := C
  refine va_copyi hx hb (hml.trans hl.1.symm) ho (hts _ hlink) (hts _ hnat) (hts _ hstat) (hts _ hini) hK.1 hd.1 hd.2.1 hd.2.2 q0 q1 t0 t0 ha0 ha1 ht0 ht0 hprim (by decide) (by decide) hn (by rw [hz, Nat.zero_add]; exact h4) (by rw [hz, Nat.zero_add]; exact h5) (fun i hi => by rw [hz, Nat.zero_add]; exact hfit i hi) hframes hlocals hdg (fun H1 l1 a1 a2 a3 => ?_)
  rw [hz] at a1 a2
  exact kk H1 l1 ⟨a1, a2, a3⟩
/-! calls: what a call leaves -/
theorem fr_call {wc w1 : va_W} {H1 : Heap} {locs1 : List Loc} (hA : ∀ q, s.heap.size ≤ q → A q) (hd : Wd B A s.heap (wc ++ wr) H locs) (hk : ∀ q : Nat, q < H.size → ¬ va_A wc H.size q → H1[q]? = H[q]?) (hS : va_S A s.heap H1 locs1) (hP1 : va_P B vwCl w1 H1) (hD1 : va_D (va_A wc H.size) w1) : Wd B A s.heap (w1 ++ wr) H1 locs1 := by
  have hF : ∀ q, va_A wc H.size q → A q := by
    intro q h
    rcases h with ⟨j, e, h⟩ | h
    · exact (va_D_nd.mp hd.2.1).2 (q, e) (List.mem_append_left _ (List.mem_of_getElem? h))
    · exact hA q (Nat.le_trans hd.2.2.1 h)
  obtain ⟨a1, a2⟩ := fr_join hd.1 hd.2.1 hk hF hP1 hD1
  exact ⟨a1, a2, hS⟩
theorem fr_A (hA : ∀ q, s.heap.size ≤ q → A q) (hd : Wd B A s.heap (wc ++ wr) H locs) : ∀ q, va_A wc H.size q → A q := by
  intro q h
  rcases h with ⟨j, e, h⟩ | h
  · exact (va_D_nd.mp hd.2.1).2 (q, e) (List.mem_append_left _ (List.mem_of_getElem? h))
  · exact hA q (Nat.le_trans hd.2.2.1 h)
theorem fr_pre {av : List Value} (hK : Kx B k s) (hd : Wd B A s.heap (wc ++ wr) H locs) : ∀ U : State, U.heap = H → s.WarmedH U.vm → pre B k av wc H.size av.toArray U := by
  intro U hU hW
  refine ⟨rfl, by rw [hU], ?_, Kx.warm hW hK, ?_⟩
  · rw [hU]
    exact va_P_mem.mpr fun q hq => va_P_mem.mp hd.1 q (List.mem_append_left _ hq)
  · obtain ⟨h1, -⟩ := va_D_nd.mp hd.2.1
    rw [List.map_append, List.nodup_append] at h1
    exact va_D_nd.mpr ⟨h1.1, fun _ _ => trivial⟩
theorem fr_cwV {y : MethodName} {wds : List Cond} {bytes : ByteArray} {maxL index n mc ms : Nat} {rt : Option FieldType} {rm : Room} (C : Cx p s m args meth c cc nL Ts own nm ret B k A) (M : MI y wds bytes maxL rt n) (G : GoodIn Ts (wsV own index y.cls y wds)) (hrm : rm.cells = mc ∧ rm.slots = ms) (hR : rm.frames + 1 ≤ R.frames ∧ 8 + (maxL + 11) + rm.locals ≤ R.locals) : CallW R s args own y.cls index y bytes maxL rt wds rm mc ms n := by
  obtain ⟨⟨ws', hw⟩, h1, h2, h3, -⟩ := M
  exact cwV n C.2.2.2.2.1 G hw hrm.1 hrm.2 ⟨rfl, h1, h2, h3⟩ hR
theorem fr_recv {y : MethodName} {b q0 ci : Nat} {q : vw_C} {fs : List Value} (C : Cx p s m args meth c cc nL Ts own nm ret B k A) (hd : Wd B A s.heap ws H locs) (hc : vwCl[ci]? = some q) (hq : q.1 = y.cls) (he : ws[q0]? = some (b, .inr (ci, fs))) : ∃ cell : Cell, H[b]? = some cell ∧ cell.vm.isStatics = false ∧ s.vm.findClass y.cls = some cell.cls := by
  rw [← hq]
  exact va_recv C.2.2.2.2.2.2.2.2.1.1 hd.1 hc he
theorem v_i {y : MethodName} {wds : List Cond} {bytes : ByteArray} {maxL index n b : Nat} {rt : Option FieldType} {rm : Room} {As : List Value} {cells : S → va_W} {post : Int32 → S → Prop} (C : Cx p s m args meth c cc nL Ts own nm ret B k A) (hd : Wd B A s.heap ws H locs) (hl : lv_has ls nL lv) (M : MI y wds bytes maxL rt n) (G : GoodIn Ts (wsV own index y.cls y wds)) (hC : Cti l y wds rm 0 0 B k (.ref b :: As) wc cells post) (hrm : rm.cells = 0 ∧ rm.slots = 0) (hR : rm.frames + 1 ≤ R.frames ∧ 8 + (maxL + 11) + rm.locals ≤ R.locals)
    (hpm : ws.Perm (wc ++ wr)) (out : S → va_W) (hout : ∀ u, (cells u ++ wr).Perm (out u)) (q0 ci : Nat) {fs : List Value} {q : vw_C} (he : ws[q0]? = some (b, .inr (ci, fs))) (hc : vwCl[ci]? = some q) (hq : q.1 = y.cls) (hn : As.length = n) (hst : st0 = As.reverse ++ .ref b :: rest) (hrest : (rest.map fun v => v.category).sum ≤ 8) (hdg : decode cc pc = .ok (.invokevirtual index, 3)) (hf : cl ≤ R.cells ∧ sl ≤ R.slots)
    (kk : ∀ (r : Int32) (u : S) (H1 : Heap) (locs1 : List Loc), post r u → Wd B A s.heap (out u) H1 locs1 → W p l e R s m args below meth c H1 locs1 cl sl Q (F0 m (pc + 3) ls (.int r :: rest))) : W p l e R s m args below meth c H locs cl sl Q (F0 m pc ls st0) := by
  subst hst
  have hd' := hd.perm hpm
  have hA := C.2.2.2.2.2.2.2.1
  refine va_calli (va_runV (As := As) (rest := rest) ⟨C.1, C.2.1, C.2.2.1, C.2.2.2.1, C.2.2.2.2.1⟩ (hC H.size) (fr_cwV C M G hrm hR) ⟨pre_blind, fr_recv C hd hc hq he, fr_pre C.2.2.2.2.2.2.2.2.1 hd'⟩ rfl hn hl.1 rfl (lv_room hrest) hdg hf) hd.2.2 (fun q _ h => fr_A hA hd' q h) (fr_A hA hd') (fun r u t H1 locs1 ht hvm hw hB hz1 hk1 hS => ?_)
  obtain ⟨hP1, hD1⟩ := hB
  rw [ht] at hP1
  exact kk r u H1 locs1 hw ((fr_call hA hd' hk1 hS hP1 hD1).perm (hout u))
theorem v_v {y : MethodName} {wds : List Cond} {bytes : ByteArray} {maxL index n b : Nat} {rt : Option FieldType} {rm : Room} {As : List Value} {cells : S → va_W} {post : S → Prop} (C : Cx p s m args meth c cc nL Ts own nm ret B k A) (hd : Wd B A s.heap ws H locs) (hl : lv_has ls nL lv) (M : MI y wds bytes maxL rt n) (G : GoodIn Ts (wsV own index y.cls y wds)) (hC : Ctv l y wds rm 0 0 B k (.ref b :: As) wc cells post) (hrm : rm.cells = 0 ∧ rm.slots = 0) (hR : rm.frames + 1 ≤ R.frames ∧ 8 + (maxL + 11) + rm.locals ≤ R.locals)
    (hpm : ws.Perm (wc ++ wr)) (out : S → va_W) (hout : ∀ u, (cells u ++ wr).Perm (out u)) (q0 ci : Nat) {fs : List Value} {q : vw_C} (he : ws[q0]? = some (b, .inr (ci, fs))) (hc : vwCl[ci]? = some q) (hq : q.1 = y.cls) (hn : As.length = n) (hst : st0 = As.reverse ++ .ref b :: rest) (hrest : (rest.map fun v => v.category).sum ≤ 8) (hdg : decode cc pc = .ok (.invokevirtual index, 3)) (hf : cl ≤ R.cells ∧ sl ≤ R.slots)
    (kk : ∀ (u : S) (H1 : Heap) (locs1 : List Loc), post u → Wd B A s.heap (out u) H1 locs1 → W p l e R s m args below meth c H1 locs1 cl sl Q (F0 m (pc + 3) ls rest)) : W p l e R s m args below meth c H locs cl sl Q (F0 m pc ls st0) := by
  subst hst
  have hd' := hd.perm hpm
  have hA := C.2.2.2.2.2.2.2.1
  refine va_callv (va_runV (As := As) (rest := rest) ⟨C.1, C.2.1, C.2.2.1, C.2.2.2.1, C.2.2.2.2.1⟩ (hC H.size) (fr_cwV C M G hrm hR) ⟨pre_blind, fr_recv C hd hc hq he, fr_pre C.2.2.2.2.2.2.2.2.1 hd'⟩ rfl hn hl.1 rfl (lv_room hrest) hdg hf) hd.2.2 (fun q _ h => fr_A hA hd' q h) (fr_A hA hd') (fun u t H1 locs1 ht hvm hw hB hz1 hk1 hS => ?_)
  obtain ⟨hP1, hD1⟩ := hB
  rw [ht] at hP1
  exact kk u H1 locs1 hw ((fr_call hA hd' hk1 hS hP1 hD1).perm (hout u))
theorem s_i {y : MethodName} {wds : List Cond} {bytes : ByteArray} {maxL index n : Nat} {rt : Option FieldType} {rm : Room} {As : List Value} {cells : S → va_W} {post : Int32 → S → Prop} (C : Cx p s m args meth c cc nL Ts own nm ret B k A) (hd : Wd B A s.heap ws H locs) (hl : lv_has ls nL lv) (M : MI y wds bytes maxL rt n) (G : GoodIn Ts (wsS own index y wds)) (hyo : y.cls = own) (hC : Cti l y wds rm 0 0 B k As wc cells post) (hrm : rm.cells = 0 ∧ rm.slots = 0) (hR : rm.frames + 1 ≤ R.frames ∧ 8 + (maxL + 11) + rm.locals ≤ R.locals)
    (hpm : ws.Perm (wc ++ wr)) (out : S → va_W) (hout : ∀ u, (cells u ++ wr).Perm (out u)) (hn : As.length = n) (hst : st0 = As.reverse ++ rest) (hrest : (rest.map fun v => v.category).sum ≤ 8) (hdg : decode cc pc = .ok (.invokestatic index, 3)) (hf : cl ≤ R.cells ∧ sl ≤ R.slots)
    (kk : ∀ (r : Int32) (u : S) (H1 : Heap) (locs1 : List Loc), post r u → Wd B A s.heap (out u) H1 locs1 → W p l e R s m args below meth c H1 locs1 cl sl Q (F0 m (pc + 3) ls (.int r :: rest))) : W p l e R s m args below meth c H locs cl sl Q (F0 m pc ls st0) := by
  subst hst
  have hd' := hd.perm hpm
  have hA := C.2.2.2.2.2.2.2.1
  obtain ⟨⟨ws', hw⟩, h1, h2, h3, -⟩ := M
  refine va_calli (va_runS (As := As) (rest := rest) ⟨C.1, C.2.1, C.2.2.1, C.2.2.2.1, C.2.2.2.2.1⟩ (hC H.size) (cwS n C.2.2.2.2.1 G hw hrm.1 hrm.2 ⟨hyo, h1, h2, h3⟩ hR) ⟨pre_blind, fr_pre C.2.2.2.2.2.2.2.2.1 hd'⟩ rfl hn hl.1 rfl (lv_room hrest) hdg hf) hd.2.2 (fun q _ h => fr_A hA hd' q h) (fr_A hA hd') (fun r u t H1 locs1 ht hvm hw hB hz1 hk1 hS => ?_)
  obtain ⟨hP1, hD1⟩ := hB
  rw [ht] at hP1
  exact kk r u H1 locs1 hw ((fr_call hA hd' hk1 hS hP1 hD1).perm (hout u))
theorem s_v {y : MethodName} {wds : List Cond} {bytes : ByteArray} {maxL index n : Nat} {rt : Option FieldType} {rm : Room} {As : List Value} {cells : S → va_W} {post : S → Prop} (C : Cx p s m args meth c cc nL Ts own nm ret B k A) (hd : Wd B A s.heap ws H locs) (hl : lv_has ls nL lv) (M : MI y wds bytes maxL rt n) (G : GoodIn Ts (wsS own index y wds)) (hyo : y.cls = own) (hC : Ctv l y wds rm 0 0 B k As wc cells post) (hrm : rm.cells = 0 ∧ rm.slots = 0) (hR : rm.frames + 1 ≤ R.frames ∧ 8 + (maxL + 11) + rm.locals ≤ R.locals)
    (hpm : ws.Perm (wc ++ wr)) (out : S → va_W) (hout : ∀ u, (cells u ++ wr).Perm (out u)) (hn : As.length = n) (hst : st0 = As.reverse ++ rest) (hrest : (rest.map fun v => v.category).sum ≤ 8) (hdg : decode cc pc = .ok (.invokestatic index, 3)) (hf : cl ≤ R.cells ∧ sl ≤ R.slots)
    (kk : ∀ (u : S) (H1 : Heap) (locs1 : List Loc), post u → Wd B A s.heap (out u) H1 locs1 → W p l e R s m args below meth c H1 locs1 cl sl Q (F0 m (pc + 3) ls rest)) : W p l e R s m args below meth c H locs cl sl Q (F0 m pc ls st0) := by
  subst hst
  have hd' := hd.perm hpm
  have hA := C.2.2.2.2.2.2.2.1
  obtain ⟨⟨ws', hw⟩, h1, h2, h3, -⟩ := M
  refine va_callv (va_runS (As := As) (rest := rest) ⟨C.1, C.2.1, C.2.2.1, C.2.2.2.1, C.2.2.2.2.1⟩ (hC H.size) (cwS n C.2.2.2.2.1 G hw hrm.1 hrm.2 ⟨hyo, h1, h2, h3⟩ hR) ⟨pre_blind, fr_pre C.2.2.2.2.2.2.2.2.1 hd'⟩ rfl hn hl.1 rfl (lv_room hrest) hdg hf) hd.2.2 (fun q _ h => fr_A hA hd' q h) (fr_A hA hd') (fun u t H1 locs1 ht hvm hw hB hz1 hk1 hS => ?_)
  obtain ⟨hP1, hD1⟩ := hB
  rw [ht] at hP1
  exact kk u H1 locs1 hw ((fr_call hA hd' hk1 hS hP1 hD1).perm (hout u))
/-- a static method of the outer class, called from the nested one -/
theorem n_i {y : MethodName} {wds : List Cond} {bytes : ByteArray} {maxL index n : Nat} {rt : Option FieldType} {rm : Room} {As : List Value} {host : String} {cells : S → va_W} {post : Int32 → S → Prop} (C : Cx p s m args meth c cc nL Ts own nm ret B k A) (hd : Wd B A s.heap ws H locs) (hl : lv_has ls nL lv) (M : MI y wds bytes maxL rt n) (G : GoodIn Ts wds) (hnw : Cond.methodLinkNest own index y host ∈ nWs) (hst1 : Cond.static y ∈ Ts) (hini : Cond.initialized y.cls ∈ Ts) (hC : Cti l y wds rm 0 0 B k As wc cells post) (hrm : rm.cells = 0 ∧ rm.slots = 0) (hR : rm.frames + 1 ≤ R.frames ∧ 8 + (maxL + 11) + rm.locals ≤ R.locals)
    (hpm : ws.Perm (wc ++ wr)) (out : S → va_W) (hout : ∀ u, (cells u ++ wr).Perm (out u)) (hn : As.length = n) (hst : st0 = As.reverse ++ rest) (hrest : (rest.map fun v => v.category).sum ≤ 8) (hdg : decode cc pc = .ok (.invokestatic index, 3)) (hf : cl ≤ R.cells ∧ sl ≤ R.slots)
    (kk : ∀ (r : Int32) (u : S) (H1 : Heap) (locs1 : List Loc), post r u → Wd B A s.heap (out u) H1 locs1 → W p l e R s m args below meth c H1 locs1 cl sl Q (F0 m (pc + 3) ls (.int r :: rest))) : W p l e R s m args below meth c H locs cl sl Q (F0 m pc ls st0) := by
  subst hst
  have hd' := hd.perm hpm
  have hA := C.2.2.2.2.2.2.2.1
  obtain ⟨⟨ws', hw⟩, h1, h2, h3, -⟩ := M
  refine va_calli (va_runSN (As := As) (rest := rest) ⟨C.1, C.2.1, C.2.2.1, C.2.2.2.1, C.2.2.2.2.1⟩ (hC H.size) ⟨va_cnB n C.2.2.2.2.1 G hw hrm.1 hrm.2 (C.2.2.2.2.2.2.2.2.1.2.1 _ hnw) (C.2.2.2.2.1 _ hini) ⟨h1, h2, h3⟩ hR, C.2.2.2.2.1 _ hst1, trivial⟩ ⟨pre_blind, fr_pre C.2.2.2.2.2.2.2.2.1 hd'⟩ rfl hn hl.1 rfl (lv_room hrest) hdg hf) hd.2.2 (fun q _ h => fr_A hA hd' q h) (fr_A hA hd') (fun r u t H1 locs1 ht hvm hw hB hz1 hk1 hS => ?_)
  obtain ⟨hP1, hD1⟩ := hB
  rw [ht] at hP1
  exact kk r u H1 locs1 hw ((fr_call hA hd' hk1 hS hP1 hD1).perm (hout u))
end LY
