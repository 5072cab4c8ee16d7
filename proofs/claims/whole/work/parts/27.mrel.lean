/-! the reference's state -/
def wh (b : Nat) : Int32 := if b < 64 then nI b else -1
theorem wh_lt {b : Nat} (h : b < 64) : wh b = nI b := if_pos h
theorem wh_ge {b : Nat} (h : 64 ≤ b) : wh b = -1 := if_neg (Nat.not_lt.mpr h)
def RelM (D : DS) (g : Nat → Int32) : Prop := g 0 = nI (d_lim D) ∧ g 1 = nI (d_arm D % 16) ∧ g 2 = nI (d_arm D / 16) ∧ g 3 = d_steps D ∧ g 4 = d_resc D ∧ g 5 = d_loss D ∧ g 6 = d_reads D ∧ g 7 = d_writes D ∧ (∀ s, s < 4 → g (8 + s) = nI (d_age D s)) ∧ (∀ s, s < 4 → g (12 + s) = nI (d_sp D s)) ∧ (∀ s, s < 4 → g (16 + s) = bi (d_giv D s)) ∧ (∀ s, s < 64 → g (20 + s) = nI (d_wear D s)) ∧ (∀ s, s < 64 → g (84 + s) = nI (d_val D s)) ∧ (∀ s, s < 64 → g (148 + s) = wh (d_bY D s)) ∧ (∀ s, s < 64 → g (212 + s) = d_rof D s)
theorem RelM.lim {D : DS} {g : Nat → Int32} (R : RelM D g) : g 0 = nI (d_lim D) := R.1
theorem RelM.a1 {D : DS} {g : Nat → Int32} (R : RelM D g) : g 1 = nI (d_arm D % 16) := R.2.1
theorem RelM.a2 {D : DS} {g : Nat → Int32} (R : RelM D g) : g 2 = nI (d_arm D / 16) := R.2.2.1
theorem RelM.steps {D : DS} {g : Nat → Int32} (R : RelM D g) : g 3 = d_steps D := R.2.2.2.1
theorem RelM.resc {D : DS} {g : Nat → Int32} (R : RelM D g) : g 4 = d_resc D := R.2.2.2.2.1
theorem RelM.loss {D : DS} {g : Nat → Int32} (R : RelM D g) : g 5 = d_loss D := R.2.2.2.2.2.1
theorem RelM.reads {D : DS} {g : Nat → Int32} (R : RelM D g) : g 6 = d_reads D := R.2.2.2.2.2.2.1
theorem RelM.writes {D : DS} {g : Nat → Int32} (R : RelM D g) : g 7 = d_writes D := R.2.2.2.2.2.2.2.1
theorem RelM.age {D : DS} {g : Nat → Int32} (R : RelM D g) : (∀ s, s < 4 → g (8 + s) = nI (d_age D s)) := R.2.2.2.2.2.2.2.2.1
theorem RelM.sp {D : DS} {g : Nat → Int32} (R : RelM D g) : (∀ s, s < 4 → g (12 + s) = nI (d_sp D s)) := R.2.2.2.2.2.2.2.2.2.1
theorem RelM.giv {D : DS} {g : Nat → Int32} (R : RelM D g) : (∀ s, s < 4 → g (16 + s) = bi (d_giv D s)) := R.2.2.2.2.2.2.2.2.2.2.1
theorem RelM.wear {D : DS} {g : Nat → Int32} (R : RelM D g) : (∀ s, s < 64 → g (20 + s) = nI (d_wear D s)) := R.2.2.2.2.2.2.2.2.2.2.2.1
theorem RelM.val {D : DS} {g : Nat → Int32} (R : RelM D g) : (∀ s, s < 64 → g (84 + s) = nI (d_val D s)) := R.2.2.2.2.2.2.2.2.2.2.2.2.1
theorem RelM.bY {D : DS} {g : Nat → Int32} (R : RelM D g) : (∀ s, s < 64 → g (148 + s) = wh (d_bY D s)) := R.2.2.2.2.2.2.2.2.2.2.2.2.2.1
theorem RelM.rof {D : DS} {g : Nat → Int32} (R : RelM D g) : (∀ s, s < 64 → g (212 + s) = d_rof D s) := R.2.2.2.2.2.2.2.2.2.2.2.2.2.2
theorem i8 (a : Nat) : (8 : Int32) + nI a = nI (8 + a) := nI_add 8 a
theorem cl8 {a : Nat} (h : a < 4) : ((8 : Int32) + nI a).toNatClampNeg = 8 + a := by rw [i8]; exact nI_clamp (by omega)
theorem in8 {a : Nat} (h : a < 4) : vp_in ((8 : Int32) + nI a) 276 := by rw [i8]; exact pk_in (8 + a) 276 (by omega)
theorem i12 (a : Nat) : (12 : Int32) + nI a = nI (12 + a) := nI_add 12 a
theorem cl12 {a : Nat} (h : a < 4) : ((12 : Int32) + nI a).toNatClampNeg = 12 + a := by rw [i12]; exact nI_clamp (by omega)
theorem in12 {a : Nat} (h : a < 4) : vp_in ((12 : Int32) + nI a) 276 := by rw [i12]; exact pk_in (12 + a) 276 (by omega)
theorem i16 (a : Nat) : (16 : Int32) + nI a = nI (16 + a) := nI_add 16 a
theorem cl16 {a : Nat} (h : a < 4) : ((16 : Int32) + nI a).toNatClampNeg = 16 + a := by rw [i16]; exact nI_clamp (by omega)
theorem in16 {a : Nat} (h : a < 4) : vp_in ((16 : Int32) + nI a) 276 := by rw [i16]; exact pk_in (16 + a) 276 (by omega)
theorem i20 (a : Nat) : (20 : Int32) + nI a = nI (20 + a) := nI_add 20 a
theorem cl20 {a : Nat} (h : a < 64) : ((20 : Int32) + nI a).toNatClampNeg = 20 + a := by rw [i20]; exact nI_clamp (by omega)
theorem in20 {a : Nat} (h : a < 64) : vp_in ((20 : Int32) + nI a) 276 := by rw [i20]; exact pk_in (20 + a) 276 (by omega)
theorem i84 (a : Nat) : (84 : Int32) + nI a = nI (84 + a) := nI_add 84 a
theorem cl84 {a : Nat} (h : a < 64) : ((84 : Int32) + nI a).toNatClampNeg = 84 + a := by rw [i84]; exact nI_clamp (by omega)
theorem in84 {a : Nat} (h : a < 64) : vp_in ((84 : Int32) + nI a) 276 := by rw [i84]; exact pk_in (84 + a) 276 (by omega)
theorem i148 (a : Nat) : (148 : Int32) + nI a = nI (148 + a) := nI_add 148 a
theorem cl148 {a : Nat} (h : a < 64) : ((148 : Int32) + nI a).toNatClampNeg = 148 + a := by rw [i148]; exact nI_clamp (by omega)
theorem in148 {a : Nat} (h : a < 64) : vp_in ((148 : Int32) + nI a) 276 := by rw [i148]; exact pk_in (148 + a) 276 (by omega)
theorem i212 (a : Nat) : (212 : Int32) + nI a = nI (212 + a) := nI_add 212 a
theorem cl212 {a : Nat} (h : a < 64) : ((212 : Int32) + nI a).toNatClampNeg = 212 + a := by rw [i212]; exact nI_clamp (by omega)
theorem in212 {a : Nat} (h : a < 64) : vp_in ((212 : Int32) + nI a) 276 := by rw [i212]; exact pk_in (212 + a) 276 (by omega)
theorem c_0 : (0 : Int32).toNatClampNeg = 0 := by decide
theorem in_0 : vp_in (0 : Int32) 276 := pk_in 0 276 (by omega)
theorem c_1 : (1 : Int32).toNatClampNeg = 1 := by decide
theorem in_1 : vp_in (1 : Int32) 276 := pk_in 1 276 (by omega)
theorem c_2 : (2 : Int32).toNatClampNeg = 2 := by decide
theorem in_2 : vp_in (2 : Int32) 276 := pk_in 2 276 (by omega)
theorem c_3 : (3 : Int32).toNatClampNeg = 3 := by decide
theorem in_3 : vp_in (3 : Int32) 276 := pk_in 3 276 (by omega)
theorem c_4 : (4 : Int32).toNatClampNeg = 4 := by decide
theorem in_4 : vp_in (4 : Int32) 276 := pk_in 4 276 (by omega)
theorem c_5 : (5 : Int32).toNatClampNeg = 5 := by decide
theorem in_5 : vp_in (5 : Int32) 276 := pk_in 5 276 (by omega)
theorem c_6 : (6 : Int32).toNatClampNeg = 6 := by decide
theorem in_6 : vp_in (6 : Int32) 276 := pk_in 6 276 (by omega)
theorem c_7 : (7 : Int32).toNatClampNeg = 7 := by decide
theorem in_7 : vp_in (7 : Int32) 276 := pk_in 7 276 (by omega)
theorem c_16 : (16 : Int32).toNatClampNeg = 16 := by decide
theorem in_16 : vp_in (16 : Int32) 276 := pk_in 16 276 (by omega)
theorem c_17 : (17 : Int32).toNatClampNeg = 17 := by decide
theorem in_17 : vp_in (17 : Int32) 276 := pk_in 17 276 (by omega)
theorem c_18 : (18 : Int32).toNatClampNeg = 18 := by decide
theorem in_18 : vp_in (18 : Int32) 276 := pk_in 18 276 (by omega)
theorem c_19 : (19 : Int32).toNatClampNeg = 19 := by decide
theorem in_19 : vp_in (19 : Int32) 276 := pk_in 19 276 (by omega)
theorem mU_at {α : Type} {f : α → Int32} {q : Nat → α} {g : Nat → Int32} {i N k : Nat} {v : α} (h : ∀ s, s < N → g (i + s) = f (q s)) {s : Nat} (hs : s < N) : upd g (i + k) (f v) (i + s) = f (va_up q k v s) := by
  by_cases c : s = k
  · rw [c, upd_eq, up_eq]
  · rw [upd_ne _ _ (by omega), up_ne _ _ c, h s hs]
section MR
variable {D : DS} {g : Nat → Int32}
theorem mU_lim (R : RelM D g) {v : Nat} : RelM (d_setLim D v) (upd g 0 (nI v)) := ⟨upd_eq _ _ _, (upd_ne _ _ (by omega)).trans (R.a1), (upd_ne _ _ (by omega)).trans (R.a2), (upd_ne _ _ (by omega)).trans (R.steps), (upd_ne _ _ (by omega)).trans (R.resc), (upd_ne _ _ (by omega)).trans (R.loss), (upd_ne _ _ (by omega)).trans (R.reads), (upd_ne _ _ (by omega)).trans (R.writes), fun s hs => (upd_ne _ _ (by omega)).trans (R.age s hs), fun s hs => (upd_ne _ _ (by omega)).trans (R.sp s hs), fun s hs => (upd_ne _ _ (by omega)).trans (R.giv s hs), fun s hs => (upd_ne _ _ (by omega)).trans (R.wear s hs), fun s hs => (upd_ne _ _ (by omega)).trans (R.val s hs), fun s hs => (upd_ne _ _ (by omega)).trans (R.bY s hs), fun s hs => (upd_ne _ _ (by omega)).trans (R.rof s hs)⟩
theorem mU_arm (R : RelM D g) {v : Nat} : RelM (d_setArm D v) (upd (upd g 1 (nI (v % 16))) 2 (nI (v / 16))) := ⟨(upd_ne _ _ (by omega)).trans ((upd_ne _ _ (by omega)).trans (R.lim)), (upd_ne _ _ (by omega)).trans (upd_eq _ _ _), upd_eq _ _ _, (upd_ne _ _ (by omega)).trans ((upd_ne _ _ (by omega)).trans (R.steps)), (upd_ne _ _ (by omega)).trans ((upd_ne _ _ (by omega)).trans (R.resc)), (upd_ne _ _ (by omega)).trans ((upd_ne _ _ (by omega)).trans (R.loss)), (upd_ne _ _ (by omega)).trans ((upd_ne _ _ (by omega)).trans (R.reads)), (upd_ne _ _ (by omega)).trans ((upd_ne _ _ (by omega)).trans (R.writes)), fun s hs => (upd_ne _ _ (by omega)).trans ((upd_ne _ _ (by omega)).trans (R.age s hs)), fun s hs => (upd_ne _ _ (by omega)).trans ((upd_ne _ _ (by omega)).trans (R.sp s hs)), fun s hs => (upd_ne _ _ (by omega)).trans ((upd_ne _ _ (by omega)).trans (R.giv s hs)), fun s hs => (upd_ne _ _ (by omega)).trans ((upd_ne _ _ (by omega)).trans (R.wear s hs)), fun s hs => (upd_ne _ _ (by omega)).trans ((upd_ne _ _ (by omega)).trans (R.val s hs)), fun s hs => (upd_ne _ _ (by omega)).trans ((upd_ne _ _ (by omega)).trans (R.bY s hs)), fun s hs => (upd_ne _ _ (by omega)).trans ((upd_ne _ _ (by omega)).trans (R.rof s hs))⟩
theorem mU_steps (R : RelM D g) {v : Int32} : RelM (d_setSteps D v) (upd g 3 v) := ⟨(upd_ne _ _ (by omega)).trans (R.lim), (upd_ne _ _ (by omega)).trans (R.a1), (upd_ne _ _ (by omega)).trans (R.a2), upd_eq _ _ _, (upd_ne _ _ (by omega)).trans (R.resc), (upd_ne _ _ (by omega)).trans (R.loss), (upd_ne _ _ (by omega)).trans (R.reads), (upd_ne _ _ (by omega)).trans (R.writes), fun s hs => (upd_ne _ _ (by omega)).trans (R.age s hs), fun s hs => (upd_ne _ _ (by omega)).trans (R.sp s hs), fun s hs => (upd_ne _ _ (by omega)).trans (R.giv s hs), fun s hs => (upd_ne _ _ (by omega)).trans (R.wear s hs), fun s hs => (upd_ne _ _ (by omega)).trans (R.val s hs), fun s hs => (upd_ne _ _ (by omega)).trans (R.bY s hs), fun s hs => (upd_ne _ _ (by omega)).trans (R.rof s hs)⟩
theorem mU_resc (R : RelM D g) {v : Int32} : RelM (d_setResc D v) (upd g 4 v) := ⟨(upd_ne _ _ (by omega)).trans (R.lim), (upd_ne _ _ (by omega)).trans (R.a1), (upd_ne _ _ (by omega)).trans (R.a2), (upd_ne _ _ (by omega)).trans (R.steps), upd_eq _ _ _, (upd_ne _ _ (by omega)).trans (R.loss), (upd_ne _ _ (by omega)).trans (R.reads), (upd_ne _ _ (by omega)).trans (R.writes), fun s hs => (upd_ne _ _ (by omega)).trans (R.age s hs), fun s hs => (upd_ne _ _ (by omega)).trans (R.sp s hs), fun s hs => (upd_ne _ _ (by omega)).trans (R.giv s hs), fun s hs => (upd_ne _ _ (by omega)).trans (R.wear s hs), fun s hs => (upd_ne _ _ (by omega)).trans (R.val s hs), fun s hs => (upd_ne _ _ (by omega)).trans (R.bY s hs), fun s hs => (upd_ne _ _ (by omega)).trans (R.rof s hs)⟩
theorem mU_loss (R : RelM D g) {v : Int32} : RelM (d_setLoss D v) (upd g 5 v) := ⟨(upd_ne _ _ (by omega)).trans (R.lim), (upd_ne _ _ (by omega)).trans (R.a1), (upd_ne _ _ (by omega)).trans (R.a2), (upd_ne _ _ (by omega)).trans (R.steps), (upd_ne _ _ (by omega)).trans (R.resc), upd_eq _ _ _, (upd_ne _ _ (by omega)).trans (R.reads), (upd_ne _ _ (by omega)).trans (R.writes), fun s hs => (upd_ne _ _ (by omega)).trans (R.age s hs), fun s hs => (upd_ne _ _ (by omega)).trans (R.sp s hs), fun s hs => (upd_ne _ _ (by omega)).trans (R.giv s hs), fun s hs => (upd_ne _ _ (by omega)).trans (R.wear s hs), fun s hs => (upd_ne _ _ (by omega)).trans (R.val s hs), fun s hs => (upd_ne _ _ (by omega)).trans (R.bY s hs), fun s hs => (upd_ne _ _ (by omega)).trans (R.rof s hs)⟩
theorem mU_reads (R : RelM D g) {v : Int32} : RelM (d_setReads D v) (upd g 6 v) := ⟨(upd_ne _ _ (by omega)).trans (R.lim), (upd_ne _ _ (by omega)).trans (R.a1), (upd_ne _ _ (by omega)).trans (R.a2), (upd_ne _ _ (by omega)).trans (R.steps), (upd_ne _ _ (by omega)).trans (R.resc), (upd_ne _ _ (by omega)).trans (R.loss), upd_eq _ _ _, (upd_ne _ _ (by omega)).trans (R.writes), fun s hs => (upd_ne _ _ (by omega)).trans (R.age s hs), fun s hs => (upd_ne _ _ (by omega)).trans (R.sp s hs), fun s hs => (upd_ne _ _ (by omega)).trans (R.giv s hs), fun s hs => (upd_ne _ _ (by omega)).trans (R.wear s hs), fun s hs => (upd_ne _ _ (by omega)).trans (R.val s hs), fun s hs => (upd_ne _ _ (by omega)).trans (R.bY s hs), fun s hs => (upd_ne _ _ (by omega)).trans (R.rof s hs)⟩
theorem mU_writes (R : RelM D g) {v : Int32} : RelM (d_setWrites D v) (upd g 7 v) := ⟨(upd_ne _ _ (by omega)).trans (R.lim), (upd_ne _ _ (by omega)).trans (R.a1), (upd_ne _ _ (by omega)).trans (R.a2), (upd_ne _ _ (by omega)).trans (R.steps), (upd_ne _ _ (by omega)).trans (R.resc), (upd_ne _ _ (by omega)).trans (R.loss), (upd_ne _ _ (by omega)).trans (R.reads), upd_eq _ _ _, fun s hs => (upd_ne _ _ (by omega)).trans (R.age s hs), fun s hs => (upd_ne _ _ (by omega)).trans (R.sp s hs), fun s hs => (upd_ne _ _ (by omega)).trans (R.giv s hs), fun s hs => (upd_ne _ _ (by omega)).trans (R.wear s hs), fun s hs => (upd_ne _ _ (by omega)).trans (R.val s hs), fun s hs => (upd_ne _ _ (by omega)).trans (R.bY s hs), fun s hs => (upd_ne _ _ (by omega)).trans (R.rof s hs)⟩
theorem mU_age (R : RelM D g) {k : Nat} (hk : k < 4) {v : Nat} : RelM (d_setAge D (va_up (d_age D) k v)) (upd g (8 + k) (nI v)) := ⟨(upd_ne _ _ (by omega)).trans (R.lim), (upd_ne _ _ (by omega)).trans (R.a1), (upd_ne _ _ (by omega)).trans (R.a2), (upd_ne _ _ (by omega)).trans (R.steps), (upd_ne _ _ (by omega)).trans (R.resc), (upd_ne _ _ (by omega)).trans (R.loss), (upd_ne _ _ (by omega)).trans (R.reads), (upd_ne _ _ (by omega)).trans (R.writes), fun s hs => mU_at (f := fun y => nI y) R.age hs, fun s hs => (upd_ne _ _ (by omega)).trans (R.sp s hs), fun s hs => (upd_ne _ _ (by omega)).trans (R.giv s hs), fun s hs => (upd_ne _ _ (by omega)).trans (R.wear s hs), fun s hs => (upd_ne _ _ (by omega)).trans (R.val s hs), fun s hs => (upd_ne _ _ (by omega)).trans (R.bY s hs), fun s hs => (upd_ne _ _ (by omega)).trans (R.rof s hs)⟩
theorem mU_sp (R : RelM D g) {k : Nat} (hk : k < 4) {v : Nat} : RelM (d_setSp D (va_up (d_sp D) k v)) (upd g (12 + k) (nI v)) := ⟨(upd_ne _ _ (by omega)).trans (R.lim), (upd_ne _ _ (by omega)).trans (R.a1), (upd_ne _ _ (by omega)).trans (R.a2), (upd_ne _ _ (by omega)).trans (R.steps), (upd_ne _ _ (by omega)).trans (R.resc), (upd_ne _ _ (by omega)).trans (R.loss), (upd_ne _ _ (by omega)).trans (R.reads), (upd_ne _ _ (by omega)).trans (R.writes), fun s hs => (upd_ne _ _ (by omega)).trans (R.age s hs), fun s hs => mU_at (f := fun y => nI y) R.sp hs, fun s hs => (upd_ne _ _ (by omega)).trans (R.giv s hs), fun s hs => (upd_ne _ _ (by omega)).trans (R.wear s hs), fun s hs => (upd_ne _ _ (by omega)).trans (R.val s hs), fun s hs => (upd_ne _ _ (by omega)).trans (R.bY s hs), fun s hs => (upd_ne _ _ (by omega)).trans (R.rof s hs)⟩
theorem mU_giv (R : RelM D g) {k : Nat} (hk : k < 4) {v : Bool} : RelM (d_setGiv D (va_up (d_giv D) k v)) (upd g (16 + k) (bi v)) := ⟨(upd_ne _ _ (by omega)).trans (R.lim), (upd_ne _ _ (by omega)).trans (R.a1), (upd_ne _ _ (by omega)).trans (R.a2), (upd_ne _ _ (by omega)).trans (R.steps), (upd_ne _ _ (by omega)).trans (R.resc), (upd_ne _ _ (by omega)).trans (R.loss), (upd_ne _ _ (by omega)).trans (R.reads), (upd_ne _ _ (by omega)).trans (R.writes), fun s hs => (upd_ne _ _ (by omega)).trans (R.age s hs), fun s hs => (upd_ne _ _ (by omega)).trans (R.sp s hs), fun s hs => mU_at (f := fun y => bi y) R.giv hs, fun s hs => (upd_ne _ _ (by omega)).trans (R.wear s hs), fun s hs => (upd_ne _ _ (by omega)).trans (R.val s hs), fun s hs => (upd_ne _ _ (by omega)).trans (R.bY s hs), fun s hs => (upd_ne _ _ (by omega)).trans (R.rof s hs)⟩
theorem mU_wear (R : RelM D g) {k : Nat} (hk : k < 64) {v : Nat} : RelM (d_setWear D (va_up (d_wear D) k v)) (upd g (20 + k) (nI v)) := ⟨(upd_ne _ _ (by omega)).trans (R.lim), (upd_ne _ _ (by omega)).trans (R.a1), (upd_ne _ _ (by omega)).trans (R.a2), (upd_ne _ _ (by omega)).trans (R.steps), (upd_ne _ _ (by omega)).trans (R.resc), (upd_ne _ _ (by omega)).trans (R.loss), (upd_ne _ _ (by omega)).trans (R.reads), (upd_ne _ _ (by omega)).trans (R.writes), fun s hs => (upd_ne _ _ (by omega)).trans (R.age s hs), fun s hs => (upd_ne _ _ (by omega)).trans (R.sp s hs), fun s hs => (upd_ne _ _ (by omega)).trans (R.giv s hs), fun s hs => mU_at (f := fun y => nI y) R.wear hs, fun s hs => (upd_ne _ _ (by omega)).trans (R.val s hs), fun s hs => (upd_ne _ _ (by omega)).trans (R.bY s hs), fun s hs => (upd_ne _ _ (by omega)).trans (R.rof s hs)⟩
theorem mU_val (R : RelM D g) {k : Nat} (hk : k < 64) {v : Nat} : RelM (d_setVal D (va_up (d_val D) k v)) (upd g (84 + k) (nI v)) := ⟨(upd_ne _ _ (by omega)).trans (R.lim), (upd_ne _ _ (by omega)).trans (R.a1), (upd_ne _ _ (by omega)).trans (R.a2), (upd_ne _ _ (by omega)).trans (R.steps), (upd_ne _ _ (by omega)).trans (R.resc), (upd_ne _ _ (by omega)).trans (R.loss), (upd_ne _ _ (by omega)).trans (R.reads), (upd_ne _ _ (by omega)).trans (R.writes), fun s hs => (upd_ne _ _ (by omega)).trans (R.age s hs), fun s hs => (upd_ne _ _ (by omega)).trans (R.sp s hs), fun s hs => (upd_ne _ _ (by omega)).trans (R.giv s hs), fun s hs => (upd_ne _ _ (by omega)).trans (R.wear s hs), fun s hs => mU_at (f := fun y => nI y) R.val hs, fun s hs => (upd_ne _ _ (by omega)).trans (R.bY s hs), fun s hs => (upd_ne _ _ (by omega)).trans (R.rof s hs)⟩
theorem mU_bY (R : RelM D g) {k : Nat} (hk : k < 64) {v : Nat} : RelM (d_setBY D (va_up (d_bY D) k v)) (upd g (148 + k) (wh v)) := ⟨(upd_ne _ _ (by omega)).trans (R.lim), (upd_ne _ _ (by omega)).trans (R.a1), (upd_ne _ _ (by omega)).trans (R.a2), (upd_ne _ _ (by omega)).trans (R.steps), (upd_ne _ _ (by omega)).trans (R.resc), (upd_ne _ _ (by omega)).trans (R.loss), (upd_ne _ _ (by omega)).trans (R.reads), (upd_ne _ _ (by omega)).trans (R.writes), fun s hs => (upd_ne _ _ (by omega)).trans (R.age s hs), fun s hs => (upd_ne _ _ (by omega)).trans (R.sp s hs), fun s hs => (upd_ne _ _ (by omega)).trans (R.giv s hs), fun s hs => (upd_ne _ _ (by omega)).trans (R.wear s hs), fun s hs => (upd_ne _ _ (by omega)).trans (R.val s hs), fun s hs => mU_at (f := fun y => wh y) R.bY hs, fun s hs => (upd_ne _ _ (by omega)).trans (R.rof s hs)⟩
theorem mU_rof (R : RelM D g) {k : Nat} (hk : k < 64) {v : Int32} : RelM (d_setRof D (va_up (d_rof D) k v)) (upd g (212 + k) (v)) := ⟨(upd_ne _ _ (by omega)).trans (R.lim), (upd_ne _ _ (by omega)).trans (R.a1), (upd_ne _ _ (by omega)).trans (R.a2), (upd_ne _ _ (by omega)).trans (R.steps), (upd_ne _ _ (by omega)).trans (R.resc), (upd_ne _ _ (by omega)).trans (R.loss), (upd_ne _ _ (by omega)).trans (R.reads), (upd_ne _ _ (by omega)).trans (R.writes), fun s hs => (upd_ne _ _ (by omega)).trans (R.age s hs), fun s hs => (upd_ne _ _ (by omega)).trans (R.sp s hs), fun s hs => (upd_ne _ _ (by omega)).trans (R.giv s hs), fun s hs => (upd_ne _ _ (by omega)).trans (R.wear s hs), fun s hs => (upd_ne _ _ (by omega)).trans (R.val s hs), fun s hs => (upd_ne _ _ (by omega)).trans (R.bY s hs), fun s hs => mU_at (f := fun y => y) R.rof hs⟩
end MR
theorem set_set (μ : MO) (f g : Nat → Int32) : mo_setNow (mo_setNow μ f) g = mo_setNow μ g := rfl
theorem now_set (μ : MO) (f : Nat → Int32) : mo_now (mo_setNow μ f) = f := rfl
theorem set_now (μ : MO) : mo_setNow μ (mo_now μ) = μ := rfl
theorem wh_pos {b : Nat} : 0 ≤ wh b ↔ b < 64 := by
  unfold wh
  by_cases c : b < 64
  · rw [if_pos c]; exact ⟨fun _ => c, fun _ => nI_pos' (by omega)⟩
  · rw [if_neg c]; exact ⟨fun h => absurd h (by decide), fun h => absurd h c⟩
theorem wh_inj {a b : Nat} (ha : a < 64) (h : wh b = nI a) : b = a := by
  unfold wh at h
  by_cases c : b < 64
  · rw [if_pos c] at h; exact nI_inj (by omega) (by omega) h
  · rw [if_neg c] at h
    have h2 := congrArg Int32.toInt h
    rw [nI_toInt (by omega)] at h2
    have : (-1 : Int32).toInt = -1 := by decide
    omega
section KM
variable {D : DS} {μ : MO}
theorem kM_in {lo hi : Nat} (h1 : lo < 2 ^ 31) (h2 : hi < 2 ^ 31) {x : Int32} {post : Bool → Prop} (h : post (decide ((lo : Int) ≤ x.toInt ∧ x.toInt ≤ hi))) : wpX4_in x (nI lo) (nI hi) post := by
  unfold wpX4_in
  refine ⟨fun c => ?_, fun c => ⟨fun c2 => ?_, fun c2 => ?_⟩⟩
  · rw [Int32.lt_iff_toInt_lt, nI_toInt h1] at c
    rw [decide_eq_false (by omega)] at h; exact h
  · rw [Int32.lt_iff_toInt_lt, nI_toInt h2] at c2
    rw [decide_eq_false (by omega)] at h; exact h
  · rw [Int32.lt_iff_toInt_lt, nI_toInt h1] at c
    rw [Int32.lt_iff_toInt_lt, nI_toInt h2] at c2
    rw [decide_eq_true (by omega)] at h; exact h
theorem kM_isSpare (R : RelM D (mo_now μ)) (B : Bw D) {s : Nat} (hs : s < 64) {post : Bool → Prop} (h : post (isSp (d_sp D) s)) : wpX4_isSpare μ (nI s) post := by
  have h1 := B.sp (s / 16) (by omega)
  unfold wpX4_isSpare
  rw [nI_pm (by omega), nI_pd (by omega), cl12 (by omega), R.sp _ (by omega)]
  refine ⟨in12 (by omega), ?_⟩
  rw [show (16 : Int32) - nI (d_sp D (s / 16)) = nI (16 - d_sp D (s / 16)) from pk_sub (a := 16) (by omega)]
  refine pk_lt (s % 16) (16 - d_sp D (s / 16)) (fun q => ?_) (fun q => ?_)
  · have z : isSp (d_sp D) s = false := by unfold isSp; exact decide_eq_false (by omega)
    rw [z] at h; exact h
  · have z : isSp (d_sp D) s = true := by unfold isSp; exact decide_eq_true (by omega)
    rw [z] at h; exact h
theorem kM_isAddress (R : RelM D (mo_now μ)) (B : Bw D) {x : Int32} {post : Bool → Prop} (h : post (isAd (d_sp D) (adr x))) : wpX4_isAddress μ x post := by
  unfold wpX4_isAddress
  refine kM_in (lo := 0) (hi := 63) (by omega) (by omega) ?_
  rcases adr_cases x with ⟨k, hk, rfl, e⟩ | ⟨e, q⟩
  · rw [e] at h
    rw [nI_toInt (by omega), decide_eq_true (by omega)]
    refine ⟨fun _ => kM_isSpare R B hk ⟨fun z => ?_, fun z => ?_⟩, fun z => (by cases z)⟩
    · have w : isAd (d_sp D) k = false := by unfold isAd; rw [z, Bool.not_true, Bool.and_false]
      rw [w] at h; exact h
    · rw [isAd_of hk z] at h; exact h
  · rw [e, isAd_64 (Nat.le_refl _)] at h
    have w : ¬ (((0 : Nat) : Int) ≤ x.toInt ∧ x.toInt ≤ ((63 : Nat) : Int)) := by
      rcases q with q | q
      · rw [i32_0] at q; omega
      · rw [Int32.le_iff_toInt_le, nI_toInt (by omega)] at q; omega
    rw [decide_eq_false w]
    exact ⟨fun z => (by cases z), fun _ => h⟩
theorem kM_isAdN (R : RelM D (mo_now μ)) (B : Bw D) {k : Nat} (hk : k < 2 ^ 31) {post : Bool → Prop} (h : post (isAd (d_sp D) k)) : wpX4_isAddress μ (nI k) post := by
  refine kM_isAddress R B ?_
  rw [adr_nI hk]
  by_cases c : k < 64
  · rw [if_pos c]; exact h
  · rw [if_neg c, isAd_64 (Nat.le_refl _), ← isAd_64 (sp := d_sp D) (Nat.not_lt.mp c)]; exact h
theorem kM_lostN (R : RelM D (mo_now μ)) {a : Nat} (ha : a < 64) {post : Bool → Prop} (h1 : 64 ≤ d_bY D a → post true) (h2 : d_bY D a < 64 → post false) : wpX4_isLost μ (nI a) post := by
  unfold wpX4_isLost
  refine ⟨in148 ha, ?_⟩
  rw [cl148 ha, R.bY a ha]
  exact ⟨fun q => h2 (wh_pos.mp q), fun q => h1 (Nat.not_lt.mp (fun z => q (wh_pos.mpr z)))⟩
theorem kM_state (R : RelM D (mo_now μ)) (B : Bw D) {s : Nat} (hs : s < 64) {post : Int32 → Prop} (h : post (nI (gradeN D s))) : wpX4_state μ (nI s) post := by
  have h1 := B.lim
  have h2 := B.wear s hs
  unfold wpX4_state
  unfold gradeN at h
  refine ⟨in20 hs, in_0, ?_⟩
  rw [cl20 hs, c_0, R.lim, R.wear s hs, nI_2m]
  refine pk_le (d_lim D) (d_wear D s) (fun q => pk_le (2 * d_lim D) (d_wear D s) (fun z => ?_) (fun z => ?_)) (fun q => ?_)
  · rw [if_neg (by omega), if_neg (by omega)] at h; exact h
  · rw [if_neg (by omega), if_pos (by omega)] at h; exact h
  · rw [if_pos (by omega)] at h; exact h
theorem kM_serves (R : RelM D (mo_now μ)) (B : Bw D) {s : Nat} (hs : s < 64) {post : Int32 → Prop} (hp : post (co (cli (d_sp D) (d_bY D) s))) : wpX4_serves μ (nI s) post := by
  have L : ∀ (m p : Nat), p + m = 64 → post (co (fnd (fun a => isAd (d_sp D) a && decide (d_bY D a = s)) m p)) → wpX4_serves_L2 μ (nI s) post (m + 1) (nI p) := by
    intro m
    induction m with
    | zero =>
      intro p e hp
      rw [wpX4_serves_L2]
      exact pk_le 64 p (fun _ => hp) (fun q => absurd q (by omega))
    | succ m ih =>
      intro p e hp
      rw [wpX4_serves_L2]
      refine pk_le 64 p (fun q => absurd q (by omega)) (fun _ => ?_)
      unfold fnd at hp
      refine kM_isAdN R B (by omega) ⟨fun q => ⟨in148 (by omega), ?_⟩, fun q => ?_⟩
      · rw [cl148 (by omega), R.bY p (by omega), nI_1]
        refine ⟨fun z => ?_, fun z => ?_⟩
        · rw [if_pos (by rw [q, decide_eq_true (wh_inj hs z)]; rfl)] at hp; exact hp
        · rw [if_neg (by rw [q, decide_eq_false (fun w => z (by rw [w, wh_lt hs]))]; simp)] at hp
          exact ih (p + 1) (by omega) hp
      · rw [if_neg (by rw [q]; simp)] at hp
        rw [nI_1]; exact ih (p + 1) (by omega) hp
  unfold wpX4_serves
  exact ⟨65, L 64 0 rfl hp⟩
theorem kM_isFree (R : RelM D (mo_now μ)) (B : Bw D) {s : Nat} (hs : s < 64) {post : Bool → Prop} (h : post (fr D s)) : wpX4_isFree μ (nI s) post := by
  have no : ∀ P : Prop, (fr D s = true → ¬ P) → P → post false := fun P z p => by
    cases g : fr D s with
    | false => rw [g] at h; exact h
    | true => exact absurd p (z g)
  unfold wpX4_isFree
  refine kM_isSpare R B hs ⟨fun q => ?_, fun q => ?_⟩
  · rw [nI_pd (by omega)]
    refine ⟨in16 (by omega), ?_⟩
    rw [cl16 (by omega), R.giv _ (by omega)]
    refine ⟨fun w => kM_state R B hs ?_, fun w => no _ (fun g => (by rw [(bi_eq _).mpr (fr_iff.mp g).2.2.2]; exact fun z => z rfl)) w⟩
    have hg := gradeN_le D s
    refine pk_eq (gradeN D s) 0 (fun z => kM_serves R B hs ?_) (fun z => no _ (fun g => ?_) z)
    · cases ec : cli (d_sp D) (d_bY D) s with
      | none =>
        refine ⟨fun _ => ?_, fun y => absurd rfl y⟩
        have g : fr D s = true := fr_iff.mpr ⟨q, ec, by unfold gradeN at z; by_cases c : d_wear D s < d_lim D; exact c; rw [if_neg c] at z; split at z <;> omega, (bi_eq _).mp w⟩
        rw [g] at h; exact h
      | some b =>
        have hb := isAd_lt (cli_some ec).1
        refine ⟨fun y => absurd y (co_ne (by omega)), fun y => no (cli (d_sp D) (d_bY D) s = some b) (fun g => ?_) ec⟩
        rw [(fr_iff.mp g).2.1]; exact fun y => (by cases y)
    · unfold gradeN; rw [if_pos (fr_iff.mp g).2.2.1]; exact fun y => y rfl
  · exact no _ (fun g => (by rw [(fr_iff.mp g).1]; exact fun y => (by cases y))) q
theorem kM_frees (R : RelM D (mo_now μ)) (B : Bw D) {h : Nat} (hh : h < 4) {post : Int32 → Prop} (hp : post (nI (nFr D h))) : wpX4_frees μ (nI h) post := by
  have L : ∀ (m p c : Nat), p + m = 16 → post (nI (c + cnt (fr D) m (16 * h + p))) → wpX4_frees_L4 μ (nI h) post (m + 1) (nI c) (nI p) := by
    intro m
    induction m with
    | zero =>
      intro p c e hp
      rw [wpX4_frees_L4]
      exact pk_le 16 p (fun _ => hp) (fun q => absurd q (by omega))
    | succ m ih =>
      intro p c e hp
      rw [wpX4_frees_L4]
      refine pk_le 16 p (fun q => absurd q (by omega)) (fun _ => ?_)
      rw [nI_ph]
      unfold cnt at hp
      refine kM_isFree R B (by omega) ⟨fun q => ?_, fun q => ?_⟩ <;> unfold wpX4_frees_J29
      · rw [bi_t, nI_1, nI_1]
        rw [if_pos q] at hp
        exact ih (p + 1) (c + 1) (by omega) (by rw [show c + 1 + cnt (fr D) m (16 * h + (p + 1)) = c + (1 + cnt (fr D) m (16 * h + p + 1)) by rw [Nat.add_assoc]; rfl]; exact hp)
      · rw [bi_f, nI_1, Int32.add_zero]
        rw [if_neg (by rw [q]; simp), Nat.zero_add] at hp
        exact ih (p + 1) c (by omega) hp
  unfold wpX4_frees
  exact ⟨17, L 16 0 0 rfl (by rw [Nat.zero_add]; exact hp)⟩
theorem kM_firstFree (R : RelM D (mo_now μ)) (B : Bw D) {h : Nat} (hh : h < 4) {post : Int32 → Prop} (hp : post (co (ffH D h))) : wpX4_firstFree μ (nI h) post := by
  have L : ∀ (m p : Nat), p + m = 16 → post (co (fnd (fr D) m (16 * h + p))) → wpX4_firstFree_L2 μ (nI h) post (m + 1) (nI p) := by
    intro m
    induction m with
    | zero =>
      intro p e hp
      rw [wpX4_firstFree_L2]
      exact pk_le 16 p (fun _ => hp) (fun q => absurd q (by omega))
    | succ m ih =>
      intro p e hp
      rw [wpX4_firstFree_L2]
      refine pk_le 16 p (fun q => absurd q (by omega)) (fun _ => ?_)
      rw [nI_ph]
      unfold fnd at hp
      refine kM_isFree R B (by omega) ⟨fun q => ?_, fun q => ?_⟩
      · rw [if_pos q] at hp; exact hp
      · rw [nI_1]
        rw [if_neg (by rw [q]; simp)] at hp
        exact ih (p + 1) (by omega) hp
  unfold wpX4_firstFree
  exact ⟨17, L 16 0 rfl hp⟩
theorem kM_lends (R : RelM D (mo_now μ)) (B : Bw D) {a : Nat} (ha : a < 64) {post : Int32 → Prop} (hp : post (co (lendD D a))) : wpX4_lends μ (nI a) post := by
  have L : ∀ (m h b : Nat), b < 4 → h + m = 4 → post (co (ffH D (bestH (nFr D) m h b))) → wpX4_lends_L22 μ post (m + 1) (nI b) (nI h) := by
    intro m
    induction m with
    | zero =>
      intro h b hb e hp
      rw [wpX4_lends_L22]
      exact pk_le 4 h (fun _ => kM_firstFree R B hb hp) (fun q => absurd q (by omega))
    | succ m ih =>
      intro h b hb e hp
      rw [wpX4_lends_L22]
      refine pk_le 4 h (fun q => absurd q (by omega)) (fun _ => ?_)
      unfold bestH at hp
      have g1 := nFr_le D h
      have g2 := nFr_le D b
      refine kM_frees R B (by omega) (kM_frees R B hb (pk_le (nFr D h) (nFr D b) (fun q => ?_) (fun q => ?_)))
      · rw [if_neg (by omega)] at hp
        rw [nI_1]
        exact ih (h + 1) b hb (by omega) hp
      · rw [if_pos (by omega)] at hp
        rw [nI_1]
        exact ih (h + 1) h (by omega) (by omega) hp
  unfold wpX4_lends
  unfold lendD at hp
  rw [nI_pd (by omega)]
  refine kM_firstFree R B (by omega) ?_
  cases e : ffH D (a / 16) with
  | some x =>
    rw [e] at hp
    have := ffH_lt (by omega) e
    exact ⟨fun q => absurd q (co_ne (by omega)), fun _ => hp⟩
  | none =>
    rw [e] at hp
    exact ⟨fun _ => ⟨4, L 3 1 0 (by omega) rfl hp⟩, fun q => absurd rfl q⟩
end KM
