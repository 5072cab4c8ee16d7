/-! the acts, on what a state means -/
theorem up_eq {α : Type} (f : Nat → α) (k : Nat) (v : α) : va_up f k v k = v := by unfold va_up; rw [if_pos rfl]
theorem up_ne {α : Type} (f : Nat → α) {k j : Nat} (v : α) (h : j ≠ k) : va_up f k v j = f j := by unfold va_up; rw [if_neg h]
theorem upd_eq (f : Nat → Int32) (k : Nat) (v : Int32) : upd f k v k = v := pk_us
theorem upd_ne (f : Nat → Int32) {k j : Nat} (v : Int32) (h : j ≠ k) : upd f k v j = f j := pk_un h
def moveD (D : DS) (s : Nat) : DS := d_setArm (d_setSteps D (d_steps D + nI (apart (d_arm D) s))) s
def goD (D : DS) (a : Nat) : DS := d_setArm (d_setSteps D (d_steps D + nI (stepsD D a))) (d_bY D a)
def wearD (D : DS) (s n : Nat) : DS := d_setWear D (va_up (d_wear D) s (d_wear D s + n * d_age D (s / 16)))
def byD (D : DS) (a x : Nat) : DS := d_setBY D (va_up (d_bY D) a x)
def loseD (D : DS) (a : Nat) : DS := d_setLoss (byD D a 64) (d_loss D + 1)
def rescD (D : DS) (a x : Nat) : DS := d_setRof (d_setResc (wearD (moveD (byD D a x) x) x 2) (d_resc D + 1)) (va_up (d_rof D) a (d_rof D a + 1))
def lookD (D : DS) (a : Nat) : DS := if d_wear D (d_bY D a) < d_lim D then D else match lendD D a with
  | some x => rescD D a x
  | none => if 2 * d_lim D ≤ d_wear D (d_bY D a) then loseD D a else D
def readD (D : DS) (a : Nat) : DS := lookD (d_setReads (wearD (goD D a) (d_bY D a) 1) (d_reads D + 1)) a
def readR (D : DS) (a : Nat) : Int32 × DS := if isAd (d_sp D) a = true then (if d_bY D a < 64 then (nI (d_val D a), readD D a) else (-4, D)) else (-1, D)
def writeD (D : DS) (a v : Nat) : DS := lookD (d_setWrites (d_setVal (wearD (goD D a) (d_bY D a) 2) (va_up (d_val D) a v)) (d_writes D + 1)) a
def wrAt (D : DS) (a : Nat) : Option DS := if d_bY D a < 64 then some D else match lendD D a with
  | some x => some (byD D a x)
  | none => none
def whoD (D : DS) (a : Nat) : Int32 := if d_bY D a < 64 then nI (d_bY D a) else 100
def writeR (D : DS) (a : Nat) (v : Int32) : Int32 × DS := if isAd (d_sp D) a = true then (if 0 ≤ v.toInt ∧ v.toInt ≤ 999 then (match wrAt D a with
    | some E => (whoD (writeD E a v.toInt.toNat) a, writeD E a v.toInt.toNat)
    | none => (-4, D)) else (-2, D)) else (-1, D)
theorem a_setLim (D : DS) (v : Nat) : d_lim (d_setLim D v) = v ∧ d_arm (d_setLim D v) = d_arm D ∧ d_age (d_setLim D v) = d_age D ∧ d_sp (d_setLim D v) = d_sp D ∧ d_giv (d_setLim D v) = d_giv D ∧ d_wear (d_setLim D v) = d_wear D ∧ d_val (d_setLim D v) = d_val D ∧ d_bY (d_setLim D v) = d_bY D ∧ d_rof (d_setLim D v) = d_rof D ∧ d_steps (d_setLim D v) = d_steps D ∧ d_resc (d_setLim D v) = d_resc D ∧ d_loss (d_setLim D v) = d_loss D ∧ d_reads (d_setLim D v) = d_reads D ∧ d_writes (d_setLim D v) = d_writes D := ⟨rfl, rfl, rfl, rfl, rfl, rfl, rfl, rfl, rfl, rfl, rfl, rfl, rfl, rfl⟩
theorem a_setArm (D : DS) (v : Nat) : d_lim (d_setArm D v) = d_lim D ∧ d_arm (d_setArm D v) = v ∧ d_age (d_setArm D v) = d_age D ∧ d_sp (d_setArm D v) = d_sp D ∧ d_giv (d_setArm D v) = d_giv D ∧ d_wear (d_setArm D v) = d_wear D ∧ d_val (d_setArm D v) = d_val D ∧ d_bY (d_setArm D v) = d_bY D ∧ d_rof (d_setArm D v) = d_rof D ∧ d_steps (d_setArm D v) = d_steps D ∧ d_resc (d_setArm D v) = d_resc D ∧ d_loss (d_setArm D v) = d_loss D ∧ d_reads (d_setArm D v) = d_reads D ∧ d_writes (d_setArm D v) = d_writes D := ⟨rfl, rfl, rfl, rfl, rfl, rfl, rfl, rfl, rfl, rfl, rfl, rfl, rfl, rfl⟩
theorem a_setAge (D : DS) (v : (Nat → Nat)) : d_lim (d_setAge D v) = d_lim D ∧ d_arm (d_setAge D v) = d_arm D ∧ d_age (d_setAge D v) = v ∧ d_sp (d_setAge D v) = d_sp D ∧ d_giv (d_setAge D v) = d_giv D ∧ d_wear (d_setAge D v) = d_wear D ∧ d_val (d_setAge D v) = d_val D ∧ d_bY (d_setAge D v) = d_bY D ∧ d_rof (d_setAge D v) = d_rof D ∧ d_steps (d_setAge D v) = d_steps D ∧ d_resc (d_setAge D v) = d_resc D ∧ d_loss (d_setAge D v) = d_loss D ∧ d_reads (d_setAge D v) = d_reads D ∧ d_writes (d_setAge D v) = d_writes D := ⟨rfl, rfl, rfl, rfl, rfl, rfl, rfl, rfl, rfl, rfl, rfl, rfl, rfl, rfl⟩
theorem a_setSp (D : DS) (v : (Nat → Nat)) : d_lim (d_setSp D v) = d_lim D ∧ d_arm (d_setSp D v) = d_arm D ∧ d_age (d_setSp D v) = d_age D ∧ d_sp (d_setSp D v) = v ∧ d_giv (d_setSp D v) = d_giv D ∧ d_wear (d_setSp D v) = d_wear D ∧ d_val (d_setSp D v) = d_val D ∧ d_bY (d_setSp D v) = d_bY D ∧ d_rof (d_setSp D v) = d_rof D ∧ d_steps (d_setSp D v) = d_steps D ∧ d_resc (d_setSp D v) = d_resc D ∧ d_loss (d_setSp D v) = d_loss D ∧ d_reads (d_setSp D v) = d_reads D ∧ d_writes (d_setSp D v) = d_writes D := ⟨rfl, rfl, rfl, rfl, rfl, rfl, rfl, rfl, rfl, rfl, rfl, rfl, rfl, rfl⟩
theorem a_setGiv (D : DS) (v : (Nat → Bool)) : d_lim (d_setGiv D v) = d_lim D ∧ d_arm (d_setGiv D v) = d_arm D ∧ d_age (d_setGiv D v) = d_age D ∧ d_sp (d_setGiv D v) = d_sp D ∧ d_giv (d_setGiv D v) = v ∧ d_wear (d_setGiv D v) = d_wear D ∧ d_val (d_setGiv D v) = d_val D ∧ d_bY (d_setGiv D v) = d_bY D ∧ d_rof (d_setGiv D v) = d_rof D ∧ d_steps (d_setGiv D v) = d_steps D ∧ d_resc (d_setGiv D v) = d_resc D ∧ d_loss (d_setGiv D v) = d_loss D ∧ d_reads (d_setGiv D v) = d_reads D ∧ d_writes (d_setGiv D v) = d_writes D := ⟨rfl, rfl, rfl, rfl, rfl, rfl, rfl, rfl, rfl, rfl, rfl, rfl, rfl, rfl⟩
theorem a_setWear (D : DS) (v : (Nat → Nat)) : d_lim (d_setWear D v) = d_lim D ∧ d_arm (d_setWear D v) = d_arm D ∧ d_age (d_setWear D v) = d_age D ∧ d_sp (d_setWear D v) = d_sp D ∧ d_giv (d_setWear D v) = d_giv D ∧ d_wear (d_setWear D v) = v ∧ d_val (d_setWear D v) = d_val D ∧ d_bY (d_setWear D v) = d_bY D ∧ d_rof (d_setWear D v) = d_rof D ∧ d_steps (d_setWear D v) = d_steps D ∧ d_resc (d_setWear D v) = d_resc D ∧ d_loss (d_setWear D v) = d_loss D ∧ d_reads (d_setWear D v) = d_reads D ∧ d_writes (d_setWear D v) = d_writes D := ⟨rfl, rfl, rfl, rfl, rfl, rfl, rfl, rfl, rfl, rfl, rfl, rfl, rfl, rfl⟩
theorem a_setVal (D : DS) (v : (Nat → Nat)) : d_lim (d_setVal D v) = d_lim D ∧ d_arm (d_setVal D v) = d_arm D ∧ d_age (d_setVal D v) = d_age D ∧ d_sp (d_setVal D v) = d_sp D ∧ d_giv (d_setVal D v) = d_giv D ∧ d_wear (d_setVal D v) = d_wear D ∧ d_val (d_setVal D v) = v ∧ d_bY (d_setVal D v) = d_bY D ∧ d_rof (d_setVal D v) = d_rof D ∧ d_steps (d_setVal D v) = d_steps D ∧ d_resc (d_setVal D v) = d_resc D ∧ d_loss (d_setVal D v) = d_loss D ∧ d_reads (d_setVal D v) = d_reads D ∧ d_writes (d_setVal D v) = d_writes D := ⟨rfl, rfl, rfl, rfl, rfl, rfl, rfl, rfl, rfl, rfl, rfl, rfl, rfl, rfl⟩
theorem a_setBY (D : DS) (v : (Nat → Nat)) : d_lim (d_setBY D v) = d_lim D ∧ d_arm (d_setBY D v) = d_arm D ∧ d_age (d_setBY D v) = d_age D ∧ d_sp (d_setBY D v) = d_sp D ∧ d_giv (d_setBY D v) = d_giv D ∧ d_wear (d_setBY D v) = d_wear D ∧ d_val (d_setBY D v) = d_val D ∧ d_bY (d_setBY D v) = v ∧ d_rof (d_setBY D v) = d_rof D ∧ d_steps (d_setBY D v) = d_steps D ∧ d_resc (d_setBY D v) = d_resc D ∧ d_loss (d_setBY D v) = d_loss D ∧ d_reads (d_setBY D v) = d_reads D ∧ d_writes (d_setBY D v) = d_writes D := ⟨rfl, rfl, rfl, rfl, rfl, rfl, rfl, rfl, rfl, rfl, rfl, rfl, rfl, rfl⟩
theorem a_setRof (D : DS) (v : (Nat → Int32)) : d_lim (d_setRof D v) = d_lim D ∧ d_arm (d_setRof D v) = d_arm D ∧ d_age (d_setRof D v) = d_age D ∧ d_sp (d_setRof D v) = d_sp D ∧ d_giv (d_setRof D v) = d_giv D ∧ d_wear (d_setRof D v) = d_wear D ∧ d_val (d_setRof D v) = d_val D ∧ d_bY (d_setRof D v) = d_bY D ∧ d_rof (d_setRof D v) = v ∧ d_steps (d_setRof D v) = d_steps D ∧ d_resc (d_setRof D v) = d_resc D ∧ d_loss (d_setRof D v) = d_loss D ∧ d_reads (d_setRof D v) = d_reads D ∧ d_writes (d_setRof D v) = d_writes D := ⟨rfl, rfl, rfl, rfl, rfl, rfl, rfl, rfl, rfl, rfl, rfl, rfl, rfl, rfl⟩
theorem a_setSteps (D : DS) (v : Int32) : d_lim (d_setSteps D v) = d_lim D ∧ d_arm (d_setSteps D v) = d_arm D ∧ d_age (d_setSteps D v) = d_age D ∧ d_sp (d_setSteps D v) = d_sp D ∧ d_giv (d_setSteps D v) = d_giv D ∧ d_wear (d_setSteps D v) = d_wear D ∧ d_val (d_setSteps D v) = d_val D ∧ d_bY (d_setSteps D v) = d_bY D ∧ d_rof (d_setSteps D v) = d_rof D ∧ d_steps (d_setSteps D v) = v ∧ d_resc (d_setSteps D v) = d_resc D ∧ d_loss (d_setSteps D v) = d_loss D ∧ d_reads (d_setSteps D v) = d_reads D ∧ d_writes (d_setSteps D v) = d_writes D := ⟨rfl, rfl, rfl, rfl, rfl, rfl, rfl, rfl, rfl, rfl, rfl, rfl, rfl, rfl⟩
theorem a_setResc (D : DS) (v : Int32) : d_lim (d_setResc D v) = d_lim D ∧ d_arm (d_setResc D v) = d_arm D ∧ d_age (d_setResc D v) = d_age D ∧ d_sp (d_setResc D v) = d_sp D ∧ d_giv (d_setResc D v) = d_giv D ∧ d_wear (d_setResc D v) = d_wear D ∧ d_val (d_setResc D v) = d_val D ∧ d_bY (d_setResc D v) = d_bY D ∧ d_rof (d_setResc D v) = d_rof D ∧ d_steps (d_setResc D v) = d_steps D ∧ d_resc (d_setResc D v) = v ∧ d_loss (d_setResc D v) = d_loss D ∧ d_reads (d_setResc D v) = d_reads D ∧ d_writes (d_setResc D v) = d_writes D := ⟨rfl, rfl, rfl, rfl, rfl, rfl, rfl, rfl, rfl, rfl, rfl, rfl, rfl, rfl⟩
theorem a_setLoss (D : DS) (v : Int32) : d_lim (d_setLoss D v) = d_lim D ∧ d_arm (d_setLoss D v) = d_arm D ∧ d_age (d_setLoss D v) = d_age D ∧ d_sp (d_setLoss D v) = d_sp D ∧ d_giv (d_setLoss D v) = d_giv D ∧ d_wear (d_setLoss D v) = d_wear D ∧ d_val (d_setLoss D v) = d_val D ∧ d_bY (d_setLoss D v) = d_bY D ∧ d_rof (d_setLoss D v) = d_rof D ∧ d_steps (d_setLoss D v) = d_steps D ∧ d_resc (d_setLoss D v) = d_resc D ∧ d_loss (d_setLoss D v) = v ∧ d_reads (d_setLoss D v) = d_reads D ∧ d_writes (d_setLoss D v) = d_writes D := ⟨rfl, rfl, rfl, rfl, rfl, rfl, rfl, rfl, rfl, rfl, rfl, rfl, rfl, rfl⟩
theorem a_setReads (D : DS) (v : Int32) : d_lim (d_setReads D v) = d_lim D ∧ d_arm (d_setReads D v) = d_arm D ∧ d_age (d_setReads D v) = d_age D ∧ d_sp (d_setReads D v) = d_sp D ∧ d_giv (d_setReads D v) = d_giv D ∧ d_wear (d_setReads D v) = d_wear D ∧ d_val (d_setReads D v) = d_val D ∧ d_bY (d_setReads D v) = d_bY D ∧ d_rof (d_setReads D v) = d_rof D ∧ d_steps (d_setReads D v) = d_steps D ∧ d_resc (d_setReads D v) = d_resc D ∧ d_loss (d_setReads D v) = d_loss D ∧ d_reads (d_setReads D v) = v ∧ d_writes (d_setReads D v) = d_writes D := ⟨rfl, rfl, rfl, rfl, rfl, rfl, rfl, rfl, rfl, rfl, rfl, rfl, rfl, rfl⟩
theorem a_setWrites (D : DS) (v : Int32) : d_lim (d_setWrites D v) = d_lim D ∧ d_arm (d_setWrites D v) = d_arm D ∧ d_age (d_setWrites D v) = d_age D ∧ d_sp (d_setWrites D v) = d_sp D ∧ d_giv (d_setWrites D v) = d_giv D ∧ d_wear (d_setWrites D v) = d_wear D ∧ d_val (d_setWrites D v) = d_val D ∧ d_bY (d_setWrites D v) = d_bY D ∧ d_rof (d_setWrites D v) = d_rof D ∧ d_steps (d_setWrites D v) = d_steps D ∧ d_resc (d_setWrites D v) = d_resc D ∧ d_loss (d_setWrites D v) = d_loss D ∧ d_reads (d_setWrites D v) = d_reads D ∧ d_writes (d_setWrites D v) = v := ⟨rfl, rfl, rfl, rfl, rfl, rfl, rfl, rfl, rfl, rfl, rfl, rfl, rfl, rfl⟩
theorem a_move (D : DS) (s : Nat) : d_lim (moveD D s) = d_lim D ∧ d_arm (moveD D s) = s ∧ d_age (moveD D s) = d_age D ∧ d_sp (moveD D s) = d_sp D ∧ d_giv (moveD D s) = d_giv D ∧ d_wear (moveD D s) = d_wear D ∧ d_val (moveD D s) = d_val D ∧ d_bY (moveD D s) = d_bY D ∧ d_rof (moveD D s) = d_rof D ∧ d_steps (moveD D s) = d_steps D + nI (apart (d_arm D) s) ∧ d_resc (moveD D s) = d_resc D ∧ d_loss (moveD D s) = d_loss D ∧ d_reads (moveD D s) = d_reads D ∧ d_writes (moveD D s) = d_writes D := ⟨rfl, rfl, rfl, rfl, rfl, rfl, rfl, rfl, rfl, rfl, rfl, rfl, rfl, rfl⟩
theorem a_go (D : DS) (a : Nat) : d_lim (goD D a) = d_lim D ∧ d_arm (goD D a) = d_bY D a ∧ d_age (goD D a) = d_age D ∧ d_sp (goD D a) = d_sp D ∧ d_giv (goD D a) = d_giv D ∧ d_wear (goD D a) = d_wear D ∧ d_val (goD D a) = d_val D ∧ d_bY (goD D a) = d_bY D ∧ d_rof (goD D a) = d_rof D ∧ d_steps (goD D a) = d_steps D + nI (stepsD D a) ∧ d_resc (goD D a) = d_resc D ∧ d_loss (goD D a) = d_loss D ∧ d_reads (goD D a) = d_reads D ∧ d_writes (goD D a) = d_writes D := ⟨rfl, rfl, rfl, rfl, rfl, rfl, rfl, rfl, rfl, rfl, rfl, rfl, rfl, rfl⟩
theorem a_wear (D : DS) (s n : Nat) : d_lim (wearD D s n) = d_lim D ∧ d_arm (wearD D s n) = d_arm D ∧ d_age (wearD D s n) = d_age D ∧ d_sp (wearD D s n) = d_sp D ∧ d_giv (wearD D s n) = d_giv D ∧ d_wear (wearD D s n) = va_up (d_wear D) s (d_wear D s + n * d_age D (s / 16)) ∧ d_val (wearD D s n) = d_val D ∧ d_bY (wearD D s n) = d_bY D ∧ d_rof (wearD D s n) = d_rof D ∧ d_steps (wearD D s n) = d_steps D ∧ d_resc (wearD D s n) = d_resc D ∧ d_loss (wearD D s n) = d_loss D ∧ d_reads (wearD D s n) = d_reads D ∧ d_writes (wearD D s n) = d_writes D := ⟨rfl, rfl, rfl, rfl, rfl, rfl, rfl, rfl, rfl, rfl, rfl, rfl, rfl, rfl⟩
theorem a_by (D : DS) (a x : Nat) : d_lim (byD D a x) = d_lim D ∧ d_arm (byD D a x) = d_arm D ∧ d_age (byD D a x) = d_age D ∧ d_sp (byD D a x) = d_sp D ∧ d_giv (byD D a x) = d_giv D ∧ d_wear (byD D a x) = d_wear D ∧ d_val (byD D a x) = d_val D ∧ d_bY (byD D a x) = va_up (d_bY D) a x ∧ d_rof (byD D a x) = d_rof D ∧ d_steps (byD D a x) = d_steps D ∧ d_resc (byD D a x) = d_resc D ∧ d_loss (byD D a x) = d_loss D ∧ d_reads (byD D a x) = d_reads D ∧ d_writes (byD D a x) = d_writes D := ⟨rfl, rfl, rfl, rfl, rfl, rfl, rfl, rfl, rfl, rfl, rfl, rfl, rfl, rfl⟩
theorem a_lose (D : DS) (a : Nat) : d_lim (loseD D a) = d_lim D ∧ d_arm (loseD D a) = d_arm D ∧ d_age (loseD D a) = d_age D ∧ d_sp (loseD D a) = d_sp D ∧ d_giv (loseD D a) = d_giv D ∧ d_wear (loseD D a) = d_wear D ∧ d_val (loseD D a) = d_val D ∧ d_bY (loseD D a) = va_up (d_bY D) a 64 ∧ d_rof (loseD D a) = d_rof D ∧ d_steps (loseD D a) = d_steps D ∧ d_resc (loseD D a) = d_resc D ∧ d_loss (loseD D a) = d_loss D + 1 ∧ d_reads (loseD D a) = d_reads D ∧ d_writes (loseD D a) = d_writes D := ⟨rfl, rfl, rfl, rfl, rfl, rfl, rfl, rfl, rfl, rfl, rfl, rfl, rfl, rfl⟩
theorem a_resc (D : DS) (a x : Nat) : d_lim (rescD D a x) = d_lim D ∧ d_arm (rescD D a x) = x ∧ d_age (rescD D a x) = d_age D ∧ d_sp (rescD D a x) = d_sp D ∧ d_giv (rescD D a x) = d_giv D ∧ d_wear (rescD D a x) = va_up (d_wear D) x (d_wear D x + 2 * d_age D (x / 16)) ∧ d_val (rescD D a x) = d_val D ∧ d_bY (rescD D a x) = va_up (d_bY D) a x ∧ d_rof (rescD D a x) = va_up (d_rof D) a (d_rof D a + 1) ∧ d_steps (rescD D a x) = d_steps D + nI (apart (d_arm D) x) ∧ d_resc (rescD D a x) = d_resc D + 1 ∧ d_loss (rescD D a x) = d_loss D ∧ d_reads (rescD D a x) = d_reads D ∧ d_writes (rescD D a x) = d_writes D := ⟨rfl, rfl, rfl, rfl, rfl, rfl, rfl, rfl, rfl, rfl, rfl, rfl, rfl, rfl⟩
/-! what they keep -/
theorem Bw.move {D : DS} (B : Bw D) {s : Nat} (hs : s < 64) : Bw (moveD D s) := ⟨B.1, hs, B.2.2⟩
theorem Bw.go {D : DS} (B : Bw D) {a : Nat} (hb : d_bY D a < 64) : Bw (goD D a) := ⟨B.1, hb, B.2.2⟩
theorem Bw.worn {D : DS} (B : Bw D) {s n : Nat} (h : d_wear D s + n * d_age D (s / 16) ≤ 2015) : Bw (wearD D s n) := by
  unfold Bw
  simp only [a_wear]
  refine ⟨B.1, B.2.1, B.2.2.1, B.2.2.2.1, fun x hx => ?_, B.2.2.2.2.2⟩
  by_cases e : x = s
  · rw [e, up_eq]; exact h
  · rw [up_ne _ _ e]; exact B.wear x hx
theorem Bw.by_ {D : DS} (B : Bw D) {a x : Nat} (hfree : ∀ b, isAd (d_sp D) b = true → b ≠ a → d_bY D b ≠ x) : Bw (byD D a x) := by
  unfold Bw
  simp only [a_by]
  refine ⟨B.1, B.2.1, B.2.2.1, B.2.2.2.1, B.2.2.2.2.1, B.2.2.2.2.2.1, fun y z hy hz e h64 => ?_⟩
  by_cases c1 : y = a <;> by_cases c2 : z = a
  · rw [c1, c2]
  · rw [c1, up_eq, up_ne _ _ c2] at e; exact absurd e.symm (hfree z hz c2)
  · rw [c2, up_eq, up_ne _ _ c1] at e; exact absurd e (hfree y hy c1)
  · rw [up_ne _ _ c1, up_ne _ _ c2] at e; rw [up_ne _ _ c1] at h64; exact B.inj y z hy hz e h64
theorem Bw.lost {D : DS} (B : Bw D) {a : Nat} : Bw (byD D a 64) := by
  unfold Bw
  simp only [a_by]
  refine ⟨B.1, B.2.1, B.2.2.1, B.2.2.2.1, B.2.2.2.2.1, B.2.2.2.2.2.1, fun y z hy hz e h64 => ?_⟩
  have c1 : y ≠ a := fun q => by rw [q, up_eq] at h64; omega
  have c2 : z ≠ a := fun q => by rw [e, q, up_eq] at h64; omega
  rw [up_ne _ _ c1, up_ne _ _ c2] at e; rw [up_ne _ _ c1] at h64; exact B.inj y z hy hz e h64
theorem Bw.setReads {D : DS} (B : Bw D) {v : Int32} : Bw (d_setReads D v) := B
theorem Bw.setWrites {D : DS} (B : Bw D) {v : Int32} : Bw (d_setWrites D v) := B
theorem Bw.setResc {D : DS} (B : Bw D) {v : Int32} : Bw (d_setResc D v) := B
theorem Bw.setLoss {D : DS} (B : Bw D) {v : Int32} : Bw (d_setLoss D v) := B
theorem Bw.setRof {D : DS} (B : Bw D) {v : Nat → Int32} : Bw (d_setRof D v) := B
theorem Bw.setVal {D : DS} (B : Bw D) {a v : Nat} (hv : v ≤ 999) : Bw (d_setVal D (va_up (d_val D) a v)) := by
  unfold Bw
  simp only [a_setVal]
  refine ⟨B.1, B.2.1, B.2.2.1, B.2.2.2.1, B.2.2.2.2.1, fun x hx => ?_, B.2.2.2.2.2.2⟩
  by_cases e : x = a
  · rw [e, up_eq]; exact hv
  · rw [up_ne _ _ e]; exact B.val x hx
theorem Bd.move {D : DS} (B : Bd D) {s : Nat} (hs : s < 64) : Bd (moveD D s) := ⟨B.1.move hs, B.2⟩
theorem Bd.go {D : DS} (B : Bd D) {a : Nat} (hb : d_bY D a < 64) : Bd (goD D a) := ⟨B.1.go hb, B.2⟩
theorem Bd.worn {D : DS} (B : Bd D) {s n : Nat} (h : d_wear D s + n * d_age D (s / 16) ≤ 2015) : Bd (wearD D s n) := ⟨B.1.worn h, B.2⟩
theorem Bd.by_ {D : DS} (B : Bd D) {a x : Nat} (hfree : ∀ b, isAd (d_sp D) b = true → b ≠ a → d_bY D b ≠ x) (hg : x < 64 → d_giv D (x / 16) = false ∧ (x = a ∨ isSp (d_sp D) x = true)) : Bd (byD D a x) := by
  refine ⟨B.1.by_ hfree, ?_⟩
  simp only [a_by]
  intro b hb h64
  by_cases c : b = a
  · rw [c, up_eq] at h64 ⊢; exact hg h64
  · rw [up_ne _ _ c] at h64 ⊢; exact B.ser b hb h64
theorem lend_free {D : DS} {a x : Nat} (ha : a < 64) (h : lendD D a = some x) : x < 64 ∧ (∀ b, isAd (d_sp D) b = true → d_bY D b ≠ x) ∧ d_giv D (x / 16) = false ∧ isSp (d_sp D) x = true ∧ d_wear D x < d_lim D := by
  obtain ⟨h1, h2⟩ := lendD_some ha h
  obtain ⟨g1, g2, g3, g4⟩ := fr_iff.mp h2
  exact ⟨h1, fun b hb => cli_none g2 hb, g4, g1, g3⟩
theorem Bd.lend {D : DS} (B : Bd D) {a x : Nat} (ha : a < 64) (h : lendD D a = some x) : Bd (byD D a x) := by
  obtain ⟨-, h2, h3, h4, -⟩ := lend_free ha h
  exact B.by_ (fun b hb _ => h2 b hb) (fun _ => ⟨h3, Or.inr h4⟩)
theorem Bd.lost {D : DS} (B : Bd D) {a : Nat} : Bd (byD D a 64) := by
  refine ⟨B.1.lost, ?_⟩
  simp only [a_by]
  intro b hb h64
  have c : b ≠ a := fun q => by rw [q, up_eq] at h64; omega
  rw [up_ne _ _ c] at h64 ⊢; exact B.ser b hb h64
theorem age_le {D : DS} (B : Bd D) {s : Nat} (hs : s < 64) : 1 ≤ d_age D (s / 16) ∧ d_age D (s / 16) ≤ 9 := B.age _ (by omega)
theorem Bd.setReads {D : DS} (B : Bd D) {v : Int32} : Bd (d_setReads D v) := B
theorem Bd.setWrites {D : DS} (B : Bd D) {v : Int32} : Bd (d_setWrites D v) := B
theorem Bd.setResc {D : DS} (B : Bd D) {v : Int32} : Bd (d_setResc D v) := B
theorem Bd.setLoss {D : DS} (B : Bd D) {v : Int32} : Bd (d_setLoss D v) := B
theorem Bd.setRof {D : DS} (B : Bd D) {v : Nat → Int32} : Bd (d_setRof D v) := B
theorem Bd.resc {D : DS} (B : Bd D) {a x : Nat} (ha : a < 64) (h : lendD D a = some x) : Bd (rescD D a x) := by
  obtain ⟨h1, -, -, -, h5⟩ := lend_free ha h
  have hl := B.lim
  have hg := age_le B h1
  have B1 : Bd (moveD (byD D a x) x) := (B.lend ha h).move h1
  have B2 : Bd (wearD (moveD (byD D a x) x) x 2) := B1.worn (by simp only [a_move, a_by]; omega)
  exact B2.setResc.setRof
theorem Bd.look {D : DS} (B : Bd D) {a : Nat} (ha : a < 64) : Bd (lookD D a) := by
  unfold lookD
  by_cases c : d_wear D (d_bY D a) < d_lim D
  · rw [if_pos c]; exact B
  · rw [if_neg c]
    cases e : lendD D a with
    | some x => exact B.resc ha e
    | none =>
      show Bd (if 2 * d_lim D ≤ d_wear D (d_bY D a) then loseD D a else D)
      by_cases c2 : 2 * d_lim D ≤ d_wear D (d_bY D a)
      · rw [if_pos c2]; exact B.lost.setLoss
      · rw [if_neg c2]; exact B
/-- what holds between the acts beside the bounds -/
def Tg (D : DS) : Prop := (∀ a, isAd (d_sp D) a = true → d_bY D a < 64 → d_wear D (d_bY D a) ≤ 1997 ∧ (d_bY D a = a ∨ 0 < d_wear D (d_bY D a))) ∧ (∀ s, s < 64 → d_bY D s = s ∨ 0 < d_wear D s ∨ d_giv D (s / 16) = true)
def TgX (D : DS) (a : Nat) : Prop := (∀ b, isAd (d_sp D) b = true → b ≠ a → d_bY D b < 64 → d_wear D (d_bY D b) ≤ 1997 ∧ (d_bY D b = b ∨ 0 < d_wear D (d_bY D b))) ∧ (d_bY D a = a ∨ 0 < d_wear D (d_bY D a)) ∧ (∀ s, s < 64 → d_bY D s = s ∨ 0 < d_wear D s ∨ d_giv D (s / 16) = true)
theorem own_free {D : DS} (B : Bd D) {a b : Nat} (ha : isAd (d_sp D) a = true) (hb : isAd (d_sp D) b = true) (hab : b ≠ a) : d_bY D b ≠ a := by
  intro e
  have ha' := isAd_lt ha
  rcases (B.ser b hb (by omega)).2 with q | q
  · exact hab (q.symm.trans e)
  · rw [e, isAd_sp ha] at q; cases q
theorem Tg.resc {D : DS} (B : Bd D) {a x : Nat} (ha : isAd (d_sp D) a = true) (h : lendD D a = some x) (h1 : ∀ b, isAd (d_sp D) b = true → b ≠ a → d_bY D b < 64 → d_wear D (d_bY D b) ≤ 1997 ∧ (d_bY D b = b ∨ 0 < d_wear D (d_bY D b))) (h2 : 0 < d_wear D a ∨ d_giv D (a / 16) = true) (h3 : ∀ s, s < 64 → d_bY D s = s ∨ 0 < d_wear D s ∨ d_giv D (s / 16) = true) : Tg (rescD D a x) := by
  obtain ⟨g1, g2, g3, g4, g5⟩ := lend_free (isAd_lt ha) h
  have hl := B.lim
  have hg := age_le B g1
  unfold Tg
  simp only [a_resc]
  refine ⟨fun b hb h64 => ?_, fun s hs => ?_⟩
  · skip
    by_cases c : b = a
    · rw [c, up_eq, up_eq]; exact ⟨by omega, Or.inr (by omega)⟩
    · rw [up_ne _ _ c] at h64 ⊢
      rw [up_ne _ _ (g2 b hb)]
      exact h1 b hb c h64
  · by_cases c2 : s = x
    · rw [c2, up_eq]; exact Or.inr (Or.inl (by omega))
    · rw [up_ne _ _ c2]
      by_cases c : s = a
      · rw [c]; exact Or.inr h2
      · rw [up_ne _ _ c]; exact h3 s hs
theorem Tg.look {D : DS} (B : Bd D) {a : Nat} (ha : isAd (d_sp D) a = true) (hb : d_bY D a < 64) (T : TgX D a) : Tg (lookD D a) := by
  have hl := B.lim
  obtain ⟨h1, h2, h3⟩ := T
  have hD : d_wear D (d_bY D a) ≤ 1997 → Tg D := fun q => ⟨fun b hb2 h64 => by
    by_cases c : b = a
    · rw [c]; exact ⟨q, h2⟩
    · exact h1 b hb2 c h64, h3⟩
  have hA : ¬ d_wear D (d_bY D a) < d_lim D → 0 < d_wear D a ∨ d_giv D (a / 16) = true := by
    intro c
    rcases h3 a (isAd_lt ha) with q | q | q
    · rw [q] at c; exact Or.inl (by omega)
    · exact Or.inl q
    · exact Or.inr q
  unfold lookD
  by_cases c : d_wear D (d_bY D a) < d_lim D
  · rw [if_pos c]; exact hD (by omega)
  · rw [if_neg c]
    cases e : lendD D a with
    | some x => exact Tg.resc B ha e h1 (hA c) h3
    | none =>
      show Tg (if 2 * d_lim D ≤ d_wear D (d_bY D a) then loseD D a else D)
      by_cases c2 : 2 * d_lim D ≤ d_wear D (d_bY D a)
      · rw [if_pos c2]
        unfold Tg
        simp only [a_lose]
        refine ⟨fun b hb2 h64 => ?_, fun s hs => ?_⟩
        · have cb : b ≠ a := fun q => by rw [q, up_eq] at h64; omega
          rw [up_ne _ _ cb] at h64 ⊢
          exact h1 b hb2 cb h64
        · by_cases cs : s = a
          · rw [cs]; exact Or.inr (hA c)
          · rw [up_ne _ _ cs]; exact h3 s hs
      · rw [if_neg c2]; exact hD (by omega)
/-- the wear of the sector that serves a grows: what is left to look at -/
theorem TgX.worn {D : DS} (B : Bd D) (T : Tg D) {a n : Nat} (ha : isAd (d_sp D) a = true) (hb : d_bY D a < 64) (hn : 1 ≤ n) : TgX (wearD D (d_bY D a) n) a := by
  have hg := age_le B hb
  have hp : 1 * 1 ≤ n * d_age D (d_bY D a / 16) := Nat.mul_le_mul hn hg.1
  unfold TgX
  simp only [a_wear]
  refine ⟨fun b hb2 cb h64 => ?_, Or.inr ?_, fun s hs => ?_⟩
  · rw [up_ne _ _ (fun q => cb (B.inj b a hb2 ha q h64))]
    exact T.1 b hb2 h64
  · rw [up_eq]; omega
  · by_cases c : s = d_bY D a
    · rw [c, up_eq]; exact Or.inr (Or.inl (by omega))
    · rw [up_ne _ _ c]; exact T.2 s hs
theorem TgX.setReads {D : DS} {a : Nat} (T : TgX D a) {v : Int32} : TgX (d_setReads D v) a := T
theorem TgX.setWrites {D : DS} {a : Nat} (T : TgX D a) {v : Int32} : TgX (d_setWrites D v) a := T
theorem TgX.setVal {D : DS} {a : Nat} (T : TgX D a) {v : Nat → Nat} : TgX (d_setVal D v) a := T
theorem Tg.go {D : DS} {a : Nat} (T : Tg D) : Tg (goD D a) := T
def Inv (D : DS) : Prop := Bd D ∧ Tg D
theorem Inv.pre {D : DS} (I : Inv D) {a n : Nat} (ha : isAd (d_sp D) a = true) (hb : d_bY D a < 64) (hn : 1 ≤ n) (hn2 : n ≤ 2) : Bd (wearD (goD D a) (d_bY D a) n) ∧ TgX (wearD (goD D a) (d_bY D a) n) a := by
  have hg := age_le I.1 hb
  have hw := (I.2.1 a ha hb).1
  have hm : n * d_age D (d_bY D a / 16) ≤ 2 * 9 := Nat.mul_le_mul hn2 hg.2
  refine ⟨(I.1.go hb).worn (by simp only [a_go]; omega), ?_⟩
  have z := TgX.worn (D := goD D a) (a := a) (n := n) (I.1.go hb) I.2.go (by simp only [a_go]; exact ha) (by simp only [a_go]; exact hb) hn
  simp only [a_go] at z
  exact z
theorem Inv.look {D : DS} {a : Nat} (ha : isAd (d_sp D) a = true) (hb : d_bY D a < 64) (B : Bd D) (T : TgX D a) : Inv (lookD D a) := ⟨B.look (isAd_lt ha), Tg.look B ha hb T⟩
theorem Inv.read {D : DS} (I : Inv D) {a : Nat} (ha : isAd (d_sp D) a = true) (hb : d_bY D a < 64) : Inv (readD D a) := by
  obtain ⟨h1, h2⟩ := I.pre ha hb (Nat.le_refl 1) (by omega)
  unfold readD
  exact Inv.look (by simp only [a_setReads, a_wear, a_go]; exact ha) (by simp only [a_setReads, a_wear, a_go]; exact hb) h1.setReads h2.setReads
theorem Inv.rR {D : DS} (I : Inv D) (a : Nat) : Inv (readR D a).2 := by
  unfold readR
  by_cases c : isAd (d_sp D) a = true
  · rw [if_pos c]
    by_cases c2 : d_bY D a < 64
    · rw [if_pos c2]; exact I.read c c2
    · rw [if_neg c2]; exact I
  · rw [if_neg c]; exact I
theorem Bd.setVal {D : DS} (B : Bd D) {a v : Nat} (hv : v ≤ 999) : Bd (d_setVal D (va_up (d_val D) a v)) := ⟨B.1.setVal hv, B.2⟩
/-- ready to be written: the bounds, and all but the wear of the sector that serves it -/
def Rdy (D : DS) (a : Nat) : Prop := Bd D ∧ isAd (d_sp D) a = true ∧ d_bY D a < 64 ∧ d_wear D (d_bY D a) ≤ 1997 ∧ (∀ b, isAd (d_sp D) b = true → b ≠ a → d_bY D b < 64 → d_wear D (d_bY D b) ≤ 1997 ∧ (d_bY D b = b ∨ 0 < d_wear D (d_bY D b))) ∧ (∀ s, s < 64 → d_bY D s = s ∨ 0 < d_wear D s ∨ d_giv D (s / 16) = true)
theorem Inv.rdy {D : DS} (I : Inv D) {a : Nat} (ha : isAd (d_sp D) a = true) {E : DS} (h : wrAt D a = some E) : Rdy E a := by
  unfold wrAt at h
  by_cases c : d_bY D a < 64
  · rw [if_pos c] at h
    cases h
    exact ⟨I.1, ha, c, (I.2.1 a ha c).1, fun b hb _ h64 => I.2.1 b hb h64, I.2.2⟩
  · rw [if_neg c] at h
    cases e : lendD D a with
    | none => rw [e] at h; cases h
    | some x =>
      rw [e] at h
      cases h
      obtain ⟨g1, g2, g3, g4, g5⟩ := lend_free (isAd_lt ha) e
      have hl := I.1.lim
      refine ⟨I.1.lend (isAd_lt ha) e, ?_⟩
      simp only [a_by]
      refine ⟨ha, by rw [up_eq]; exact g1, ?_, fun b hb cb h64 => ?_, fun s hs => ?_⟩
      · rw [up_eq]; omega
      · rw [up_ne _ _ cb] at h64 ⊢; exact I.2.1 b hb h64
      · by_cases cs : s = a
        · rcases I.2.2 s hs with q | q
          · rw [cs] at q; have := isAd_lt ha; omega
          · exact Or.inr q
        · rw [up_ne _ _ cs]; exact I.2.2 s hs
theorem Rdy.write {E : DS} {a : Nat} (Y : Rdy E a) {v : Nat} (hv : v ≤ 999) : Inv (writeD E a v) := by
  obtain ⟨B, ha, hb, hw, h1, h3⟩ := Y
  have hg := age_le B hb
  have hm : 2 * d_age E (d_bY E a / 16) ≤ 2 * 9 := Nat.mul_le_mul (Nat.le_refl 2) hg.2
  have B1 : Bd (wearD (goD E a) (d_bY E a) 2) := (B.go hb).worn (by simp only [a_go]; omega)
  have T2 : TgX (wearD (goD E a) (d_bY E a) 2) a := by
    unfold TgX
    simp only [a_wear, a_go]
    refine ⟨fun b hb2 cb h64 => ?_, Or.inr ?_, fun s hs => ?_⟩
    · rw [up_ne _ _ (fun q => cb (B.inj b a hb2 ha q h64))]
      exact h1 b hb2 cb h64
    · rw [up_eq]; omega
    · by_cases c : s = d_bY E a
      · rw [c, up_eq]; exact Or.inr (Or.inl (by omega))
      · rw [up_ne _ _ c]; exact h3 s hs
  unfold writeD
  refine Inv.look (by simp only [a_setWrites, a_setVal, a_wear, a_go]; exact ha) (by simp only [a_setWrites, a_setVal, a_wear, a_go]; exact hb) ?_ T2.setVal.setWrites
  have z := Bd.setVal (a := a) B1 hv
  simp only [a_wear, a_go] at z
  exact z.setWrites
theorem Inv.wR {D : DS} (I : Inv D) (a : Nat) (v : Int32) : Inv (writeR D a v).2 := by
  unfold writeR
  by_cases c : isAd (d_sp D) a = true
  · rw [if_pos c]
    by_cases c2 : 0 ≤ v.toInt ∧ v.toInt ≤ 999
    · rw [if_pos c2]
      cases e : wrAt D a with
      | none => exact I
      | some E => exact (I.rdy c e).write (by omega)
    · rw [if_neg c2]; exact I
  · rw [if_neg c]; exact I
