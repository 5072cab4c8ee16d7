abbrev DS : Type := Nat × Nat × (Nat → Nat) × (Nat → Nat) × (Nat → Bool) × (Nat → Nat) × (Nat → Nat) × (Nat → Nat) × (Nat → Int32) × Int32 × Int32 × Int32 × Int32 × Int32
def d_lim (D : DS) : Nat := D.1
def d_arm (D : DS) : Nat := D.2.1
def d_age (D : DS) : (Nat → Nat) := D.2.2.1
def d_sp (D : DS) : (Nat → Nat) := D.2.2.2.1
def d_giv (D : DS) : (Nat → Bool) := D.2.2.2.2.1
def d_wear (D : DS) : (Nat → Nat) := D.2.2.2.2.2.1
def d_val (D : DS) : (Nat → Nat) := D.2.2.2.2.2.2.1
def d_bY (D : DS) : (Nat → Nat) := D.2.2.2.2.2.2.2.1
def d_rof (D : DS) : (Nat → Int32) := D.2.2.2.2.2.2.2.2.1
def d_steps (D : DS) : Int32 := D.2.2.2.2.2.2.2.2.2.1
def d_resc (D : DS) : Int32 := D.2.2.2.2.2.2.2.2.2.2.1
def d_loss (D : DS) : Int32 := D.2.2.2.2.2.2.2.2.2.2.2.1
def d_reads (D : DS) : Int32 := D.2.2.2.2.2.2.2.2.2.2.2.2.1
def d_writes (D : DS) : Int32 := D.2.2.2.2.2.2.2.2.2.2.2.2.2
def d_setLim (D : DS) (v : Nat) : DS := (v, D.2.1, D.2.2.1, D.2.2.2.1, D.2.2.2.2.1, D.2.2.2.2.2.1, D.2.2.2.2.2.2.1, D.2.2.2.2.2.2.2.1, D.2.2.2.2.2.2.2.2.1, D.2.2.2.2.2.2.2.2.2.1, D.2.2.2.2.2.2.2.2.2.2.1, D.2.2.2.2.2.2.2.2.2.2.2.1, D.2.2.2.2.2.2.2.2.2.2.2.2.1, D.2.2.2.2.2.2.2.2.2.2.2.2.2)
def d_setArm (D : DS) (v : Nat) : DS := (D.1, v, D.2.2.1, D.2.2.2.1, D.2.2.2.2.1, D.2.2.2.2.2.1, D.2.2.2.2.2.2.1, D.2.2.2.2.2.2.2.1, D.2.2.2.2.2.2.2.2.1, D.2.2.2.2.2.2.2.2.2.1, D.2.2.2.2.2.2.2.2.2.2.1, D.2.2.2.2.2.2.2.2.2.2.2.1, D.2.2.2.2.2.2.2.2.2.2.2.2.1, D.2.2.2.2.2.2.2.2.2.2.2.2.2)
def d_setAge (D : DS) (v : (Nat → Nat)) : DS := (D.1, D.2.1, v, D.2.2.2.1, D.2.2.2.2.1, D.2.2.2.2.2.1, D.2.2.2.2.2.2.1, D.2.2.2.2.2.2.2.1, D.2.2.2.2.2.2.2.2.1, D.2.2.2.2.2.2.2.2.2.1, D.2.2.2.2.2.2.2.2.2.2.1, D.2.2.2.2.2.2.2.2.2.2.2.1, D.2.2.2.2.2.2.2.2.2.2.2.2.1, D.2.2.2.2.2.2.2.2.2.2.2.2.2)
def d_setSp (D : DS) (v : (Nat → Nat)) : DS := (D.1, D.2.1, D.2.2.1, v, D.2.2.2.2.1, D.2.2.2.2.2.1, D.2.2.2.2.2.2.1, D.2.2.2.2.2.2.2.1, D.2.2.2.2.2.2.2.2.1, D.2.2.2.2.2.2.2.2.2.1, D.2.2.2.2.2.2.2.2.2.2.1, D.2.2.2.2.2.2.2.2.2.2.2.1, D.2.2.2.2.2.2.2.2.2.2.2.2.1, D.2.2.2.2.2.2.2.2.2.2.2.2.2)
def d_setGiv (D : DS) (v : (Nat → Bool)) : DS := (D.1, D.2.1, D.2.2.1, D.2.2.2.1, v, D.2.2.2.2.2.1, D.2.2.2.2.2.2.1, D.2.2.2.2.2.2.2.1, D.2.2.2.2.2.2.2.2.1, D.2.2.2.2.2.2.2.2.2.1, D.2.2.2.2.2.2.2.2.2.2.1, D.2.2.2.2.2.2.2.2.2.2.2.1, D.2.2.2.2.2.2.2.2.2.2.2.2.1, D.2.2.2.2.2.2.2.2.2.2.2.2.2)
def d_setWear (D : DS) (v : (Nat → Nat)) : DS := (D.1, D.2.1, D.2.2.1, D.2.2.2.1, D.2.2.2.2.1, v, D.2.2.2.2.2.2.1, D.2.2.2.2.2.2.2.1, D.2.2.2.2.2.2.2.2.1, D.2.2.2.2.2.2.2.2.2.1, D.2.2.2.2.2.2.2.2.2.2.1, D.2.2.2.2.2.2.2.2.2.2.2.1, D.2.2.2.2.2.2.2.2.2.2.2.2.1, D.2.2.2.2.2.2.2.2.2.2.2.2.2)
def d_setVal (D : DS) (v : (Nat → Nat)) : DS := (D.1, D.2.1, D.2.2.1, D.2.2.2.1, D.2.2.2.2.1, D.2.2.2.2.2.1, v, D.2.2.2.2.2.2.2.1, D.2.2.2.2.2.2.2.2.1, D.2.2.2.2.2.2.2.2.2.1, D.2.2.2.2.2.2.2.2.2.2.1, D.2.2.2.2.2.2.2.2.2.2.2.1, D.2.2.2.2.2.2.2.2.2.2.2.2.1, D.2.2.2.2.2.2.2.2.2.2.2.2.2)
def d_setBY (D : DS) (v : (Nat → Nat)) : DS := (D.1, D.2.1, D.2.2.1, D.2.2.2.1, D.2.2.2.2.1, D.2.2.2.2.2.1, D.2.2.2.2.2.2.1, v, D.2.2.2.2.2.2.2.2.1, D.2.2.2.2.2.2.2.2.2.1, D.2.2.2.2.2.2.2.2.2.2.1, D.2.2.2.2.2.2.2.2.2.2.2.1, D.2.2.2.2.2.2.2.2.2.2.2.2.1, D.2.2.2.2.2.2.2.2.2.2.2.2.2)
def d_setRof (D : DS) (v : (Nat → Int32)) : DS := (D.1, D.2.1, D.2.2.1, D.2.2.2.1, D.2.2.2.2.1, D.2.2.2.2.2.1, D.2.2.2.2.2.2.1, D.2.2.2.2.2.2.2.1, v, D.2.2.2.2.2.2.2.2.2.1, D.2.2.2.2.2.2.2.2.2.2.1, D.2.2.2.2.2.2.2.2.2.2.2.1, D.2.2.2.2.2.2.2.2.2.2.2.2.1, D.2.2.2.2.2.2.2.2.2.2.2.2.2)
def d_setSteps (D : DS) (v : Int32) : DS := (D.1, D.2.1, D.2.2.1, D.2.2.2.1, D.2.2.2.2.1, D.2.2.2.2.2.1, D.2.2.2.2.2.2.1, D.2.2.2.2.2.2.2.1, D.2.2.2.2.2.2.2.2.1, v, D.2.2.2.2.2.2.2.2.2.2.1, D.2.2.2.2.2.2.2.2.2.2.2.1, D.2.2.2.2.2.2.2.2.2.2.2.2.1, D.2.2.2.2.2.2.2.2.2.2.2.2.2)
def d_setResc (D : DS) (v : Int32) : DS := (D.1, D.2.1, D.2.2.1, D.2.2.2.1, D.2.2.2.2.1, D.2.2.2.2.2.1, D.2.2.2.2.2.2.1, D.2.2.2.2.2.2.2.1, D.2.2.2.2.2.2.2.2.1, D.2.2.2.2.2.2.2.2.2.1, v, D.2.2.2.2.2.2.2.2.2.2.2.1, D.2.2.2.2.2.2.2.2.2.2.2.2.1, D.2.2.2.2.2.2.2.2.2.2.2.2.2)
def d_setLoss (D : DS) (v : Int32) : DS := (D.1, D.2.1, D.2.2.1, D.2.2.2.1, D.2.2.2.2.1, D.2.2.2.2.2.1, D.2.2.2.2.2.2.1, D.2.2.2.2.2.2.2.1, D.2.2.2.2.2.2.2.2.1, D.2.2.2.2.2.2.2.2.2.1, D.2.2.2.2.2.2.2.2.2.2.1, v, D.2.2.2.2.2.2.2.2.2.2.2.2.1, D.2.2.2.2.2.2.2.2.2.2.2.2.2)
def d_setReads (D : DS) (v : Int32) : DS := (D.1, D.2.1, D.2.2.1, D.2.2.2.1, D.2.2.2.2.1, D.2.2.2.2.2.1, D.2.2.2.2.2.2.1, D.2.2.2.2.2.2.2.1, D.2.2.2.2.2.2.2.2.1, D.2.2.2.2.2.2.2.2.2.1, D.2.2.2.2.2.2.2.2.2.2.1, D.2.2.2.2.2.2.2.2.2.2.2.1, v, D.2.2.2.2.2.2.2.2.2.2.2.2.2)
def d_setWrites (D : DS) (v : Int32) : DS := (D.1, D.2.1, D.2.2.1, D.2.2.2.1, D.2.2.2.2.1, D.2.2.2.2.2.1, D.2.2.2.2.2.2.1, D.2.2.2.2.2.2.2.1, D.2.2.2.2.2.2.2.2.1, D.2.2.2.2.2.2.2.2.2.1, D.2.2.2.2.2.2.2.2.2.2.1, D.2.2.2.2.2.2.2.2.2.2.2.1, D.2.2.2.2.2.2.2.2.2.2.2.2.1, v)
/-! numbers -/
theorem nI_inj {a b : Nat} (ha : a < 2 ^ 31) (hb : b < 2 ^ 31) (h : nI a = nI b) : a = b := (nI_eq ha hb).mp h
theorem nI_pd {k : Nat} (h : k < 2 ^ 31) : nI k / 16 = nI (k / 16) := pk_div (d := 16) h (by omega) (by omega)
theorem nI_pm {k : Nat} (h : k < 2 ^ 31) : nI k - nI k / 16 * 16 = nI (k % 16) := pk_rem (d := 16) h (by omega) (by omega)
theorem nI_hp (h p : Nat) : nI h * 16 + nI p = nI (16 * h + p) := by
  have e : nI h * 16 = nI (h * 16) := pk_mul h 16
  rw [e, nI_add, Nat.mul_comm]
theorem nI_ph (h p : Nat) : 16 * nI h + nI p = nI (16 * h + p) := by
  have e : 16 * nI h = nI (16 * h) := pk_mul 16 h
  rw [e, nI_add]
theorem nI_ne5 {k : Nat} (h : k < 2 ^ 31) : ¬ nI k = -5 := fun e => by
  have h1 : (nI k).toInt = (-5 : Int32).toInt := by rw [e]
  rw [nI_toInt h] at h1
  have h2 : (-5 : Int32).toInt = -5 := by decide
  omega
theorem nI_lt0 {k : Nat} (h : k < 2 ^ 31) : ¬ nI k < 0 := nI_pos h
def adr (x : Int32) : Nat := if 0 ≤ x.toInt ∧ x.toInt < 64 then x.toInt.toNat else 64
theorem adr_nI {k : Nat} (h : k < 2 ^ 31) : adr (nI k) = if k < 64 then k else 64 := by
  unfold adr
  rw [nI_toInt h]
  by_cases c : k < 64
  · rw [if_pos (by omega), if_pos c]; omega
  · rw [if_neg (by omega), if_neg c]
theorem adr_lt {k : Nat} (h : k < 64) : adr (nI k) = k := by rw [adr_nI (by omega), if_pos h]
theorem adr_cases (x : Int32) : (∃ k : Nat, k < 64 ∧ x = nI k ∧ adr x = k) ∨ (adr x = 64 ∧ (x < 0 ∨ nI 64 ≤ x)) := by
  rcases pk_ix x (n := 64) (by omega) with h | h | ⟨k, hk, rfl⟩
  · refine Or.inr ⟨?_, Or.inl h⟩
    unfold adr
    rw [Int32.lt_iff_toInt_lt] at h
    have z : (0 : Int32).toInt = 0 := by decide
    rw [if_neg (by omega)]
  · refine Or.inr ⟨?_, Or.inr h⟩
    unfold adr
    rw [Int32.le_iff_toInt_le, nI_toInt (by omega)] at h
    rw [if_neg (by omega)]
  · exact Or.inl ⟨k, hk, rfl, adr_lt hk⟩
theorem adr_out {x : Int32} (h : x < 0 ∨ nI 64 ≤ x) : ¬ x < 0 → nI 64 ≤ x := fun q => h.elim (fun z => absurd z q) id
/-! searching and counting -/
def fnd (P : Nat → Bool) : Nat → Nat → Option Nat
  | 0, _ => none
  | m + 1, p => if P p = true then some p else fnd P m (p + 1)
def cnt (P : Nat → Bool) : Nat → Nat → Nat
  | 0, _ => 0
  | m + 1, p => (if P p = true then 1 else 0) + cnt P m (p + 1)
theorem fnd_some {P : Nat → Bool} {x : Nat} : ∀ {m p : Nat}, fnd P m p = some x → p ≤ x ∧ x < p + m ∧ P x = true ∧ ∀ y, p ≤ y → y < x → P y = false := by
  intro m
  induction m with
  | zero => intro p h; cases h
  | succ m ih =>
    intro p h
    unfold fnd at h
    by_cases c : P p = true
    · rw [if_pos c] at h
      cases h
      exact ⟨Nat.le_refl _, by omega, c, fun y h1 h2 => absurd h1 (by omega)⟩
    · rw [if_neg c] at h
      obtain ⟨h1, h2, h3, h4⟩ := ih h
      refine ⟨by omega, by omega, h3, fun y g1 g2 => ?_⟩
      by_cases e : y = p
      · rw [e]; simpa using c
      · exact h4 y (by omega) g2
theorem fnd_none {P : Nat → Bool} : ∀ {m p : Nat}, fnd P m p = none → ∀ y, p ≤ y → y < p + m → P y = false := by
  intro m
  induction m with
  | zero => intro p _ y h1 h2; omega
  | succ m ih =>
    intro p h y g1 g2
    unfold fnd at h
    by_cases c : P p = true
    · rw [if_pos c] at h; cases h
    · rw [if_neg c] at h
      by_cases e : y = p
      · rw [e]; simpa using c
      · exact ih h y (by omega) (by omega)
theorem fnd_is {P : Nat → Bool} {x : Nat} : ∀ {m p : Nat}, p ≤ x → x < p + m → P x = true → (∀ y, p ≤ y → y < x → P y = false) → fnd P m p = some x := by
  intro m
  induction m with
  | zero => intro p h1 h2; omega
  | succ m ih =>
    intro p h1 h2 h3 h4
    unfold fnd
    by_cases e : p = x
    · rw [e, if_pos h3]
    · rw [if_neg (by rw [h4 p (Nat.le_refl _) (by omega)]; simp)]
      exact ih (by omega) (by omega) h3 (fun y g1 g2 => h4 y (by omega) g2)
theorem fnd_no {P : Nat → Bool} : ∀ {m p : Nat}, (∀ y, p ≤ y → y < p + m → P y = false) → fnd P m p = none := by
  intro m
  induction m with
  | zero => intro p _; rfl
  | succ m ih =>
    intro p h
    unfold fnd
    rw [if_neg (by rw [h p (Nat.le_refl _) (by omega)]; simp)]
    exact ih (fun y g1 g2 => h y (by omega) (by omega))
theorem fnd_cong {P Q : Nat → Bool} : ∀ {m p : Nat}, (∀ y, p ≤ y → y < p + m → P y = Q y) → fnd P m p = fnd Q m p := by
  intro m
  induction m with
  | zero => intro p _; rfl
  | succ m ih =>
    intro p h
    unfold fnd
    rw [h p (Nat.le_refl _) (by omega), ih (fun y g1 g2 => h y (by omega) (by omega))]
theorem cnt_cong {P Q : Nat → Bool} : ∀ {m p : Nat}, (∀ y, p ≤ y → y < p + m → P y = Q y) → cnt P m p = cnt Q m p := by
  intro m
  induction m with
  | zero => intro p _; rfl
  | succ m ih =>
    intro p h
    unfold cnt
    rw [h p (Nat.le_refl _) (by omega), ih (fun y g1 g2 => h y (by omega) (by omega))]
theorem cnt_le {P : Nat → Bool} : ∀ {m p : Nat}, cnt P m p ≤ m := by
  intro m
  induction m with
  | zero => intro p; exact Nat.le_refl _
  | succ m ih =>
    intro p
    unfold cnt
    have := ih (p := p + 1)
    split <;> omega
theorem cnt_add {P : Nat → Bool} (n : Nat) : ∀ {m p : Nat}, cnt P (m + n) p = cnt P m p + cnt P n (p + m) := by
  intro m
  induction m with
  | zero => intro p; simp [cnt]
  | succ m ih =>
    intro p
    rw [show m + 1 + n = (m + n) + 1 by omega, cnt, cnt, ih, show p + 1 + m = p + (m + 1) by omega]
    omega
def co : Option Nat → Int32
  | none => -5
  | some x => nI x
/-! what a state means -/
def isSp (sp : Nat → Nat) (s : Nat) : Bool := decide (16 ≤ s % 16 + sp (s / 16))
def isAd (sp : Nat → Nat) (a : Nat) : Bool := decide (a < 64) && !isSp sp a
def cli (sp bY : Nat → Nat) (s : Nat) : Option Nat := fnd (fun a => isAd sp a && decide (bY a = s)) 64 0
def srv (sp bY : Nat → Nat) (s : Nat) : Option Nat := if isAd sp s = true ∧ bY s < 64 then some (bY s) else none
def freeS (lim : Nat) (sp : Nat → Nat) (giv : Nat → Bool) (wear bY : Nat → Nat) (s : Nat) : Bool := isSp sp s && (cli sp bY s).isNone && decide (wear s < lim) && !giv (s / 16)
def fr (D : DS) : Nat → Bool := freeS (d_lim D) (d_sp D) (d_giv D) (d_wear D) (d_bY D)
def ffH (D : DS) (h : Nat) : Option Nat := fnd (fr D) 16 (16 * h)
def nFr (D : DS) (h : Nat) : Nat := cnt (fr D) 16 (16 * h)
def bestH (f : Nat → Nat) : Nat → Nat → Nat → Nat
  | 0, _, b => b
  | m + 1, h, b => bestH f m (h + 1) (if f b < f h then h else b)
def lendD (D : DS) (a : Nat) : Option Nat := match ffH D (a / 16) with
  | some x => some x
  | none => ffH D (bestH (nFr D) 3 1 0)
theorem isAd_lt {sp : Nat → Nat} {a : Nat} (h : isAd sp a = true) : a < 64 := by
  unfold isAd at h; simp at h; exact h.1
theorem isAd_sp {sp : Nat → Nat} {a : Nat} (h : isAd sp a = true) : isSp sp a = false := by
  unfold isAd at h; simp at h; exact h.2
theorem isAd_of {sp : Nat → Nat} {a : Nat} (h : a < 64) (h2 : isSp sp a = false) : isAd sp a = true := by
  unfold isAd; simp [h, h2]
theorem isAd_64 {sp : Nat → Nat} {a : Nat} (h : 64 ≤ a) : isAd sp a = false := by
  unfold isAd; simp; omega
theorem bestH_lt {f : Nat → Nat} : ∀ {m h b : Nat}, b < 4 → h + m ≤ 4 → bestH f m h b < 4 := by
  intro m
  induction m with
  | zero => intro h b hb _; exact hb
  | succ m ih =>
    intro h b hb hh
    unfold bestH
    exact ih (by split <;> omega) (by omega)
theorem lendD_some {D : DS} {a x : Nat} (ha : a < 64) (h : lendD D a = some x) : x < 64 ∧ fr D x = true := by
  unfold lendD at h
  cases e : ffH D (a / 16) with
  | some y =>
    rw [e] at h
    cases h
    obtain ⟨h1, h2, h3, -⟩ := fnd_some e
    exact ⟨by omega, h3⟩
  | none =>
    rw [e] at h
    obtain ⟨h1, h2, h3, -⟩ := fnd_some h
    have := bestH_lt (f := nFr D) (m := 3) (h := 1) (b := 0) (by omega) (by omega)
    exact ⟨by omega, h3⟩
theorem cli_some {sp bY : Nat → Nat} {s a : Nat} (h : cli sp bY s = some a) : isAd sp a = true ∧ bY a = s := by
  obtain ⟨-, -, h3, -⟩ := fnd_some h
  simp at h3
  exact h3
theorem cli_none {sp bY : Nat → Nat} {s a : Nat} (h : cli sp bY s = none) (ha : isAd sp a = true) : bY a ≠ s := by
  have h1 := fnd_none h a (Nat.zero_le _) (by have := isAd_lt ha; omega)
  simp [ha] at h1
  exact h1
theorem cli_is {sp bY : Nat → Nat} {s a : Nat} (hinj : ∀ x y, isAd sp x = true → isAd sp y = true → bY x = bY y → bY x < 64 → x = y) (hs : s < 64) (ha : isAd sp a = true) (hb : bY a = s) : cli sp bY s = some a := by
  cases e : cli sp bY s with
  | none => exact absurd hb (cli_none e ha)
  | some c =>
    obtain ⟨h1, h2⟩ := cli_some e
    rw [hinj c a h1 ha (h2.trans hb.symm) (by omega)]
theorem cli_no {sp bY : Nat → Nat} {s : Nat} (h : ∀ a, isAd sp a = true → bY a ≠ s) : cli sp bY s = none := by
  refine fnd_no (fun y _ _ => ?_)
  cases e : isAd sp y with
  | false => rfl
  | true => simp [h y e]
theorem fr_iff {D : DS} {s : Nat} : fr D s = true ↔ isSp (d_sp D) s = true ∧ cli (d_sp D) (d_bY D) s = none ∧ d_wear D s < d_lim D ∧ d_giv D (s / 16) = false := by
  unfold fr freeS
  simp only [Bool.and_eq_true, decide_eq_true_eq, Bool.not_eq_true', Option.isNone_iff_eq_none, and_assoc]
/-! the class's state -/
def RelC (D : DS) (σ : HS) : Prop :=
  hs_limit σ = nI (d_lim D) ∧ hs_arm σ = nI (d_arm D) ∧ (∀ h, h < 4 → hs_ageing σ h = nI (d_age D h)) ∧ (∀ h, h < 4 → hs_spares σ h = nI (d_sp D h)) ∧ (∀ h, h < 4 → hs_givenUp σ h = bi (d_giv D h)) ∧
  (∀ s, s < 64 → hs_wear σ s = nI (d_wear D s)) ∧ (∀ s, s < 64 → hs_value σ s = nI (d_val D s)) ∧ (∀ s, s < 64 → hs_rescuesOf σ s = d_rof D s) ∧ (∀ s, s < 64 → hs_server σ s = co (srv (d_sp D) (d_bY D) s)) ∧ (∀ s, s < 64 → hs_client σ s = co (cli (d_sp D) (d_bY D) s)) ∧
  hs_steps σ = d_steps D ∧ hs_rescues σ = d_resc D ∧ hs_losses σ = d_loss D ∧ hs_reads σ = d_reads D ∧ hs_writes σ = d_writes D
theorem RelC.lim {D : DS} {σ : HS} (h : RelC D σ) : hs_limit σ = nI (d_lim D) := h.1
theorem RelC.arm {D : DS} {σ : HS} (h : RelC D σ) : hs_arm σ = nI (d_arm D) := h.2.1
theorem RelC.age {D : DS} {σ : HS} (h : RelC D σ) : ∀ j, j < 4 → hs_ageing σ j = nI (d_age D j) := h.2.2.1
theorem RelC.sp {D : DS} {σ : HS} (h : RelC D σ) : ∀ j, j < 4 → hs_spares σ j = nI (d_sp D j) := h.2.2.2.1
theorem RelC.giv {D : DS} {σ : HS} (h : RelC D σ) : ∀ j, j < 4 → hs_givenUp σ j = bi (d_giv D j) := h.2.2.2.2.1
theorem RelC.wear {D : DS} {σ : HS} (h : RelC D σ) : ∀ s, s < 64 → hs_wear σ s = nI (d_wear D s) := h.2.2.2.2.2.1
theorem RelC.val {D : DS} {σ : HS} (h : RelC D σ) : ∀ s, s < 64 → hs_value σ s = nI (d_val D s) := h.2.2.2.2.2.2.1
theorem RelC.rof {D : DS} {σ : HS} (h : RelC D σ) : ∀ s, s < 64 → hs_rescuesOf σ s = d_rof D s := h.2.2.2.2.2.2.2.1
theorem RelC.srv {D : DS} {σ : HS} (h : RelC D σ) : ∀ s, s < 64 → hs_server σ s = co (srv (d_sp D) (d_bY D) s) := h.2.2.2.2.2.2.2.2.1
theorem RelC.cli {D : DS} {σ : HS} (h : RelC D σ) : ∀ s, s < 64 → hs_client σ s = co (cli (d_sp D) (d_bY D) s) := h.2.2.2.2.2.2.2.2.2.1
theorem RelC.cnts {D : DS} {σ : HS} (h : RelC D σ) : hs_steps σ = d_steps D ∧ hs_rescues σ = d_resc D ∧ hs_losses σ = d_loss D ∧ hs_reads σ = d_reads D ∧ hs_writes σ = d_writes D := h.2.2.2.2.2.2.2.2.2.2
/-! the bounds that every state keeps -/
def Bw (D : DS) : Prop :=
  (1 ≤ d_lim D ∧ d_lim D ≤ 999) ∧ d_arm D < 64 ∧ (∀ h, h < 4 → 1 ≤ d_age D h ∧ d_age D h ≤ 9) ∧ (∀ h, h < 4 → 1 ≤ d_sp D h ∧ d_sp D h ≤ 6) ∧ (∀ s, s < 64 → d_wear D s ≤ 2015) ∧ (∀ s, s < 64 → d_val D s ≤ 999) ∧
  (∀ x y, isAd (d_sp D) x = true → isAd (d_sp D) y = true → d_bY D x = d_bY D y → d_bY D x < 64 → x = y)
theorem Bw.lim {D : DS} (h : Bw D) : 1 ≤ d_lim D ∧ d_lim D ≤ 999 := h.1
theorem Bw.arm {D : DS} (h : Bw D) : d_arm D < 64 := h.2.1
theorem Bw.age {D : DS} (h : Bw D) : ∀ j, j < 4 → 1 ≤ d_age D j ∧ d_age D j ≤ 9 := h.2.2.1
theorem Bw.sp {D : DS} (h : Bw D) : ∀ j, j < 4 → 1 ≤ d_sp D j ∧ d_sp D j ≤ 6 := h.2.2.2.1
theorem Bw.wear {D : DS} (h : Bw D) : ∀ s, s < 64 → d_wear D s ≤ 2015 := h.2.2.2.2.1
theorem Bw.val {D : DS} (h : Bw D) : ∀ s, s < 64 → d_val D s ≤ 999 := h.2.2.2.2.2.1
theorem Bw.inj {D : DS} (h : Bw D) : ∀ x y, isAd (d_sp D) x = true → isAd (d_sp D) y = true → d_bY D x = d_bY D y → d_bY D x < 64 → x = y := h.2.2.2.2.2.2
/-- ... and: what serves an address is of a head that isn't given up, and its own or a spare one -/
def Bd (D : DS) : Prop := Bw D ∧ ∀ a, isAd (d_sp D) a = true → d_bY D a < 64 → d_giv D (d_bY D a / 16) = false ∧ (d_bY D a = a ∨ isSp (d_sp D) (d_bY D a) = true)
theorem Bd.lim {D : DS} (h : Bd D) : 1 ≤ d_lim D ∧ d_lim D ≤ 999 := h.1.lim
theorem Bd.arm {D : DS} (h : Bd D) : d_arm D < 64 := h.1.arm
theorem Bd.age {D : DS} (h : Bd D) : ∀ j, j < 4 → 1 ≤ d_age D j ∧ d_age D j ≤ 9 := h.1.age
theorem Bd.sp {D : DS} (h : Bd D) : ∀ j, j < 4 → 1 ≤ d_sp D j ∧ d_sp D j ≤ 6 := h.1.sp
theorem Bd.wear {D : DS} (h : Bd D) : ∀ s, s < 64 → d_wear D s ≤ 2015 := h.1.wear
theorem Bd.val {D : DS} (h : Bd D) : ∀ s, s < 64 → d_val D s ≤ 999 := h.1.val
theorem Bd.inj {D : DS} (h : Bd D) : ∀ x y, isAd (d_sp D) x = true → isAd (d_sp D) y = true → d_bY D x = d_bY D y → d_bY D x < 64 → x = y := h.1.inj
theorem Bd.ser {D : DS} (h : Bd D) : ∀ a, isAd (d_sp D) a = true → d_bY D a < 64 → d_giv D (d_bY D a / 16) = false ∧ (d_bY D a = a ∨ isSp (d_sp D) (d_bY D a) = true) := h.2
