/-! the class: taking over, dividing anew, what it tells -/
theorem cpy_at {f g : Nat → Int32} {n s : Nat} (h : s < n) : va_cpy f g 0 0 n s = f s := by
  unfold va_cpy
  simp [h]
theorem relC_mk {D : DS} {l ar st re lo rd wr : Int32} {ag sp gi we va ro sv cl : Nat → Int32} (h1 : l = nI (d_lim D)) (h2 : ar = nI (d_arm D)) (h3 : ∀ h, h < 4 → ag h = nI (d_age D h)) (h4 : ∀ h, h < 4 → sp h = nI (d_sp D h)) (h5 : ∀ h, h < 4 → gi h = bi (d_giv D h)) (h6 : ∀ s, s < 64 → we s = nI (d_wear D s)) (h7 : ∀ s, s < 64 → va s = nI (d_val D s)) (h8 : ∀ s, s < 64 → ro s = d_rof D s) (h9 : ∀ s, s < 64 → sv s = co (srv (d_sp D) (d_bY D) s)) (h10 : ∀ s, s < 64 → cl s = co (cli (d_sp D) (d_bY D) s)) (h11 : st = d_steps D ∧ re = d_resc D ∧ lo = d_loss D ∧ rd = d_reads D ∧ wr = d_writes D) : RelC D (l, ag, sp, gi, we, va, ro, sv, cl, ar, st, re, lo, rd, wr) := ⟨h1, h2, h3, h4, h5, h6, h7, h8, h9, h10, h11⟩
section CU
variable {D : DS} {σ τ : HS}
theorem kC_takeOver (R : RelC D τ) {post : HS → Prop} (h : ∀ σ', RelC D σ' → post σ') : wpX1_takeOver σ τ post := by
  unfold wpX1_takeOver
  refine ⟨fun i hi => ?_, h _ ?_⟩
  · rw [R.giv i hi]; cases d_giv D i
    · exact Or.inl rfl
    · exact Or.inr rfl
  · dsimp only [hs_setLimit, hs_setAgeing, hs_setSpares, hs_setGivenUp, hs_setWear, hs_setValue, hs_setRescuesOf, hs_setServer, hs_setClient, hs_setArm, hs_setSteps, hs_setRescues, hs_setLosses, hs_setReads, hs_setWrites]
    exact relC_mk R.lim R.arm (fun j hj => (cpy_at hj).trans (R.age j hj)) (fun j hj => (cpy_at hj).trans (R.sp j hj)) (fun j hj => (cpy_at hj).trans (R.giv j hj)) (fun j hj => (cpy_at hj).trans (R.wear j hj)) (fun j hj => (cpy_at hj).trans (R.val j hj)) (fun j hj => (cpy_at hj).trans (R.rof j hj)) (fun j hj => (cpy_at hj).trans (R.srv j hj)) (fun j hj => (cpy_at hj).trans (R.cli j hj)) R.cnts
theorem wearH_zero {h : Nat} (e : wearH D h = 0) {s : Nat} (hs : s / 16 = h) : d_wear D s = 0 := sm_zero e s (by omega) (by omega)
/-- the addresses of a head without wear serve themselves -/
theorem Inv.fresh (I : Inv D) {h : Nat} (e : wearH D h = 0) (hg : d_giv D h = false) {s : Nat} (hs : s < 64) (hh : s / 16 = h) : d_bY D s = s := by
  rcases I.2.2 s hs with q | q | q
  · exact q
  · rw [wearH_zero e hh] at q; omega
  · rw [hh, hg] at q; cases q
/-- and no other address is served by them -/
theorem Inv.alone (I : Inv D) {h : Nat} (e : wearH D h = 0) {a : Nat} (ha : isAd (d_sp D) a = true) (hb : d_bY D a < 64) (hh : d_bY D a / 16 = h) : d_bY D a = a := by
  rcases (I.2.1 a ha hb).2 with q | q
  · exact q
  · rw [wearH_zero e hh] at q; omega
theorem isSp_up {sp : Nat → Nat} {h n s : Nat} (c : s / 16 ≠ h) : isSp (va_up sp h n) s = isSp sp s := by
  unfold isSp; rw [up_ne _ _ c]
theorem isAd_up {sp : Nat → Nat} {h n s : Nat} (c : s / 16 ≠ h) : isAd (va_up sp h n) s = isAd sp s := by
  unfold isAd; rw [isSp_up c]
theorem srv_divide (I : Inv D) {h n : Nat} (e : wearH D h = 0) (hg : d_giv D h = false) {s : Nat} (hs : s < 64) : srv (va_up (d_sp D) h n) (d_bY D) s = if s / 16 = h then (if isAd (va_up (d_sp D) h n) s = true then some s else none) else srv (d_sp D) (d_bY D) s := by
  unfold srv
  by_cases c : s / 16 = h
  · rw [if_pos c, I.fresh e hg hs c]
    by_cases q : isAd (va_up (d_sp D) h n) s = true
    · rw [if_pos q, if_pos ⟨q, hs⟩]
    · rw [if_neg q, if_neg (fun z => q z.1)]
  · rw [if_neg c, isAd_up c]
theorem cli_divide (I : Inv D) {h n : Nat} (e : wearH D h = 0) (hg : d_giv D h = false) {s : Nat} (hs : s < 64) : cli (va_up (d_sp D) h n) (d_bY D) s = if s / 16 = h then (if isAd (va_up (d_sp D) h n) s = true then some s else none) else cli (d_sp D) (d_bY D) s := by
  by_cases c : s / 16 = h
  · rw [if_pos c]
    have key : ∀ b, isAd (va_up (d_sp D) h n) b = true → d_bY D b = s → b = s := by
      intro b hb hbs
      by_cases cb : b / 16 = h
      · rw [I.fresh e hg (isAd_lt hb) cb] at hbs; exact hbs
      · rw [isAd_up cb] at hb
        exact (I.alone e hb (by omega) (by rw [hbs]; exact c)).symm.trans hbs
    by_cases q : isAd (va_up (d_sp D) h n) s = true
    · rw [if_pos q]
      exact cli_eq q (I.fresh e hg hs c) key
    · rw [if_neg q]
      exact cli_no (fun b hb hbs => q (key b hb hbs ▸ hb))
  · rw [if_neg c]
    unfold cli
    refine fnd_cong (fun y _ _ => ?_)
    by_cases cy : y / 16 = h
    · by_cases y64 : y < 64
      · rw [I.fresh e hg y64 cy, decide_eq_false (by omega), Bool.and_false, Bool.and_false]
      · rw [isAd_64 (by omega), isAd_64 (by omega)]
    · rw [isAd_up cy]
theorem Inv.setSp (I : Inv D) {h n : Nat} (e : wearH D h = 0) (hg : d_giv D h = false) (hn : 1 ≤ n ∧ n ≤ 6) : Inv (d_setSp D (va_up (d_sp D) h n)) := by
  have key : ∀ b, isAd (va_up (d_sp D) h n) b = true → d_bY D b = b ∧ b / 16 = h ∨ b / 16 ≠ h ∧ isAd (d_sp D) b = true := by
    intro b hb
    by_cases cb : b / 16 = h
    · exact Or.inl ⟨I.fresh e hg (isAd_lt hb) cb, cb⟩
    · rw [isAd_up cb] at hb; exact Or.inr ⟨cb, hb⟩
  have off : ∀ b, b / 16 ≠ h → isAd (d_sp D) b = true → d_bY D b < 64 → d_bY D b / 16 ≠ h := fun b c1 c2 c3 c4 => c1 (by rw [I.alone e c2 c3 c4] at c4; exact c4)
  refine ⟨⟨?_, ?_⟩, ?_⟩
  · unfold Bw
    simp only [a_setSp]
    refine ⟨I.1.lim, I.1.arm, I.1.age, fun j hj => ?_, I.1.wear, I.1.val, fun x y hx hy exy h64 => ?_⟩
    · by_cases c : j = h
      · rw [c, up_eq]; exact hn
      · rw [up_ne _ _ c]; exact I.1.sp j hj
    · rcases key x hx with ⟨q1, q2⟩ | ⟨q1, q2⟩ <;> rcases key y hy with ⟨w1, w2⟩ | ⟨w1, w2⟩
      · rw [q1, w1] at exy; exact exy
      · exact absurd (by rw [← exy, q1]; exact q2) (off y w1 w2 (by omega))
      · exact absurd (by rw [exy, w1]; exact w2) (off x q1 q2 h64)
      · exact I.1.inj x y q2 w2 exy h64
  · simp only [a_setSp]
    intro a ha h64
    rcases key a ha with ⟨q1, q2⟩ | ⟨q1, q2⟩
    · rw [q1, q2]; exact ⟨hg, Or.inl rfl⟩
    · rw [isSp_up (off a q1 q2 h64)]
      exact I.1.ser a q2 h64
  · unfold Tg
    simp only [a_setSp]
    refine ⟨fun a ha h64 => ?_, I.2.2⟩
    rcases key a ha with ⟨q1, q2⟩ | ⟨q1, q2⟩
    · rw [q1, wearH_zero e q2]; exact ⟨by omega, Or.inl rfl⟩
    · exact I.2.1 a q2 h64
theorem Inv.setLim (I : Inv D) {v : Nat} (h : 1 ≤ v ∧ v ≤ 999) : Inv (d_setLim D v) := ⟨⟨⟨h, I.1.1.2⟩, I.1.2⟩, I.2⟩
theorem Inv.setAge (I : Inv D) {h v : Nat} (hv : 1 ≤ v ∧ v ≤ 9) : Inv (d_setAge D (va_up (d_age D) h v)) := by
  refine ⟨⟨⟨I.1.lim, I.1.arm, fun j hj => ?_, I.1.1.2.2.2⟩, I.1.2⟩, I.2⟩
  show 1 ≤ va_up (d_age D) h v j ∧ va_up (d_age D) h v j ≤ 9
  by_cases c : j = h
  · rw [c, up_eq]; exact hv
  · rw [up_ne _ _ c]; exact I.1.age j hj
def addrR (D : DS) (a : Nat) (w : Int32) : Int32 := if w = 0 then (if d_bY D a < 64 then nI (d_val D a) else -5) else if w = 1 then co (srv (d_sp D) (d_bY D) a) else if w = 2 then (if d_bY D a < 64 ∧ d_bY D a ≠ a then 1 else 0) else if w = 3 then co (lendD D a) else if w = 4 then (if d_bY D a < 64 then nI (stepsD D a) else -5) else if w = 5 then d_rof D a else -2
theorem kC_tellAddress (R : RelC D σ) (B : Bw D) {a : Nat} (ha : isAd (d_sp D) a = true) {w : Int32} {post : Int32 → Prop} (hp : post (addrR D a w)) : wpX1_tellAddress σ (nI a) w post := by
  have hl := isAd_lt ha
  unfold wpX1_tellAddress
  unfold addrR at hp
  refine ⟨fun e => ?_, fun e => ?_, fun e => ?_, fun e => ?_, fun e => ?_, fun e => ?_, fun e0 e1 e2 e3 e4 e5 => ?_⟩
  · rw [if_pos e] at hp
    refine kC_lostN R ha (fun q => ?_) (fun q => ?_)
    · rw [if_neg (by omega)] at hp; exact ⟨fun _ => hp, fun z => (by cases z)⟩
    · rw [if_pos q] at hp
      refine ⟨fun z => (by cases z), fun _ => ⟨pk_in a 64 hl, ?_⟩⟩
      rw [nI_clamp (by omega), R.val a hl]; exact hp
  · rw [e, if_neg (by decide), if_pos rfl] at hp
    refine ⟨pk_in a 64 hl, ?_⟩
    rw [nI_clamp (by omega), R.srv a hl]; exact hp
  · rw [e, if_neg (by decide), if_neg (by decide), if_pos rfl] at hp
    refine kC_isLongWay R ha ⟨fun q => ?_, fun q => ?_⟩
    · rw [if_pos (of_decide_eq_true q)] at hp; exact hp
    · rw [if_neg (of_decide_eq_false q)] at hp; exact hp
  · rw [e, if_neg (by decide), if_neg (by decide), if_neg (by decide), if_pos rfl] at hp
    exact kC_lendableTo R B hl hp
  · rw [e, if_neg (by decide), if_neg (by decide), if_neg (by decide), if_neg (by decide), if_pos rfl] at hp
    refine kC_lostN R ha (fun q => ?_) (fun q => ?_)
    · rw [if_neg (by omega)] at hp; exact ⟨fun _ => hp, fun z => (by cases z)⟩
    · rw [if_pos q] at hp
      exact ⟨fun z => (by cases z), fun _ => kC_stepsTo R B ha q hp⟩
  · rw [e, if_neg (by decide), if_neg (by decide), if_neg (by decide), if_neg (by decide), if_neg (by decide), if_pos rfl] at hp
    refine ⟨pk_in a 64 hl, ?_⟩
    rw [nI_clamp (by omega), R.rof a hl]; exact hp
  · rw [if_neg e0, if_neg e1, if_neg e2, if_neg e3, if_neg e4, if_neg e5] at hp; exact hp
def secR (D : DS) (s : Nat) (w : Int32) : Int32 := if w = 0 then nI (d_wear D s) else if w = 1 then nI (gradeN D s) else if w = 2 then (if isAd (d_sp D) s = true then 0 else 1) else if w = 3 then co (cli (d_sp D) (d_bY D) s) else if w = 4 then (if fr D s = true then 1 else 0) else -2
theorem kC_tellSector (R : RelC D σ) (B : Bw D) {s : Nat} (hs : s < 64) {w : Int32} {post : Int32 → Prop} (hp : post (secR D s w)) : wpX1_tellSector σ (nI s) w post := by
  unfold wpX1_tellSector
  unfold secR at hp
  refine ⟨fun e => ?_, fun e => ?_, fun e => ?_, fun e => ?_, fun e => ?_, fun e0 e1 e2 e3 e4 => ?_⟩
  · rw [if_pos e] at hp
    refine ⟨pk_in s 64 hs, ?_⟩
    rw [nI_clamp (by omega), R.wear s hs]; exact hp
  · rw [e, if_neg (by decide), if_pos rfl] at hp
    exact kC_gradeOf R B hs hp
  · rw [e, if_neg (by decide), if_neg (by decide), if_pos rfl] at hp
    refine kC_isAdN R B (by omega) ⟨fun q => ?_, fun q => ?_⟩
    · rw [if_pos q] at hp; exact hp
    · rw [if_neg (by rw [q]; simp)] at hp; exact hp
  · rw [e, if_neg (by decide), if_neg (by decide), if_neg (by decide), if_pos rfl] at hp
    refine ⟨pk_in s 64 hs, ?_⟩
    rw [nI_clamp (by omega), R.cli s hs]; exact hp
  · rw [e, if_neg (by decide), if_neg (by decide), if_neg (by decide), if_neg (by decide), if_pos rfl] at hp
    refine kC_isFree R B hs ⟨fun q => ?_, fun q => ?_⟩
    · rw [if_pos q] at hp; exact hp
    · rw [if_neg (by rw [q]; simp)] at hp; exact hp
  · rw [if_neg e0, if_neg e1, if_neg e2, if_neg e3, if_neg e4] at hp; exact hp
def elsQ (q : Nat → Option Nat) (h s : Nat) : Bool := match q s with
  | some x => !decide (x / 16 = h)
  | none => false
theorem kC_leading {f : Nat → Int32} {q : Nat → Option Nat} (hf : ∀ s, s < 64 → f s = co (q s)) (hq : ∀ s x, q s = some x → x < 64) {h : Nat} (hh : h < 4) {post : Int32 → Prop} (hp : post (nI (cnt (elsQ q h) 16 (16 * h)))) : wpX1_leadingElsewhere f (nI h) post := by
  have L : ∀ (m p c : Nat), p + m = 16 → post (nI (c + cnt (elsQ q h) m (16 * h + p))) → wpX1_leadingElsewhere_L5 f (nI h) post (m + 1) (nI c) (nI p) := by
    intro m
    induction m with
    | zero =>
      intro p c e hp
      rw [wpX1_leadingElsewhere_L5]
      exact pk_le 16 p (fun _ => hp) (fun q => absurd q (by omega))
    | succ m ih =>
      intro p c e hp
      rw [wpX1_leadingElsewhere_L5]
      refine pk_le 16 p (fun q => absurd q (by omega)) (fun _ => ?_)
      rw [nI_hp]
      refine ⟨pk_in (16 * h + p) 64 (by omega), ?_⟩
      rw [nI_clamp (by omega), hf _ (by omega), nI_1]
      unfold cnt at hp
      have skip : elsQ q h (16 * h + p) = false → wpX1_leadingElsewhere_L5 f (nI h) post (m + 1) (nI c) (nI (p + 1)) := fun z => by
        rw [if_neg (by rw [z]; simp), Nat.zero_add] at hp
        exact ih (p + 1) c (by omega) hp
      cases eq : q (16 * h + p) with
      | none =>
        exact ⟨fun _ => skip (by unfold elsQ; rw [eq]), fun z => absurd rfl z⟩
      | some x =>
        have hx := hq _ x eq
        refine ⟨fun z => absurd z (co_ne (by omega)), fun _ => ?_⟩
        show wpX3_headOf (nI x) _
        refine kS_headOf (by omega) (pk_eq (x / 16) h (fun z => ?_) (fun z => ?_))
        · exact skip (by unfold elsQ; rw [eq]; show (!decide (x / 16 = h)) = false; rw [decide_eq_true z]; rfl)
        · rw [if_pos (by unfold elsQ; rw [eq]; show (!decide (x / 16 = h)) = true; rw [decide_eq_false z]; rfl)] at hp
          rw [nI_1]
          exact ih (p + 1) (c + 1) (by omega) (by rw [show c + 1 + cnt (elsQ q h) m (16 * h + (p + 1)) = c + (1 + cnt (elsQ q h) m (16 * h + p + 1)) by rw [Nat.add_assoc]; rfl]; exact hp)
  unfold wpX1_leadingElsewhere
  exact ⟨17, L 16 0 0 rfl (by rw [Nat.zero_add]; exact hp)⟩
def gradH (D : DS) (h g : Nat) : Nat := cnt (fun s => decide (gradeN D s = g)) 16 (16 * h)
theorem gradeN_le (D : DS) (s : Nat) : gradeN D s ≤ 2 := by unfold gradeN; split <;> (try split) <;> omega
theorem kC_gradedOf (R : RelC D σ) (B : Bw D) {h g : Nat} (hh : h < 4) (hg : g < 3) {post : Int32 → Prop} (hp : post (nI (gradH D h g))) : wpX1_gradedOf σ (nI h) (nI g) post := by
  have L : ∀ (m p c : Nat), p + m = 16 → post (nI (c + cnt (fun s => decide (gradeN D s = g)) m (16 * h + p))) → wpX1_gradedOf_L5 σ (nI h) (nI g) post (m + 1) (nI c) (nI p) := by
    intro m
    induction m with
    | zero =>
      intro p c e hp
      rw [wpX1_gradedOf_L5]
      exact pk_le 16 p (fun _ => hp) (fun q => absurd q (by omega))
    | succ m ih =>
      intro p c e hp
      rw [wpX1_gradedOf_L5]
      refine pk_le 16 p (fun q => absurd q (by omega)) (fun _ => ?_)
      rw [nI_hp]
      unfold cnt at hp
      have := gradeN_le D (16 * h + p)
      refine kC_gradeOf R B (by omega) (pk_eq (gradeN D (16 * h + p)) g (fun q => ?_) (fun q => ?_))
      · rw [nI_1, nI_1]
        rw [if_pos (decide_eq_true q)] at hp
        exact ih (p + 1) (c + 1) (by omega) (by rw [show c + 1 + cnt (fun s => decide (gradeN D s = g)) m (16 * h + (p + 1)) = c + (1 + cnt (fun s => decide (gradeN D s = g)) m (16 * h + p + 1)) by rw [Nat.add_assoc]; rfl]; exact hp)
      · rw [nI_1]
        rw [if_neg (by rw [decide_eq_false q]; simp), Nat.zero_add] at hp
        exact ih (p + 1) c (by omega) hp
  unfold wpX1_gradedOf
  exact ⟨17, L 16 0 0 rfl (by rw [Nat.zero_add]; exact hp)⟩
theorem srv_lt {sp bY : Nat → Nat} {s x : Nat} (h : srv sp bY s = some x) : x < 64 := by
  unfold srv at h
  split at h
  · rename_i q; cases h; exact q.2
  · cases h
def headR (D : DS) (h : Nat) (w : Int32) : Int32 := if w = 0 then nI (d_age D h) else if w = 1 then nI (d_sp D h) else if w = 2 then nI (nFr D h) else if w = 3 then bi (d_giv D h) else if w = 4 then nI (cnt (elsQ (cli (d_sp D) (d_bY D)) h) 16 (16 * h)) else if w = 5 then nI (cnt (elsQ (srv (d_sp D) (d_bY D)) h) 16 (16 * h)) else if w = 6 then nI (lostH D h) else if w = 7 then nI (wearH D h) else if w = 8 then nI (gradH D h 1) else if w = 9 then nI (gradH D h 2) else -2
theorem kC_tellHead (R : RelC D σ) (B : Bw D) {h : Nat} (hh : h < 4) {w : Int32} {post : Int32 → Prop} (hp : post (headR D h w)) : wpX1_tellHead σ (nI h) w post := by
  unfold wpX1_tellHead
  unfold headR at hp
  refine ⟨fun e => ?_, fun e => ?_, fun e => ?_, fun e => ?_, fun e => ?_, fun e => ?_, fun e => ?_, fun e => ?_, fun e => ?_, fun e => ?_, fun e0 e1 e2 e3 e4 e5 e6 e7 e8 e9 => ?_⟩
  · rw [if_pos e] at hp
    refine ⟨pk_in h 4 hh, ?_⟩
    rw [nI_clamp (by omega), R.age h hh]; exact hp
  · rw [e, if_neg (by decide), if_pos rfl] at hp
    refine ⟨pk_in h 4 hh, ?_⟩
    rw [nI_clamp (by omega), R.sp h hh]; exact hp
  · rw [e, if_neg (by decide), if_neg (by decide), if_pos rfl] at hp
    exact kC_freeOf R B hh hp
  · rw [e, if_neg (by decide), if_neg (by decide), if_neg (by decide), if_pos rfl] at hp
    refine ⟨pk_in h 4 hh, ?_⟩
    rw [nI_clamp (by omega), R.giv h hh]
    refine ⟨fun q => ?_, fun q => ?_⟩
    · rw [q] at hp; exact hp
    · rw [(bi_ne _).mp q] at hp; exact hp
  · rw [e, if_neg (by decide), if_neg (by decide), if_neg (by decide), if_neg (by decide), if_pos rfl] at hp
    exact kC_leading R.cli (fun s x q => isAd_lt (cli_some q).1) hh hp
  · rw [e, if_neg (by decide), if_neg (by decide), if_neg (by decide), if_neg (by decide), if_neg (by decide), if_pos rfl] at hp
    exact kC_leading R.srv (fun s x q => srv_lt q) hh hp
  · rw [e, if_neg (by decide), if_neg (by decide), if_neg (by decide), if_neg (by decide), if_neg (by decide), if_neg (by decide), if_pos rfl] at hp
    exact kC_lostOf R B hh hp
  · rw [e, if_neg (by decide), if_neg (by decide), if_neg (by decide), if_neg (by decide), if_neg (by decide), if_neg (by decide), if_neg (by decide), if_pos rfl] at hp
    exact kC_wearOf R hh hp
  · rw [e, if_neg (by decide), if_neg (by decide), if_neg (by decide), if_neg (by decide), if_neg (by decide), if_neg (by decide), if_neg (by decide), if_neg (by decide), if_pos rfl] at hp
    exact kC_gradedOf (g := 1) R B hh (by decide) hp
  · rw [e, if_neg (by decide), if_neg (by decide), if_neg (by decide), if_neg (by decide), if_neg (by decide), if_neg (by decide), if_neg (by decide), if_neg (by decide), if_neg (by decide), if_pos rfl] at hp
    exact kC_gradedOf (g := 2) R B hh (by decide) hp
  · rw [if_neg e0, if_neg e1, if_neg e2, if_neg e3, if_neg e4, if_neg e5, if_neg e6, if_neg e7, if_neg e8, if_neg e9] at hp; exact hp
theorem kC_overHeads (R : RelC D σ) (B : Bw D) {w : Int32} {F : Nat → Nat} (hF : ∀ h, h < 4 → headR D h w = nI (F h)) {post : Int32 → Prop} (hp : post (nI (F 0 + F 1 + F 2 + F 3))) : wpX1_overHeads σ w post := by
  have L : ∀ (m h c : Nat), h + m = 4 → post (nI (c + sm F m h)) → wpX1_overHeads_L4 σ w post (m + 1) (nI c) (nI h) := by
    intro m
    induction m with
    | zero =>
      intro h c e hp
      rw [wpX1_overHeads_L4]
      exact pk_le 4 h (fun _ => hp) (fun q => absurd q (by omega))
    | succ m ih =>
      intro h c e hp
      rw [wpX1_overHeads_L4]
      refine pk_le 4 h (fun q => absurd q (by omega)) (fun _ => kC_tellHead R B (by omega) ?_)
      rw [hF h (by omega), nI_add, nI_1]
      unfold sm at hp
      exact ih (h + 1) (c + F h) (by omega) (by rw [Nat.add_assoc]; exact hp)
  unfold wpX1_overHeads
  refine ⟨5, L 4 0 0 rfl ?_⟩
  have e : 0 + sm F 4 0 = F 0 + F 1 + F 2 + F 3 := by
    show 0 + (F 0 + (F 1 + (F 2 + (F 3 + 0)))) = _
    omega
  rw [e]; exact hp
def lwD (D : DS) (a : Nat) : Bool := isAd (d_sp D) a && decide (d_bY D a < 64 ∧ d_bY D a ≠ a)
theorem kC_longWay (R : RelC D σ) (B : Bw D) {post : Int32 → Prop} (hp : post (nI (cnt (lwD D) 64 0))) : wpX1_longWayCount σ post := by
  have L : ∀ (m p c : Nat), p + m = 64 → post (nI (c + cnt (lwD D) m p)) → wpX1_longWayCount_L4 σ post (m + 1) (nI c) (nI p) := by
    intro m
    induction m with
    | zero =>
      intro p c e hp
      rw [wpX1_longWayCount_L4]
      exact pk_le 64 p (fun _ => hp) (fun q => absurd q (by omega))
    | succ m ih =>
      intro p c e hp
      rw [wpX1_longWayCount_L4]
      refine pk_le 64 p (fun q => absurd q (by omega)) (fun _ => ?_)
      unfold cnt at hp
      have skip : lwD D p = false → wpX1_longWayCount_L4 σ post (m + 1) (nI c) (nI p + 1) := fun z => by
        rw [if_neg (by rw [z]; simp), Nat.zero_add] at hp
        rw [nI_1]
        exact ih (p + 1) c (by omega) hp
      refine kC_isAdN R B (by omega) ⟨fun q => kC_isLongWay R q ⟨fun z => ?_, fun z => ?_⟩, fun q => ?_⟩
      · rw [if_pos (by unfold lwD; rw [q, z]; rfl)] at hp
        rw [nI_1, nI_1]
        exact ih (p + 1) (c + 1) (by omega) (by rw [Nat.add_assoc]; exact hp)
      · exact skip (by unfold lwD; rw [q, z]; rfl)
      · exact skip (by unfold lwD; rw [q]; rfl)
  unfold wpX1_longWayCount
  exact ⟨65, L 64 0 0 rfl (by rw [Nat.zero_add]; exact hp)⟩
def cntQ (P : Nat → Bool) : Nat := cnt P 64 0
theorem cnt_heads (P : Nat → Bool) : cnt P 16 (16 * 0) + cnt P 16 (16 * 1) + cnt P 16 (16 * 2) + cnt P 16 (16 * 3) = cnt P 64 0 := by
  have e1 := cnt_add (P := P) 48 (m := 16) (p := 0)
  have e2 := cnt_add (P := P) 32 (m := 16) (p := 16)
  have e3 := cnt_add (P := P) 16 (m := 16) (p := 32)
  rw [show 16 + 48 = 64 from rfl, show 0 + 16 = 16 from rfl] at e1
  rw [show 16 + 32 = 48 from rfl, show 16 + 16 = 32 from rfl] at e2
  rw [show 16 + 16 = 32 from rfl, show 32 + 16 = 48 from rfl] at e3
  rw [show 16 * 0 = 0 from rfl, show 16 * 1 = 16 from rfl, show 16 * 2 = 32 from rfl, show 16 * 3 = 48 from rfl]
  omega
theorem cnt_low {n : Nat} : ∀ {m : Nat}, ∀ {p : Nat}, cnt (fun y => decide (y < p + n)) m p = min m n := by
  induction n with
  | zero =>
    intro m p
    rw [cnt_zero (fun y h1 _ => decide_eq_false (by omega))]; omega
  | succ n ih =>
    intro m p
    cases m with
    | zero => simp [cnt]
    | succ m =>
      have e := ih (m := m) (p := p + 1)
      rw [cnt, if_pos (decide_eq_true (by omega))]
      rw [cnt_cong (Q := fun y => decide (y < p + 1 + n)) (fun y _ _ => by rw [show p + 1 + n = p + (n + 1) by omega]), e]
      omega
theorem cnt_isAd {sp : Nat → Nat} {h : Nat} (hh : h < 4) (hs : sp h ≤ 16) : cnt (isAd sp) 16 (16 * h) = 16 - sp h := by
  rw [cnt_cong (Q := fun y => decide (y < 16 * h + (16 - sp h))) (fun y h1 h2 => ?_), cnt_low]
  · omega
  · have e := isAd_hp (sp := sp) (h := h) (p := y - 16 * h) hh (by omega)
    rw [show 16 * h + (y - 16 * h) = y by omega] at e
    rw [e]
    by_cases c : y - 16 * h + sp h < 16
    · rw [decide_eq_true c, decide_eq_true (by omega)]
    · rw [decide_eq_false c, decide_eq_false (by omega)]
def lostQ (D : DS) (a : Nat) : Bool := isAd (d_sp D) a && decide (64 ≤ d_bY D a)
def wholeR (D : DS) (w : Int32) : Int32 := if w = 0 then nI (d_lim D) else if w = 1 then nI (cnt (isAd (d_sp D)) 64 0) else if w = 2 then nI (cnt (lostQ D) 64 0) else if w = 3 then nI (cnt (lwD D) 64 0) else if w = 4 then nI (cnt (fr D) 64 0) else if w = 5 then nI (d_arm D % 16) else if w = 6 then nI (d_arm D / 16) else if w = 7 then d_steps D else if w = 8 then d_resc D else if w = 9 then d_loss D else if w = 10 then d_reads D else if w = 11 then d_writes D else -2
theorem kC_tellWhole (R : RelC D σ) (B : Bw D) {w : Int32} {post : Int32 → Prop} (hp : post (wholeR D w)) : wpX1_tellWhole σ w post := by
  have hs := B.sp
  have har := B.arm
  unfold wpX1_tellWhole
  unfold wholeR at hp
  refine ⟨fun e => ?_, fun e => ?_, fun e => ?_, fun e => ?_, fun e => ?_, fun e => ?_, fun e => ?_, fun e => ?_, fun e => ?_, fun e => ?_, fun e => ?_, fun e => ?_, fun e0 e1 e2 e3 e4 e5 e6 e7 e8 e9 e10 e11 => ?_⟩
  · rw [if_pos e] at hp; rw [R.lim]; exact hp
  · rw [e, if_neg (by decide), if_pos rfl] at hp
    refine kC_overHeads (F := d_sp D) R B (fun h _ => by unfold headR; rw [if_neg (by decide), if_pos rfl]) ?_
    have h0 := hs 0 (by omega)
    have h1 := hs 1 (by omega)
    have h2 := hs 2 (by omega)
    have h3 := hs 3 (by omega)
    have ec := cnt_heads (isAd (d_sp D))
    rw [cnt_isAd (by omega) (by omega), cnt_isAd (by omega) (by omega), cnt_isAd (by omega) (by omega), cnt_isAd (by omega) (by omega)] at ec
    rw [← ec] at hp
    rw [show (64 : Int32) - nI (d_sp D 0 + d_sp D 1 + d_sp D 2 + d_sp D 3) = nI (64 - (d_sp D 0 + d_sp D 1 + d_sp D 2 + d_sp D 3)) from pk_sub (a := 64) (by omega)]
    rw [show 64 - (d_sp D 0 + d_sp D 1 + d_sp D 2 + d_sp D 3) = 16 - d_sp D 0 + (16 - d_sp D 1) + (16 - d_sp D 2) + (16 - d_sp D 3) by omega]
    exact hp
  · rw [e, if_neg (by decide), if_neg (by decide), if_pos rfl] at hp
    refine kC_overHeads (F := lostH D) R B (fun h _ => by unfold headR; rw [if_neg (by decide), if_neg (by decide), if_neg (by decide), if_neg (by decide), if_neg (by decide), if_neg (by decide), if_pos rfl]) ?_
    rw [← cnt_heads] at hp; exact hp
  · rw [e, if_neg (by decide), if_neg (by decide), if_neg (by decide), if_pos rfl] at hp
    exact kC_longWay R B hp
  · rw [e, if_neg (by decide), if_neg (by decide), if_neg (by decide), if_neg (by decide), if_pos rfl] at hp
    refine kC_overHeads (F := nFr D) R B (fun h _ => by unfold headR; rw [if_neg (by decide), if_neg (by decide), if_pos rfl]) ?_
    rw [← cnt_heads] at hp; exact hp
  · rw [e, if_neg (by decide), if_neg (by decide), if_neg (by decide), if_neg (by decide), if_neg (by decide), if_pos rfl] at hp
    rw [R.arm]; exact kS_placeOf (by omega) hp
  · rw [e, if_neg (by decide), if_neg (by decide), if_neg (by decide), if_neg (by decide), if_neg (by decide), if_neg (by decide), if_pos rfl] at hp
    rw [R.arm]; exact kS_headOf (by omega) hp
  · rw [e, if_neg (by decide), if_neg (by decide), if_neg (by decide), if_neg (by decide), if_neg (by decide), if_neg (by decide), if_neg (by decide), if_pos rfl] at hp
    rw [R.cnts.1]; exact hp
  · rw [e, if_neg (by decide), if_neg (by decide), if_neg (by decide), if_neg (by decide), if_neg (by decide), if_neg (by decide), if_neg (by decide), if_neg (by decide), if_pos rfl] at hp
    rw [R.cnts.2.1]; exact hp
  · rw [e, if_neg (by decide), if_neg (by decide), if_neg (by decide), if_neg (by decide), if_neg (by decide), if_neg (by decide), if_neg (by decide), if_neg (by decide), if_neg (by decide), if_pos rfl] at hp
    rw [R.cnts.2.2.1]; exact hp
  · rw [e, if_neg (by decide), if_neg (by decide), if_neg (by decide), if_neg (by decide), if_neg (by decide), if_neg (by decide), if_neg (by decide), if_neg (by decide), if_neg (by decide), if_neg (by decide), if_pos rfl] at hp
    rw [R.cnts.2.2.2.1]; exact hp
  · rw [e, if_neg (by decide), if_neg (by decide), if_neg (by decide), if_neg (by decide), if_neg (by decide), if_neg (by decide), if_neg (by decide), if_neg (by decide), if_neg (by decide), if_neg (by decide), if_neg (by decide), if_pos rfl] at hp
    rw [R.cnts.2.2.2.2]; exact hp
  · rw [if_neg e0, if_neg e1, if_neg e2, if_neg e3, if_neg e4, if_neg e5, if_neg e6, if_neg e7, if_neg e8, if_neg e9, if_neg e10, if_neg e11] at hp; exact hp
end CU
