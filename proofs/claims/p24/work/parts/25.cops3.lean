def Res (r : Int32 × DS) (post : Int32 → HS → Prop) : Prop := (r.1 < 0 → ∀ σ', post r.1 σ') ∧ (¬ r.1 < 0 → ∀ σ', RelC r.2 σ' → post r.1 σ')
theorem Res.any {r : Int32 × DS} {post : Int32 → HS → Prop} (h : Res r post) : ∀ σ', RelC r.2 σ' → post r.1 σ' := by
  intro σ' R
  by_cases c : r.1 < 0
  · exact h.1 c σ'
  · exact h.2 c σ' R
def wearH (D : DS) (h : Nat) : Nat := sm (d_wear D) 16 (16 * h)
theorem sm_le {f : Nat → Nat} {K : Nat} : ∀ {m p : Nat}, (∀ s, p ≤ s → s < p + m → f s ≤ K) → sm f m p ≤ m * K := by
  intro m
  induction m with
  | zero => intro p _; exact Nat.zero_le _
  | succ m ih =>
    intro p h
    unfold sm
    have h1 := h p (Nat.le_refl _) (by omega)
    have h2 := ih (p := p + 1) (fun s g1 g2 => h s (by omega) (by omega))
    rw [Nat.succ_mul]; omega
theorem sm_zero {f : Nat → Nat} : ∀ {m p : Nat}, sm f m p = 0 → ∀ s, p ≤ s → s < p + m → f s = 0 := by
  intro m
  induction m with
  | zero => intro p _ s h1 h2; omega
  | succ m ih =>
    intro p h s h1 h2
    unfold sm at h
    by_cases c : s = p
    · rw [c]; omega
    · exact ih (p := p + 1) (by omega) s (by omega) (by omega)
def lostH (D : DS) (h : Nat) : Nat := cnt (fun a => isAd (d_sp D) a && decide (64 ≤ d_bY D a)) 16 (16 * h)
theorem cnt_zero {P : Nat → Bool} : ∀ {m p : Nat}, (∀ y, p ≤ y → y < p + m → P y = false) → cnt P m p = 0 := by
  intro m
  induction m with
  | zero => intro p _; rfl
  | succ m ih =>
    intro p h
    unfold cnt
    rw [h p (Nat.le_refl _) (by omega), ih (fun y g1 g2 => h y (by omega) (by omega))]; rfl
theorem isAd_hp {sp : Nat → Nat} {h p : Nat} (hh : h < 4) (hp : p < 16) : isAd sp (16 * h + p) = decide (p + sp h < 16) := by
  unfold isAd isSp
  rw [show (16 * h + p) / 16 = h by omega, show (16 * h + p) % 16 = p by omega, decide_eq_true (show 16 * h + p < 64 by omega)]
  by_cases c : p + sp h < 16
  · rw [decide_eq_true c, decide_eq_false (by omega)]; rfl
  · rw [decide_eq_false c, decide_eq_true (by omega)]; rfl
/-- the reads of a head's addresses, place by place -/
def tstD (h : Nat) : Nat → Nat → DS → DS
  | 0, _, D => D
  | m + 1, p, D => tstD h m (p + 1) (readR D (16 * h + p)).2
theorem Inv.tst {h : Nat} : ∀ {m p : Nat} {D : DS}, Inv D → Inv (tstD h m p D) := by
  intro m
  induction m with
  | zero => intro p D I; exact I
  | succ m ih => intro p D I; exact ih (I.rR _)
theorem rR_sp (D : DS) (a : Nat) : d_sp (readR D a).2 = d_sp D := by
  unfold readR
  by_cases c : isAd (d_sp D) a = true
  · rw [if_pos c]
    by_cases c2 : d_bY D a < 64
    · rw [if_pos c2]
      show d_sp (readD D a) = d_sp D
      unfold readD
      rw [look_sp]; simp only [a_setReads, a_wear, a_go]
    · rw [if_neg c2]
  · rw [if_neg c]
theorem tst_out {h : Nat} (hh : h < 4) : ∀ {m p : Nat} {D : DS}, p + m ≤ 16 → 16 ≤ p + d_sp D h → tstD h m p D = D := by
  intro m
  induction m with
  | zero => intro p D _ _; rfl
  | succ m ih =>
    intro p D h1 h2
    unfold tstD
    have e : readR D (16 * h + p) = (-1, D) := by
      unfold readR
      rw [isAd_hp hh (by omega), decide_eq_false (by omega)]; rfl
    rw [e]
    show tstD h m (p + 1) D = D
    exact ih (by omega) (by omega)
theorem tst_cut {h : Nat} (hh : h < 4) {D : DS} : ∀ {m p : Nat} {D : DS}, p + m ≤ 16 → m + p + d_sp D h = 16 → tstD h (16 - p) p D = tstD h m p D := by
  intro m
  induction m with
  | zero => intro p D h1 h2; exact tst_out hh (by omega) (by omega)
  | succ m ih =>
    intro p D h1 h2
    rw [show 16 - p = (16 - (p + 1)) + 1 by omega, tstD, tstD]
    exact ih (by omega) (by rw [rR_sp]; omega)
def testR (D : DS) (h : Nat) : Int32 × DS := if lostH D h = 16 - d_sp D h then (-5, D) else (d_resc (tstD h 16 0 D) - d_resc D, tstD h 16 0 D)
def mvD (D : DS) (a : Nat) : DS := match lendD D a with
  | some x => wearD (byD D a x) x 2
  | none => loseD D a
def vacL (h : Nat) : Nat → Nat → DS → DS
  | 0, _, D => D
  | m + 1, a, D => vacL h m (a + 1) (if isAd (d_sp D) a = true ∧ d_bY D a < 64 ∧ d_bY D a / 16 = h then mvD D a else D)
def vacD (D : DS) (h : Nat) : DS := vacL h 64 0 (d_setGiv D (va_up (d_giv D) h true))
def backR (D : DS) (a : Nat) : Int32 × DS := if isAd (d_sp D) a = true then (if d_bY D a < 64 ∧ d_bY D a ≠ a then (if d_wear D a < d_lim D ∧ d_giv D (a / 16) = false then (nI (d_bY D a), byD (wearD (moveD (goD D a) a) a 2) a a) else (-4, D)) else (-5, D)) else (-1, D)
def limR (D : DS) (x : Int32) : Int32 × DS := if 1 ≤ x.toInt ∧ x.toInt ≤ 999 then (if x = nI (d_lim D) then (-5, D) else (nI (d_lim D), d_setLim D x.toInt.toNat)) else (-2, D)
def ageR (D : DS) (h : Nat) (x : Int32) : Int32 × DS := if 1 ≤ x.toInt ∧ x.toInt ≤ 9 then (if x = nI (d_age D h) then (-5, D) else (nI (d_age D h), d_setAge D (va_up (d_age D) h x.toInt.toNat))) else (-2, D)
def spR (D : DS) (h : Nat) (x : Int32) : Int32 × DS := if 1 ≤ x.toInt ∧ x.toInt ≤ 6 then (if 0 < wearH D h ∨ d_giv D h = true then (-4, D) else (if x = nI (d_sp D h) then (-5, D) else (nI (d_sp D h), d_setSp D (va_up (d_sp D) h x.toInt.toNat)))) else (-2, D)
theorem nI_rng {x : Int32} (h : 0 ≤ x.toInt) : x = nI x.toInt.toNat := by
  have := Int32.toInt_lt x
  apply Int32.toInt_inj.mp
  rw [nI_toInt (by omega)]
  omega
theorem neg2 : ((-2 : Int32), (0 : Nat)).1 < 0 := by decide
theorem i32_1 {x : Int32} : x < 1 ↔ x.toInt < 1 := by rw [Int32.lt_iff_toInt_lt]; exact Iff.rfl
theorem i32_0 {x : Int32} : x < 0 ↔ x.toInt < 0 := by rw [Int32.lt_iff_toInt_lt]; exact Iff.rfl
section CT3
variable {D : DS} {σ : HS}
theorem kC_lostOf (R : RelC D σ) (B : Bw D) {h : Nat} (hh : h < 4) {post : Int32 → Prop} (hp : post (nI (lostH D h))) : wpX1_lostOf σ (nI h) post := by
  have hs := B.sp h hh
  have L : ∀ (m p c : Nat), p + m + d_sp D h = 16 → post (nI (c + cnt (fun a => isAd (d_sp D) a && decide (64 ≤ d_bY D a)) m (16 * h + p))) → wpX1_lostOf_L4 σ (nI h) post (m + 1) (nI c) (nI p) := by
    intro m
    induction m with
    | zero =>
      intro p c e hp
      rw [wpX1_lostOf_L4]
      refine ⟨pk_in h 4 hh, ?_⟩
      rw [nI_clamp (by omega), R.sp h hh, show (16 : Int32) - nI (d_sp D h) = nI (16 - d_sp D h) from pk_sub (a := 16) (by omega)]
      exact pk_le (16 - d_sp D h) p (fun _ => hp) (fun q => absurd q (by omega))
    | succ m ih =>
      intro p c e hp
      rw [wpX1_lostOf_L4]
      refine ⟨pk_in h 4 hh, ?_⟩
      rw [nI_clamp (by omega), R.sp h hh, show (16 : Int32) - nI (d_sp D h) = nI (16 - d_sp D h) from pk_sub (a := 16) (by omega)]
      refine pk_le (16 - d_sp D h) p (fun q => absurd q (by omega)) (fun _ => ?_)
      rw [nI_hp]
      have ha : isAd (d_sp D) (16 * h + p) = true := by rw [isAd_hp hh (by omega), decide_eq_true (by omega)]
      unfold cnt at hp
      refine kC_lostN R ha (fun z => ⟨fun _ => ?_, fun w => (by cases w)⟩) (fun z => ⟨fun w => (by cases w), fun _ => ?_⟩)
      · rw [nI_1, nI_1]
        rw [ha, decide_eq_true z] at hp
        exact ih (p + 1) (c + 1) (by omega) (by rw [show c + 1 + cnt (fun a => isAd (d_sp D) a && decide (64 ≤ d_bY D a)) m (16 * h + (p + 1)) = c + (1 + cnt (fun a => isAd (d_sp D) a && decide (64 ≤ d_bY D a)) m (16 * h + p + 1)) by rw [Nat.add_assoc]; rfl]; exact hp)
      · rw [nI_1]
        rw [ha, decide_eq_false (by omega)] at hp
        exact ih (p + 1) c (by omega) (by rw [show (16 * h + (p + 1)) = 16 * h + p + 1 by omega, ← Nat.zero_add (cnt _ m _)]; exact hp)
  unfold wpX1_lostOf
  refine ⟨16 - d_sp D h + 1, L (16 - d_sp D h) 0 0 (by omega) ?_⟩
  have e : lostH D h = cnt (fun a => isAd (d_sp D) a && decide (64 ≤ d_bY D a)) (16 - d_sp D h) (16 * h) := by
    have e2 := cnt_add (P := fun a => isAd (d_sp D) a && decide (64 ≤ d_bY D a)) (d_sp D h) (m := 16 - d_sp D h) (p := 16 * h)
    rw [show 16 - d_sp D h + d_sp D h = 16 by omega] at e2
    unfold lostH
    rw [e2, cnt_zero (m := d_sp D h) (fun y g1 g2 => ?_), Nat.add_zero]
    have := isAd_hp (sp := d_sp D) (h := h) (p := y - 16 * h) hh (by omega)
    rw [show 16 * h + (y - 16 * h) = y by omega] at this
    rw [this, decide_eq_false (by omega)]; rfl
  rw [Nat.zero_add, Nat.add_zero, ← e]
  exact hp
theorem kC_testHead (R : RelC D σ) (I : Inv D) {h : Nat} (hh : h < 4) {post : Int32 → HS → Prop} (hp : ∀ σ', RelC (testR D h).2 σ' → post (testR D h).1 σ') : wpX1_testHead σ (nI h) post := by
  have hs := I.1.sp h hh
  have L : ∀ (m p : Nat) (E : DS) (σ1 : HS), p + m + d_sp E h = 16 → d_sp E = d_sp D → RelC E σ1 → Inv E → (∀ σ', RelC (tstD h m p E) σ' → post (d_resc (tstD h m p E) - d_resc D) σ') → wpX1_testHead_L27 σ (nI h) post (m + 1) (nI p) σ1 := by
    intro m
    induction m with
    | zero =>
      intro p E σ1 e es RE IE hp
      rw [wpX1_testHead_L27]
      have := IE.1.sp h hh
      refine ⟨pk_in h 4 hh, ?_⟩
      rw [nI_clamp (by omega), RE.sp h hh, show (16 : Int32) - nI (d_sp E h) = nI (16 - d_sp E h) from pk_sub (a := 16) (by omega)]
      refine pk_le (16 - d_sp E h) p (fun _ => ?_) (fun q => absurd q (by omega))
      rw [RE.cnts.2.1, R.cnts.2.1]
      exact hp σ1 RE
    | succ m ih =>
      intro p E σ1 e es RE IE hp
      rw [wpX1_testHead_L27]
      have := IE.1.sp h hh
      refine ⟨pk_in h 4 hh, ?_⟩
      rw [nI_clamp (by omega), RE.sp h hh, show (16 : Int32) - nI (d_sp E h) = nI (16 - d_sp E h) from pk_sub (a := 16) (by omega)]
      refine pk_le (16 - d_sp E h) p (fun q => absurd q (by omega)) (fun _ => ?_)
      rw [nI_hp, nI_1]
      refine kC_readAt RE IE (fun σ2 R2 => ?_)
      rw [rR_adr E (by omega)] at R2
      exact ih (p + 1) _ σ2 (by rw [rR_sp]; omega) ((rR_sp E _).trans es) R2 (IE.rR _) hp
  unfold wpX1_testHead
  unfold testR at hp
  refine kC_lostOf R I.1.1 hh ⟨pk_in h 4 hh, ?_⟩
  rw [nI_clamp (by omega), R.sp h hh, show (16 : Int32) - nI (d_sp D h) = nI (16 - d_sp D h) from pk_sub (a := 16) (by omega)]
  have hc : lostH D h ≤ 16 := cnt_le
  refine pk_eq (lostH D h) (16 - d_sp D h) (fun q => ?_) (fun q => ?_)
  · rw [if_pos q] at hp; exact hp σ R
  · rw [if_neg q] at hp
    have e : tstD h 16 0 D = tstD h (16 - d_sp D h) 0 D := tst_cut (D := D) hh (m := 16 - d_sp D h) (p := 0) (by omega) (by omega)
    rw [e] at hp
    exact ⟨_, L (16 - d_sp D h) 0 D σ (by omega) rfl R I hp⟩
theorem kC_giveBack (R : RelC D σ) (I : Inv D) {x : Int32} {post : Int32 → HS → Prop} (h : ∀ σ', RelC (backR D (adr x)).2 σ' → post (backR D (adr x)).1 σ') : wpX1_giveBackAt σ x post := by
  unfold wpX1_giveBackAt
  unfold backR at h
  refine kC_isAddress R I.1.1 ⟨fun q => ?_, fun q => ?_⟩
  · rw [if_pos q] at h
    have ex := adr_ad q
    generalize adr x = a at q h ex
    subst ex
    have hl := isAd_lt q
    refine kC_isLongWay R q ⟨fun z => ?_, fun z => ?_⟩
    · have z := of_decide_eq_true z
      rw [if_pos z] at h
      refine kC_isGood R I.1.1 hl ⟨fun w => kS_headOf (by omega) ⟨pk_in (a / 16) 4 (by omega), ?_⟩, fun w => ?_⟩
      · have w := of_decide_eq_true w
        rw [nI_clamp (n := a / 16) (by omega), R.giv _ (by omega)]
        refine ⟨fun g => ⟨pk_in a 64 hl, ?_⟩, fun g => ?_⟩
        · rw [if_pos ⟨w, (bi_eq _).mp g⟩] at h
          rw [kC_srv R q z.1]
          have hg := age_le I.1 hl
          have hlim := I.1.lim
          refine kC_goTo R I.1.1 q z.1 (fun σ1 R1 => kC_moveTo R1 (I.1.1.go z.1) hl (fun σ2 R2 => kC_wearW R2 hl (fun σ3 R3 => ?_)))
          have B3 : Bw (wearD (moveD (goD D a) a) a 2) := ((I.1.1.go z.1).move hl).worn (by simp only [a_move, a_go]; omega)
          refine kC_lend R3 B3 (by simp only [a_wear, a_move, a_go]; exact q) hl ?_ (fun σ4 R4 => h σ4 R4)
          simp only [a_wear, a_move, a_go]
          exact fun b hb hab => own_free I.1 q hb hab
        · rw [if_neg (fun c => g ((bi_eq _).mpr c.2))] at h; exact h σ R
      · rw [if_neg (fun c => (of_decide_eq_false w) c.1)] at h; exact h σ R
    · rw [if_neg (of_decide_eq_false z)] at h; exact h σ R
  · rw [if_neg (by rw [q]; simp)] at h; exact h σ R
theorem kC_moveAway (R : RelC D σ) (B : Bw D) {a : Nat} (ha : isAd (d_sp D) a = true) {post : HS → Prop} (h : ∀ σ', RelC (mvD D a) σ' → post σ') : wpX1_moveAway σ (nI a) post := by
  unfold wpX1_moveAway
  unfold mvD at h
  refine kC_lendableTo R B (isAd_lt ha) ?_
  cases e : lendD D a with
  | none => rw [e] at h; exact ⟨fun _ => kC_lose R B ha h, fun q => absurd rfl q⟩
  | some x =>
    rw [e] at h
    obtain ⟨g1, g2, -, -, -⟩ := lend_free (isAd_lt ha) e
    refine ⟨fun z => absurd z (co_ne (by omega)), fun _ => ?_⟩
    show wpX1_lend σ (nI a) (nI x) _
    exact kC_lend R B ha g1 (fun b hb2 _ => g2 b hb2) (fun σ1 R1 => kC_wearW R1 g1 h)
end CT3
/-- the loop of giving up: what holds with the addresses ahead of a done -/
def VI (h a : Nat) (D : DS) : Prop := Bw D ∧ d_giv D h = true ∧ (∀ b, isAd (d_sp D) b = true → d_bY D b < 64 → (d_giv D (d_bY D b / 16) = false ∨ (d_bY D b / 16 = h ∧ a ≤ b)) ∧ (d_bY D b = b ∨ isSp (d_sp D) (d_bY D b) = true) ∧ d_wear D (d_bY D b) ≤ 1997 ∧ (d_bY D b = b ∨ 0 < d_wear D (d_bY D b))) ∧ (∀ s, s < 64 → d_bY D s = s ∨ 0 < d_wear D s ∨ d_giv D (s / 16) = true)
theorem VI.start {D : DS} (I : Inv D) {h : Nat} : VI h 0 (d_setGiv D (va_up (d_giv D) h true)) := by
  unfold VI
  refine ⟨I.1.1, ?_⟩
  simp only [a_setGiv]
  refine ⟨by rw [up_eq], fun b hb h64 => ⟨?_, (I.1.ser b hb h64).2, (I.2.1 b hb h64)⟩, fun s hs => ?_⟩
  · by_cases c : d_bY D b / 16 = h
    · exact Or.inr ⟨c, Nat.zero_le _⟩
    · rw [up_ne _ _ c]; exact Or.inl (I.1.ser b hb h64).1
  · rcases I.2.2 s hs with q | q | q
    · exact Or.inl q
    · exact Or.inr (Or.inl q)
    · by_cases c : s / 16 = h
      · rw [c, up_eq]; exact Or.inr (Or.inr rfl)
      · rw [up_ne _ _ c]; exact Or.inr (Or.inr q)
theorem VI.mv {h a : Nat} {D : DS} (V : VI h a D) (ha : isAd (d_sp D) a = true) (hb : d_bY D a < 64) (hh : d_bY D a / 16 = h) : VI h (a + 1) (mvD D a) := by
  obtain ⟨B, hg, h1, h2⟩ := V
  have hl := isAd_lt ha
  have hlim := B.lim
  have hA : 0 < d_wear D a ∨ d_giv D (a / 16) = true := by
    rcases h2 a hl with q | q
    · rw [q] at hh; rw [hh]; exact Or.inr hg
    · exact q
  unfold mvD
  cases e : lendD D a with
  | some x =>
    obtain ⟨g1, g2, g3, g4, g5⟩ := lend_free hl e
    have hag := B.age (x / 16) (by omega)
    show VI h (a + 1) (wearD (byD D a x) x 2)
    unfold VI
    refine ⟨(B.by_ (fun b hb2 _ => g2 b hb2)).worn (by simp only [a_by]; omega), ?_⟩
    simp only [a_wear, a_by]
    refine ⟨hg, fun b hb2 h64 => ?_, fun s hs => ?_⟩
    · by_cases c : b = a
      · rw [c, up_eq, up_eq]; exact ⟨Or.inl g3, Or.inr g4, by omega, Or.inr (by omega)⟩
      · rw [up_ne _ _ c] at h64 ⊢
        rw [up_ne _ _ (g2 b hb2)]
        obtain ⟨k1, k2⟩ := h1 b hb2 h64
        refine ⟨k1.imp id (fun z => ⟨z.1, ?_⟩), k2⟩
        have := z.2; omega
    · by_cases c2 : s = x
      · rw [c2, up_eq]; exact Or.inr (Or.inl (by omega))
      · rw [up_ne (d_wear D) _ c2]
        by_cases c : s = a
        · rw [c]; exact Or.inr hA
        · rw [up_ne _ _ c]; exact h2 s hs
  | none =>
    show VI h (a + 1) (loseD D a)
    unfold VI
    refine ⟨B.lost.setLoss, ?_⟩
    simp only [a_lose]
    refine ⟨hg, fun b hb2 h64 => ?_, fun s hs => ?_⟩
    · have c : b ≠ a := fun q => by rw [q, up_eq] at h64; omega
      rw [up_ne _ _ c] at h64 ⊢
      obtain ⟨k1, k2⟩ := h1 b hb2 h64
      refine ⟨k1.imp id (fun z => ⟨z.1, ?_⟩), k2⟩
      have := z.2; omega
    · by_cases c : s = a
      · rw [c]; exact Or.inr hA
      · rw [up_ne _ _ c]; exact h2 s hs
theorem VI.next {h a : Nat} {D : DS} (V : VI h a D) (hn : ¬ (isAd (d_sp D) a = true ∧ d_bY D a < 64 ∧ d_bY D a / 16 = h)) : VI h (a + 1) D := by
  obtain ⟨B, hg, h1, h2⟩ := V
  refine ⟨B, hg, fun b hb h64 => ?_, h2⟩
  obtain ⟨k1, k2⟩ := h1 b hb h64
  refine ⟨k1.imp id (fun z => ⟨z.1, ?_⟩), k2⟩
  have : b ≠ a := fun q => hn ⟨q ▸ hb, q ▸ h64, q ▸ z.1⟩
  have := z.2; omega
theorem VI.step {h a : Nat} {D : DS} (V : VI h a D) : VI h (a + 1) (if isAd (d_sp D) a = true ∧ d_bY D a < 64 ∧ d_bY D a / 16 = h then mvD D a else D) := by
  by_cases c : isAd (d_sp D) a = true ∧ d_bY D a < 64 ∧ d_bY D a / 16 = h
  · rw [if_pos c]; exact V.mv c.1 c.2.1 c.2.2
  · rw [if_neg c]; exact V.next c
theorem VI.all {h : Nat} : ∀ {m a : Nat} {D : DS}, VI h a D → VI h (a + m) (vacL h m a D) := by
  intro m
  induction m with
  | zero => intro a D V; exact V
  | succ m ih =>
    intro a D V
    unfold vacL
    rw [show a + (m + 1) = a + 1 + m by omega]
    exact ih V.step
theorem Inv.vac {D : DS} (I : Inv D) (h : Nat) : Inv (vacD D h) := by
  obtain ⟨B, -, h1, h2⟩ := VI.all (m := 64) (VI.start I (h := h))
  refine ⟨⟨B, fun a ha hb => ?_⟩, fun a ha hb => (h1 a ha hb).2.2, h2⟩
  obtain ⟨k1, k2, -⟩ := h1 a ha hb
  refine ⟨k1.elim id (fun z => ?_), k2⟩
  have := z.2; have := isAd_lt ha; omega
section CT4
variable {D : DS} {σ : HS}
theorem kC_vacate (R : RelC D σ) (I : Inv D) {h : Nat} (hh : h < 4) {post : Int32 → HS → Prop} (hp : ∀ σ', RelC (vacD D h) σ' → post (d_loss (vacD D h) - d_loss D) σ') : wpX1_vacate σ (nI h) post := by
  have L : ∀ (m a : Nat) (E : DS) (σ1 : HS), a + m = 64 → RelC E σ1 → VI h a E → (∀ σ', RelC (vacL h m a E) σ' → post (d_loss (vacL h m a E) - d_loss D) σ') → wpX1_vacate_L14 σ (nI h) post (m + 1) (nI a) σ1 := by
    intro m
    induction m with
    | zero =>
      intro a E σ1 e RE V hp
      rw [wpX1_vacate_L14]
      refine pk_le 64 a (fun _ => ?_) (fun q => absurd q (by omega))
      rw [RE.cnts.2.2.1, R.cnts.2.2.1]
      exact hp σ1 RE
    | succ m ih =>
      intro a E σ1 e RE V hp
      rw [wpX1_vacate_L14]
      refine pk_le 64 a (fun q => absurd q (by omega)) (fun _ => ?_)
      unfold vacL at hp
      refine kC_isAdN RE V.1 (by omega) ⟨fun q => ?_, fun q => ?_⟩
      · refine kC_lostN RE q (fun z => ⟨fun _ => ?_, fun w => (by cases w)⟩) (fun z => ⟨fun w => (by cases w), fun _ => ⟨pk_in a 64 (by omega), ?_⟩⟩)
        · have c : ¬ (isAd (d_sp E) a = true ∧ d_bY E a < 64 ∧ d_bY E a / 16 = h) := by omega
          rw [if_neg c] at hp
          rw [nI_1]
          exact ih (a + 1) E σ1 (by omega) RE (V.next c) hp
        · rw [kC_srv RE q z]
          refine kS_headOf (by omega) (pk_eq (d_bY E a / 16) h (fun w => ?_) (fun w => ?_))
          · rw [if_pos ⟨q, z, w⟩] at hp
            refine kC_moveAway RE V.1 q (fun σ2 R2 => ?_)
            rw [nI_1]
            exact ih (a + 1) _ σ2 (by omega) R2 (V.mv q z w) hp
          · have c : ¬ (isAd (d_sp E) a = true ∧ d_bY E a < 64 ∧ d_bY E a / 16 = h) := fun c => w c.2.2
            rw [if_neg c] at hp
            rw [nI_1]
            exact ih (a + 1) E σ1 (by omega) RE (V.next c) hp
      · have c : ¬ (isAd (d_sp E) a = true ∧ d_bY E a < 64 ∧ d_bY E a / 16 = h) := by rw [q]; simp
        rw [if_neg c] at hp
        rw [nI_1]
        exact ih (a + 1) E σ1 (by omega) RE (V.next c) hp
  unfold wpX1_vacate
  refine ⟨pk_in h 4 hh, 65, ?_⟩
  rw [nI_clamp (by omega)]
  refine L 64 0 _ _ rfl (R.setGiv (fun s hs => ?_)) (VI.start I) hp
  by_cases c : s = h
  · rw [c, upd_eq, up_eq]; rfl
  · rw [upd_ne _ _ c, up_ne _ _ c]; exact R.giv s hs
theorem kC_isGivenUp (R : RelC D σ) {h : Nat} (hh : h < 4) {post : Bool → Prop} (hp : post (d_giv D h)) : wpX1_isGivenUp σ (nI h) post := by
  unfold wpX1_isGivenUp
  refine ⟨pk_in h 4 hh, d_giv D h, ?_, hp⟩
  rw [nI_clamp (by omega), R.giv h hh]
def othG (giv : Nat → Bool) (h : Nat) : Nat → Nat → Bool
  | 0, _ => true
  | m + 1, o => if o = h then othG giv h m (o + 1) else if giv o = true then othG giv h m (o + 1) else false
theorem kC_others (R : RelC D σ) {h : Nat} (hh : h < 4) {post : Bool → Prop} (hp : post (othG (d_giv D) h 4 0)) : wpX1_othersAreGivenUp σ (nI h) post := by
  have L : ∀ (m o : Nat), o + m = 4 → post (othG (d_giv D) h m o) → wpX1_othersAreGivenUp_L2 σ (nI h) post (m + 1) (nI o) := by
    intro m
    induction m with
    | zero =>
      intro o e hp
      rw [wpX1_othersAreGivenUp_L2]
      exact pk_le 4 o (fun _ => hp) (fun q => absurd q (by omega))
    | succ m ih =>
      intro o e hp
      rw [wpX1_othersAreGivenUp_L2]
      refine pk_le 4 o (fun q => absurd q (by omega)) (fun _ => ?_)
      unfold othG at hp
      refine pk_eq o h (fun q => ?_) (fun q => ⟨pk_in o 4 (by omega), ?_⟩)
      · rw [if_pos q] at hp
        rw [nI_1]; exact ih (o + 1) (by omega) hp
      · rw [if_neg q] at hp
        rw [nI_clamp (by omega), R.giv o (by omega)]
        refine ⟨fun w => ?_, fun w => ?_⟩
        · rw [(bi_eq _).mp w] at hp; exact hp
        · rw [if_pos ((bi_ne _).mp w)] at hp
          rw [nI_1]; exact ih (o + 1) (by omega) hp
  unfold wpX1_othersAreGivenUp
  exact ⟨5, L 4 0 rfl hp⟩
theorem kC_changeLimit (R : RelC D σ) (B : Bw D) {x : Int32} {post : Int32 → HS → Prop} (h : Res (limR D x) post) : wpX1_changeLimit σ x post := by
  have z9 : (999 : Int32).toInt = 999 := by decide
  have hl := B.lim
  unfold wpX1_changeLimit
  unfold limR at h
  refine ⟨fun c => ?_, fun c => ⟨fun c2 => ?_, fun c2 => ?_⟩⟩
  · rw [i32_1] at c
    rw [if_neg (by omega)] at h; exact h.1 (show (-2 : Int32) < 0 by decide) σ
  · rw [i32_1] at c
    rw [Int32.le_iff_toInt_le, z9] at c2
    rw [if_pos ⟨by omega, c2⟩] at h
    rw [R.lim]
    refine ⟨fun q => ?_, fun q => ?_⟩
    · rw [if_pos q.symm] at h; exact h.1 (show (-5 : Int32) < 0 by decide) _
    · rw [if_neg (fun w => q w.symm)] at h
      have e := nI_rng (x := x) (by omega)
      refine h.2 (nI_lt0 (by omega)) _ ?_
      have R2 := R.setLim (v := x.toInt.toNat)
      rw [← e] at R2
      exact R2
  · rw [Int32.le_iff_toInt_le, z9] at c2
    rw [if_neg (by omega)] at h; exact h.1 (show (-2 : Int32) < 0 by decide) σ
theorem kC_wearOf (R : RelC D σ) {h : Nat} (hh : h < 4) {post : Int32 → Prop} (hp : post (nI (wearH D h))) : wpX1_wearOf σ (nI h) post := by
  have L : ∀ (m p c : Nat), p + m = 16 → post (nI (c + sm (d_wear D) m (16 * h + p))) → wpX1_wearOf_L4 σ (nI h) post (m + 1) (nI c) (nI p) := by
    intro m
    induction m with
    | zero =>
      intro p c e hp
      rw [wpX1_wearOf_L4]
      exact pk_le 16 p (fun _ => hp) (fun q => absurd q (by omega))
    | succ m ih =>
      intro p c e hp
      rw [wpX1_wearOf_L4]
      refine pk_le 16 p (fun q => absurd q (by omega)) (fun _ => ?_)
      rw [nI_hp]
      refine ⟨pk_in (16 * h + p) 64 (by omega), ?_⟩
      rw [nI_clamp (by omega), R.wear _ (by omega), nI_add, nI_1]
      unfold sm at hp
      exact ih (p + 1) (c + d_wear D (16 * h + p)) (by omega) (by rw [Nat.add_assoc]; exact hp)
  unfold wpX1_wearOf
  exact ⟨17, L 16 0 0 rfl (by rw [Nat.zero_add]; exact hp)⟩
theorem kC_isAdS {sp : Nat → Nat} (R : ∀ j, j < 4 → hs_spares σ j = nI (sp j)) (B : ∀ j, j < 4 → sp j ≤ 16) {k : Nat} (hk : k < 64) {post : Bool → Prop} (h : post (isAd sp k)) : wpX1_isAddress σ (nI k) post := by
  unfold wpX1_isAddress
  refine kS_isSector ?_
  rw [adr_lt hk]
  refine ⟨fun _ => ?_, fun q => absurd hk (by simpa using q)⟩
  refine kS_placeOf (by omega) (kS_headOf (by omega) ?_)
  have hs := B (k / 16) (by omega)
  refine ⟨pk_in (k / 16) 4 (by omega), ?_⟩
  rw [nI_clamp (by omega), R _ (by omega), show (16 : Int32) - nI (sp (k / 16)) = nI (16 - sp (k / 16)) from pk_sub (a := 16) (by omega)]
  refine pk_le (16 - sp (k / 16)) (k % 16) (fun q => ?_) (fun q => ?_)
  · have z : isAd sp k = false := by unfold isAd isSp; simp; omega
    rw [z] at h; exact h
  · have z : isAd sp k = true := by unfold isAd isSp; simp; omega
    rw [z] at h; exact h
/-- a head divided anew: each of its own sectors serves itself -/
theorem kC_divide {sp : Nat → Nat} {h n : Nat} (hh : h < 4) (hn : n ≤ 16) (R : ∀ j, j < 4 → hs_spares σ j = nI (sp j)) (B : ∀ j, j < 4 → sp j ≤ 16) {post : HS → Prop} (hp : ∀ g0 g1 g2, (∀ j, j < 4 → g0 j = nI (va_up sp h n j)) → (∀ s, s < 64 → g1 s = if s / 16 = h then co (if isAd (va_up sp h n) s = true then some s else none) else hs_server σ s) → (∀ s, s < 64 → g2 s = if s / 16 = h then co (if isAd (va_up sp h n) s = true then some s else none) else hs_client σ s) → post (hs_setClient (hs_setServer (hs_setSpares σ g0) g1) g2)) : wpX1_divide σ (nI h) (nI n) post := by
  have B' : ∀ j, j < 4 → va_up sp h n j ≤ 16 := fun j hj => by
    by_cases c : j = h
    · rw [c, up_eq]; exact hn
    · rw [up_ne _ _ c]; exact B j hj
  unfold wpX1_divide
  refine ⟨pk_in h 4 hh, 17, ?_⟩
  rw [nI_clamp (by omega)]
  obtain ⟨g0, e0⟩ : ∃ g0, g0 = upd (hs_spares σ) h (nI n) := ⟨_, rfl⟩
  rw [← e0]
  have hg0 : ∀ j, j < 4 → g0 j = nI (va_up sp h n j) := fun j hj => by rw [e0]; exact nI_up R rfl j hj
  clear e0
  have L : ∀ (m p : Nat) (g1 g2 : Nat → Int32), p + m = 16 → (∀ s, s < 64 → g1 s = if s / 16 = h ∧ s % 16 < p then co (if isAd (va_up sp h n) s = true then some s else none) else hs_server σ s) → (∀ s, s < 64 → g2 s = if s / 16 = h ∧ s % 16 < p then co (if isAd (va_up sp h n) s = true then some s else none) else hs_client σ s) → wpX1_divide_L9 (nI h) post (m + 1) (nI p) (hs_setClient (hs_setServer (hs_setSpares σ g0) g1) g2) := by
    intro m
    induction m with
    | zero =>
      intro p g1 g2 e h1 h2
      rw [wpX1_divide_L9]
      refine pk_le 16 p (fun _ => ?_) (fun q => absurd q (by omega))
      refine hp g0 g1 g2 hg0 (fun s hs => ?_) (fun s hs => ?_)
      · rw [h1 s hs]
        by_cases c : s / 16 = h
        · rw [if_pos c, if_pos ⟨c, by omega⟩]
        · rw [if_neg c, if_neg (fun z => c z.1)]
      · rw [h2 s hs]
        by_cases c : s / 16 = h
        · rw [if_pos c, if_pos ⟨c, by omega⟩]
        · rw [if_neg c, if_neg (fun z => c z.1)]
    | succ m ih =>
      intro p g1 g2 e h1 h2
      rw [wpX1_divide_L9]
      refine pk_le 16 p (fun q => absurd q (by omega)) (fun _ => ?_)
      have J : ∀ v : Int32, v = co (if isAd (va_up sp h n) (16 * h + p) = true then some (16 * h + p) else none) → wpX1_divide_J39 (nI h) (nI p) (hs_setClient (hs_setServer (hs_setSpares σ g0) g1) g2) post (wpX1_divide_L9 (nI h) post (m + 1)) v := by
        intro v hv
        unfold wpX1_divide_J39
        rw [nI_hp]
        refine ⟨pk_in (16 * h + p) 64 (by omega), ?_⟩
        rw [nI_clamp (by omega), nI_1]
        refine ih (p + 1) (upd g1 (16 * h + p) v) (upd g2 (16 * h + p) v) (by omega) (fun s hs => ?_) (fun s hs => ?_)
        · by_cases c : s = 16 * h + p
          · rw [c, upd_eq, if_pos (show (16 * h + p) / 16 = h ∧ (16 * h + p) % 16 < p + 1 by omega)]; exact hv
          · rw [upd_ne _ _ c, h1 s hs]
            by_cases c2 : s / 16 = h ∧ s % 16 < p
            · rw [if_pos c2, if_pos (show s / 16 = h ∧ s % 16 < p + 1 by omega)]
            · rw [if_neg c2, if_neg (show ¬ (s / 16 = h ∧ s % 16 < p + 1) by omega)]
        · by_cases c : s = 16 * h + p
          · rw [c, upd_eq, if_pos (show (16 * h + p) / 16 = h ∧ (16 * h + p) % 16 < p + 1 by omega)]; exact hv
          · rw [upd_ne _ _ c, h2 s hs]
            by_cases c2 : s / 16 = h ∧ s % 16 < p
            · rw [if_pos c2, if_pos (show s / 16 = h ∧ s % 16 < p + 1 by omega)]
            · rw [if_neg c2, if_neg (show ¬ (s / 16 = h ∧ s % 16 < p + 1) by omega)]
      rw [nI_hp]
      refine kC_isAdS (σ := hs_setClient (hs_setServer (hs_setSpares σ g0) g1) g2) (sp := va_up sp h n) hg0 B' (by omega) ⟨fun q => ?_, fun q => ?_⟩
      · exact J _ (by rw [if_pos q]; rfl)
      · exact J _ (by rw [if_neg (by rw [q]; simp)]; rfl)
  refine L 16 0 (hs_server σ) (hs_client σ) rfl (fun s hs => ?_) (fun s hs => ?_)
  · rw [if_neg (by omega)]
  · rw [if_neg (by omega)]
end CT4
