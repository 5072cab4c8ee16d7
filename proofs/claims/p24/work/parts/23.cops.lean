/-! the class: what changes a state -/
section CR
variable {D : DS} {σ : HS}
theorem RelC.setSteps (R : RelC D σ) {v : Int32} : RelC (d_setSteps D v) (hs_setSteps σ v) := ⟨R.1, R.2.1, R.2.2.1, R.2.2.2.1, R.2.2.2.2.1, R.2.2.2.2.2.1, R.2.2.2.2.2.2.1, R.2.2.2.2.2.2.2.1, R.2.2.2.2.2.2.2.2.1, R.2.2.2.2.2.2.2.2.2.1, rfl, R.2.2.2.2.2.2.2.2.2.2.2⟩
theorem RelC.setArm (R : RelC D σ) {v : Nat} : RelC (d_setArm D v) (hs_setArm σ (nI v)) := ⟨R.1, rfl, R.2.2⟩
theorem RelC.setLim (R : RelC D σ) {v : Nat} : RelC (d_setLim D v) (hs_setLimit σ (nI v)) := ⟨rfl, R.2⟩
theorem RelC.setResc (R : RelC D σ) {v : Int32} : RelC (d_setResc D v) (hs_setRescues σ v) := ⟨R.1, R.2.1, R.2.2.1, R.2.2.2.1, R.2.2.2.2.1, R.2.2.2.2.2.1, R.2.2.2.2.2.2.1, R.2.2.2.2.2.2.2.1, R.2.2.2.2.2.2.2.2.1, R.2.2.2.2.2.2.2.2.2.1, R.cnts.1, rfl, R.cnts.2.2⟩
theorem RelC.setLoss (R : RelC D σ) {v : Int32} : RelC (d_setLoss D v) (hs_setLosses σ v) := ⟨R.1, R.2.1, R.2.2.1, R.2.2.2.1, R.2.2.2.2.1, R.2.2.2.2.2.1, R.2.2.2.2.2.2.1, R.2.2.2.2.2.2.2.1, R.2.2.2.2.2.2.2.2.1, R.2.2.2.2.2.2.2.2.2.1, R.cnts.1, R.cnts.2.1, rfl, R.cnts.2.2.2⟩
theorem RelC.setReads (R : RelC D σ) {v : Int32} : RelC (d_setReads D v) (hs_setReads σ v) := ⟨R.1, R.2.1, R.2.2.1, R.2.2.2.1, R.2.2.2.2.1, R.2.2.2.2.2.1, R.2.2.2.2.2.2.1, R.2.2.2.2.2.2.2.1, R.2.2.2.2.2.2.2.2.1, R.2.2.2.2.2.2.2.2.2.1, R.cnts.1, R.cnts.2.1, R.cnts.2.2.1, rfl, R.cnts.2.2.2.2⟩
theorem RelC.setWrites (R : RelC D σ) {v : Int32} : RelC (d_setWrites D v) (hs_setWrites σ v) := ⟨R.1, R.2.1, R.2.2.1, R.2.2.2.1, R.2.2.2.2.1, R.2.2.2.2.2.1, R.2.2.2.2.2.2.1, R.2.2.2.2.2.2.2.1, R.2.2.2.2.2.2.2.2.1, R.2.2.2.2.2.2.2.2.2.1, R.cnts.1, R.cnts.2.1, R.cnts.2.2.1, R.cnts.2.2.2.1, rfl⟩
theorem RelC.setAge (R : RelC D σ) {f : Nat → Nat} {g : Nat → Int32} (h : ∀ s, s < 4 → g s = nI (f s)) : RelC (d_setAge D f) (hs_setAgeing σ g) := ⟨R.1, R.2.1, h, R.2.2.2⟩
theorem RelC.setGiv (R : RelC D σ) {f : Nat → Bool} {g : Nat → Int32} (h : ∀ s, s < 4 → g s = bi (f s)) : RelC (d_setGiv D f) (hs_setGivenUp σ g) := ⟨R.1, R.2.1, R.2.2.1, R.2.2.2.1, h, R.2.2.2.2.2⟩
theorem RelC.setWear (R : RelC D σ) {f : Nat → Nat} {g : Nat → Int32} (h : ∀ s, s < 64 → g s = nI (f s)) : RelC (d_setWear D f) (hs_setWear σ g) := ⟨R.1, R.2.1, R.2.2.1, R.2.2.2.1, R.2.2.2.2.1, h, R.2.2.2.2.2.2⟩
theorem RelC.setVal (R : RelC D σ) {f : Nat → Nat} {g : Nat → Int32} (h : ∀ s, s < 64 → g s = nI (f s)) : RelC (d_setVal D f) (hs_setValue σ g) := ⟨R.1, R.2.1, R.2.2.1, R.2.2.2.1, R.2.2.2.2.1, R.2.2.2.2.2.1, h, R.2.2.2.2.2.2.2⟩
theorem RelC.setRof (R : RelC D σ) {f g : Nat → Int32} (h : ∀ s, s < 64 → g s = f s) : RelC (d_setRof D f) (hs_setRescuesOf σ g) := ⟨R.1, R.2.1, R.2.2.1, R.2.2.2.1, R.2.2.2.2.1, R.2.2.2.2.2.1, R.2.2.2.2.2.2.1, h, R.2.2.2.2.2.2.2.2⟩
theorem rC_setBY (R : RelC D σ) {f : Nat → Nat} {g1 g2 : Nat → Int32} (h1 : ∀ s, s < 64 → g1 s = co (srv (d_sp D) f s)) (h2 : ∀ s, s < 64 → g2 s = co (cli (d_sp D) f s)) : RelC (d_setBY D f) (hs_setClient (hs_setServer σ g1) g2) := ⟨R.1, R.2.1, R.2.2.1, R.2.2.2.1, R.2.2.2.2.1, R.2.2.2.2.2.1, R.2.2.2.2.2.2.1, R.2.2.2.2.2.2.2.1, h1, h2, R.2.2.2.2.2.2.2.2.2.2⟩
theorem nI_up {f : Nat → Nat} {g : Nat → Int32} {N k v : Nat} {x : Int32} (h : ∀ s, s < N → g s = nI (f s)) (hx : x = nI v) : ∀ s, s < N → upd g k x s = nI (va_up f k v s) := by
  intro s hs
  by_cases c : s = k
  · rw [c, upd_eq, up_eq, hx]
  · rw [upd_ne _ _ c, up_ne _ _ c, h s hs]
/-! who serves whom, changed -/
theorem srv_up {sp bY : Nat → Nat} {a x s : Nat} (ha : isAd sp a = true) : srv sp (va_up bY a x) s = if s = a then (if x < 64 then some x else none) else srv sp bY s := by
  unfold srv
  by_cases c : s = a
  · rw [if_pos c, c, up_eq]
    by_cases q : x < 64
    · rw [if_pos ⟨ha, q⟩, if_pos q]
    · rw [if_neg (fun z => q z.2), if_neg q]
  · rw [if_neg c, up_ne _ _ c]
theorem cli_eq {sp bY : Nat → Nat} {s c : Nat} (h1 : isAd sp c = true) (h2 : bY c = s) (h3 : ∀ b, isAd sp b = true → bY b = s → b = c) : cli sp bY s = some c := by
  cases e : cli sp bY s with
  | none => exact absurd h2 (cli_none e h1)
  | some d =>
    obtain ⟨g1, g2⟩ := cli_some e
    rw [h3 d g1 g2]
theorem cli_up {sp bY : Nat → Nat} {a x s : Nat} (hinj : ∀ x y, isAd sp x = true → isAd sp y = true → bY x = bY y → bY x < 64 → x = y) (ha : isAd sp a = true) (hfree : ∀ b, isAd sp b = true → b ≠ a → bY b ≠ x) (hs : s < 64) : cli sp (va_up bY a x) s = if s = x then some a else if s = bY a then none else cli sp bY s := by
  by_cases c1 : s = x
  · rw [if_pos c1]
    refine cli_eq ha (by rw [up_eq, c1]) (fun b hb e => ?_)
    by_cases c : b = a
    · exact c
    · rw [up_ne _ _ c, c1] at e; exact absurd e (hfree b hb c)
  · rw [if_neg c1]
    by_cases c2 : s = bY a
    · rw [if_pos c2]
      refine cli_no (fun b hb e => ?_)
      by_cases c : b = a
      · rw [c, up_eq] at e; exact c1 e.symm
      · rw [up_ne _ _ c] at e; exact c (hinj b a hb ha (e.trans c2) (by omega))
    · rw [if_neg c2]
      unfold cli
      refine fnd_cong (fun y _ _ => ?_)
      by_cases c : y = a
      · rw [c, up_eq, decide_eq_false (fun q => c1 q.symm), decide_eq_false (fun q => c2 q.symm)]
      · rw [up_ne _ _ c]
theorem kC_release (R : RelC D σ) (B : Bw D) {a : Nat} (ha : isAd (d_sp D) a = true) {post : HS → Prop} (h : ∀ σ', RelC (byD D a 64) σ' → post σ') : wpX1_release σ (nI a) post := by
  have hl := isAd_lt ha
  have hfree : ∀ b, isAd (d_sp D) b = true → b ≠ a → d_bY D b ≠ 64 → True := fun _ _ _ _ => trivial
  have hsrv : ∀ g : Nat → Int32, (∀ s, s < 64 → g s = hs_server σ s) → ∀ s, s < 64 → upd g a (-5) s = co (srv (d_sp D) (va_up (d_bY D) a 64) s) := by
    intro g hg s hs
    rw [srv_up ha]
    by_cases c : s = a
    · rw [c, upd_eq, if_pos rfl]; rfl
    · rw [upd_ne _ _ c, if_neg c, hg s hs, R.srv s hs]
  unfold wpX1_release byD at *
  have J : ∀ σ1 : HS, (∀ s, s < 64 → hs_server σ1 s = hs_server σ s) → (∀ g, (∀ s, s < 64 → g s = co (srv (d_sp D) (va_up (d_bY D) a 64) s)) → RelC (d_setBY D (va_up (d_bY D) a 64)) (hs_setServer σ1 g)) → wpX1_release_J21 (nI a) post σ1 := by
    intro σ1 h1 h2
    unfold wpX1_release_J21
    refine ⟨pk_in a 64 hl, ?_⟩
    rw [nI_clamp (by omega)]
    exact h _ (h2 _ (hsrv _ h1))
  refine kC_lostN R ha (fun q => ?_) (fun q => ?_)
  · refine ⟨fun _ => J σ (fun _ _ => rfl) (fun g hg => ?_), fun z => (by cases z)⟩
    refine rC_setBY (g2 := hs_client σ) R hg (fun s hs => ?_)
    rw [R.cli s hs]
    refine congrArg co (fnd_cong (fun y _ _ => ?_))
    by_cases c : y = a
    · rw [c, up_eq, decide_eq_false (by omega), decide_eq_false (by omega)]
    · rw [up_ne _ _ c]
  · refine ⟨fun z => (by cases z), fun _ => ⟨pk_in a 64 hl, ?_⟩⟩
    rw [kC_srv R ha q]
    refine ⟨pk_in (d_bY D a) 64 q, ?_⟩
    rw [nI_clamp (by omega)]
    refine J _ (fun _ _ => rfl) (fun g hg => ?_)
    refine rC_setBY (g2 := upd (hs_client σ) (d_bY D a) (-5)) R hg (fun s hs => ?_)
    by_cases c : s = d_bY D a
    · rw [c, upd_eq]
      rw [cli_no (fun b hb e => ?_)]
      · rfl
      · by_cases cb : b = a
        · rw [cb, up_eq] at e; omega
        · rw [up_ne _ _ cb] at e; exact cb (B.inj b a hb ha e (by omega))
    · rw [upd_ne _ _ c, R.cli s hs]
      refine congrArg co (fnd_cong (fun y _ _ => ?_))
      by_cases cy : y = a
      · rw [cy, up_eq, decide_eq_false (fun z => c z.symm), decide_eq_false (by omega)]
      · rw [up_ne _ _ cy]
theorem kC_lend (R : RelC D σ) (B : Bw D) {a x : Nat} (ha : isAd (d_sp D) a = true) (hx : x < 64) (hfree : ∀ b, isAd (d_sp D) b = true → b ≠ a → d_bY D b ≠ x) {post : HS → Prop} (h : ∀ σ', RelC (byD D a x) σ' → post σ') : wpX1_lend σ (nI a) (nI x) post := by
  have hl := isAd_lt ha
  unfold wpX1_lend
  refine kC_release R B ha (fun σ1 R1 => ⟨pk_in a 64 hl, pk_in x 64 hx, ?_⟩)
  have es : d_sp (byD D a 64) = d_sp D := (a_by D a 64).2.2.2.1
  have eb : d_bY (byD D a 64) = va_up (d_bY D) a 64 := by simp only [a_by]
  have hsv := R1.srv
  have hcl := R1.cli
  rw [es, eb] at hsv hcl
  rw [nI_clamp (by omega), nI_clamp (by omega)]
  refine h _ ?_
  have eB : byD D a x = d_setBY (byD D a 64) (va_up (d_bY D) a x) := rfl
  rw [eB]
  refine rC_setBY R1 (fun s hs => ?_) (fun s hs => ?_)
  · rw [es, srv_up ha]
    by_cases c : s = a
    · rw [c, upd_eq, if_pos rfl, if_pos hx]; rfl
    · rw [upd_ne _ _ c, if_neg c, hsv s hs, srv_up ha, if_neg c]
  · rw [es, cli_up B.inj ha hfree hs]
    by_cases c : s = x
    · rw [c, upd_eq, if_pos rfl]; rfl
    · rw [upd_ne _ _ c, if_neg c, hcl s hs]
      by_cases c2 : s = d_bY D a
      · rw [if_pos c2, cli_no (fun b hb e => ?_)]
        by_cases cb : b = a
        · rw [cb, up_eq] at e; omega
        · rw [up_ne _ _ cb] at e; exact cb (B.inj b a hb ha (e.trans c2) (by omega))
      · rw [if_neg c2]
        refine congrArg co (fnd_cong (fun y _ _ => ?_))
        by_cases cy : y = a
        · rw [cy, up_eq, decide_eq_false (by omega), decide_eq_false (fun z => c2 z.symm)]
        · rw [up_ne _ _ cy]
theorem kC_lose (R : RelC D σ) (B : Bw D) {a : Nat} (ha : isAd (d_sp D) a = true) {post : HS → Prop} (h : ∀ σ', RelC (loseD D a) σ' → post σ') : wpX1_lose σ (nI a) post := by
  unfold wpX1_lose
  refine kC_release R B ha (fun σ1 R1 => ?_)
  have e : hs_losses σ1 = d_loss D := by rw [R1.cnts.2.2.1]; simp only [a_by]
  rw [e]
  exact h _ R1.setLoss
theorem kC_moveTo (R : RelC D σ) (B : Bw D) {s : Nat} (hs : s < 64) {post : HS → Prop} (h : ∀ σ', RelC (moveD D s) σ' → post σ') : wpX1_moveTo σ (nI s) post := by
  have ha := B.arm
  unfold wpX1_moveTo
  rw [R.arm]
  refine kS_stepsBetween ha hs ?_
  rw [R.cnts.1]
  exact h _ R.setSteps.setArm
theorem kC_goTo (R : RelC D σ) (B : Bw D) {a : Nat} (ha : isAd (d_sp D) a = true) (hb : d_bY D a < 64) {post : HS → Prop} (h : ∀ σ', RelC (goD D a) σ' → post σ') : wpX1_goTo σ (nI a) post := by
  unfold wpX1_goTo
  refine kC_stepsTo R B ha hb ⟨pk_in a 64 (isAd_lt ha), ?_⟩
  rw [kC_srv R ha hb, R.cnts.1]
  exact h _ R.setSteps.setArm
theorem kC_wearR (R : RelC D σ) {s : Nat} (hs : s < 64) {post : HS → Prop} (h : ∀ σ', RelC (wearD D s 1) σ' → post σ') : wpX1_wearByReading σ (nI s) post := by
  unfold wpX1_wearByReading
  refine ⟨pk_in s 64 hs, kS_headOf (by omega) ⟨pk_in (s / 16) 4 (by omega), ?_⟩⟩
  rw [nI_clamp (by omega), nI_clamp (by omega), R.wear s hs, R.age _ (by omega), nI_add]
  refine h _ (R.setWear (nI_up R.wear ?_))
  rw [Nat.one_mul]
theorem kC_wearW (R : RelC D σ) {s : Nat} (hs : s < 64) {post : HS → Prop} (h : ∀ σ', RelC (wearD D s 2) σ' → post σ') : wpX1_wearByWriting σ (nI s) post := by
  unfold wpX1_wearByWriting
  refine ⟨pk_in s 64 hs, kS_headOf (by omega) ⟨pk_in (s / 16) 4 (by omega), ?_⟩⟩
  rw [nI_clamp (by omega), nI_clamp (by omega), R.wear s hs, R.age _ (by omega), nI_2m, nI_add]
  exact h _ (R.setWear (nI_up R.wear rfl))
theorem kC_lookAt (R : RelC D σ) (B : Bw D) {a : Nat} (ha : isAd (d_sp D) a = true) (hb : d_bY D a < 64) {post : HS → Prop} (h : ∀ σ', RelC (lookD D a) σ' → post σ') : wpX1_lookAt σ (nI a) post := by
  have hl := isAd_lt ha
  unfold wpX1_lookAt
  unfold lookD at h
  refine ⟨pk_in a 64 hl, ?_⟩
  rw [kC_srv R ha hb]
  refine kC_isGood R B hb ⟨fun q => ?_, fun q => ?_⟩
  · rw [if_pos (of_decide_eq_true q)] at h; exact h σ R
  · rw [if_neg (of_decide_eq_false q)] at h
    refine kC_lendableTo R B hl ?_
    cases e : lendD D a with
    | none =>
      rw [e] at h
      have h : ∀ σ', RelC (if 2 * d_lim D ≤ d_wear D (d_bY D a) then loseD D a else D) σ' → post σ' := h
      refine ⟨fun _ => kC_isBad R B hb ⟨fun z => ?_, fun z => ?_⟩, fun q => absurd rfl q⟩
      · rw [if_pos (of_decide_eq_true z)] at h; exact kC_lose R B ha h
      · rw [if_neg (of_decide_eq_false z)] at h; exact h σ R
    | some x =>
      rw [e] at h
      have h : ∀ σ', RelC (rescD D a x) σ' → post σ' := h
      obtain ⟨g1, g2, g3, g4, g5⟩ := lend_free hl e
      refine ⟨fun z => absurd z (co_ne (by omega)), fun _ => ?_⟩
      show wpX1_lend σ (nI a) (nI x) _
      refine kC_lend R B ha g1 (fun b hb2 _ => g2 b hb2) (fun σ1 R1 => ?_)
      refine kC_moveTo R1 (B.by_ (fun b hb2 _ => g2 b hb2)) g1 (fun σ2 R2 => kC_wearW R2 g1 (fun σ3 R3 => ?_))
      rw [nI_clamp (by omega), R3.cnts.2.1, R3.rof a hl]
      refine h _ ?_
      unfold rescD
      have e1 : d_resc (wearD (moveD (byD D a x) x) x 2) = d_resc D := by simp only [a_wear, a_move, a_by]
      have e2 : d_rof (wearD (moveD (byD D a x) x) x 2) = d_rof D := by simp only [a_wear, a_move, a_by]
      have h3 := R3.rof
      rw [e2] at h3
      rw [e1, e2]
      refine R3.setResc.setRof (fun s hs => ?_)
      by_cases c : s = a
      · rw [c, upd_eq, up_eq]
      · rw [upd_ne _ _ c, up_ne _ _ c]; exact h3 s hs
theorem rR_adr (D : DS) {k : Nat} (hk : k < 2 ^ 31) : readR D (adr (nI k)) = readR D k := by
  rw [adr_nI hk]
  by_cases c : k < 64
  · rw [if_pos c]
  · rw [if_neg c]; unfold readR; rw [isAd_64 (Nat.le_refl _), isAd_64 (Nat.not_lt.mp c)]; rfl
theorem wR_adr (D : DS) {k : Nat} (hk : k < 2 ^ 31) (v : Int32) : writeR D (adr (nI k)) v = writeR D k v := by
  rw [adr_nI hk]
  by_cases c : k < 64
  · rw [if_pos c]
  · rw [if_neg c]; unfold writeR; rw [isAd_64 (Nat.le_refl _), isAd_64 (Nat.not_lt.mp c)]; rfl
theorem adr_ad {sp : Nat → Nat} {x : Int32} (h : isAd sp (adr x) = true) : x = nI (adr x) := by
  rcases adr_cases x with ⟨k, hk, rfl, e⟩ | ⟨e, -⟩
  · rw [e]
  · rw [e, isAd_64 (Nat.le_refl _)] at h; cases h
theorem look_val (D : DS) (a : Nat) : d_val (lookD D a) = d_val D := by
  unfold lookD
  by_cases c : d_wear D (d_bY D a) < d_lim D
  · rw [if_pos c]
  · rw [if_neg c]
    cases lendD D a with
    | some x => exact (a_resc D a x).2.2.2.2.2.2.1
    | none =>
      show d_val (if 2 * d_lim D ≤ d_wear D (d_bY D a) then loseD D a else D) = d_val D
      by_cases c2 : 2 * d_lim D ≤ d_wear D (d_bY D a)
      · rw [if_pos c2]; exact (a_lose D a).2.2.2.2.2.2.1
      · rw [if_neg c2]
theorem look_sp (D : DS) (a : Nat) : d_sp (lookD D a) = d_sp D := by
  unfold lookD
  by_cases c : d_wear D (d_bY D a) < d_lim D
  · rw [if_pos c]
  · rw [if_neg c]
    cases lendD D a with
    | some x => exact (a_resc D a x).2.2.2.1
    | none =>
      show d_sp (if 2 * d_lim D ≤ d_wear D (d_bY D a) then loseD D a else D) = d_sp D
      by_cases c2 : 2 * d_lim D ≤ d_wear D (d_bY D a)
      · rw [if_pos c2]; exact (a_lose D a).2.2.2.1
      · rw [if_neg c2]
theorem kC_readAt (R : RelC D σ) (I : Inv D) {x : Int32} {post : Int32 → HS → Prop} (h : ∀ σ', RelC (readR D (adr x)).2 σ' → post (readR D (adr x)).1 σ') : wpX1_readAt σ x post := by
  unfold wpX1_readAt
  unfold readR at h
  refine kC_isAddress R I.1.1 ⟨fun q => ?_, fun q => ?_⟩
  · rw [if_pos q] at h
    have ex := adr_ad q
    generalize adr x = a at q h ex
    subst ex
    have hl := isAd_lt q
    refine kC_lostN R q (fun z => ⟨fun _ => ?_, fun w => (by cases w)⟩) (fun z => ⟨fun w => (by cases w), fun _ => ?_⟩)
    · rw [if_neg (by omega)] at h; exact h σ R
    · rw [if_pos z] at h
      obtain ⟨P1, P2⟩ := I.pre q z (Nat.le_refl 1) (by omega)
      refine kC_goTo R I.1.1 q z (fun σ1 R1 => ⟨pk_in a 64 hl, ?_⟩)
      rw [kC_srv R1 (by simp only [a_go]; exact q) (by simp only [a_go]; exact z)]
      simp only [a_go]
      refine kC_wearR R1 z (fun σ2 R2 => ?_)
      rw [R2.cnts.2.2.2.1]
      refine kC_lookAt (D := d_setReads (wearD (goD D a) (d_bY D a) 1) (d_reads D + 1)) ?_ P1.1.setReads (by simp only [a_setReads, a_wear, a_go]; exact q) (by simp only [a_setReads, a_wear, a_go]; exact z) (fun σ3 R3 => ?_)
      · have e : d_reads (wearD (goD D a) (d_bY D a) 1) = d_reads D := by simp only [a_wear, a_go]
        rw [e]; exact R2.setReads
      · rw [nI_clamp (by omega), R3.val a hl, look_val]
        simp only [a_setReads, a_wear, a_go]
        exact h σ3 R3
  · rw [if_neg (by rw [q]; simp)] at h; exact h σ R
theorem nI_val {v : Int32} (h : 0 ≤ v.toInt ∧ v.toInt ≤ 999) : v = nI v.toInt.toNat := by
  apply Int32.toInt_inj.mp
  rw [nI_toInt (by omega)]
  omega
theorem kC_writeAt (R : RelC D σ) (I : Inv D) {x v : Int32} {post : Int32 → HS → Prop} (h : ∀ σ', RelC (writeR D (adr x) v).2 σ' → post (writeR D (adr x) v).1 σ') : wpX1_writeAt σ x v post := by
  unfold wpX1_writeAt
  unfold writeR at h
  have z0 : (0 : Int32).toInt = 0 := by decide
  have z9 : (999 : Int32).toInt = 999 := by decide
  refine kC_isAddress R I.1.1 ⟨fun q => ?_, fun q => ?_⟩
  · rw [if_pos q] at h
    have ex := adr_ad q
    generalize adr x = a at q h ex
    subst ex
    have hl := isAd_lt q
    refine ⟨fun c => ?_, fun c => ⟨fun c2 => ?_, fun c2 => ?_⟩⟩
    · rw [Int32.lt_iff_toInt_lt, z0] at c
      rw [if_neg (by omega)] at h; exact h σ R
    · rw [Int32.lt_iff_toInt_lt, z0] at c
      rw [Int32.le_iff_toInt_le, z9] at c2
      have hv : 0 ≤ v.toInt ∧ v.toInt ≤ 999 := by omega
      rw [if_pos hv] at h
      have ev := nI_val hv
      have hn : v.toInt.toNat ≤ 999 := by omega
      generalize v.toInt.toNat = n at h ev hn
      subst ev
      have J : ∀ (E : DS) (σ1 : HS), RelC E σ1 → wrAt D a = some E → (∀ σ', RelC (writeD E a n) σ' → post (whoD (writeD E a n) a) σ') → wpX1_writeAt_J53 (nI a) (nI n) post σ1 := by
        intro E σ1 RE hE hp
        have Y := I.rdy q hE
        have Z := Y.write hn
        obtain ⟨BE, ha, hb, hw, -, -⟩ := Y
        have hg := age_le BE hb
        have B1 : Bd (wearD (goD E a) (d_bY E a) 2) := (BE.go hb).worn (by simp only [a_go]; omega)
        unfold wpX1_writeAt_J53
        refine kC_goTo RE BE.1 ha hb (fun σ2 R2 => ⟨pk_in a 64 hl, ?_⟩)
        rw [kC_srv R2 (by simp only [a_go]; exact ha) (by simp only [a_go]; exact hb)]
        simp only [a_go]
        refine kC_wearW R2 hb (fun σ3 R3 => ?_)
        have e1 : d_val (wearD (goD E a) (d_bY E a) 2) = d_val E := by simp only [a_wear, a_go]
        have e2 : d_writes (wearD (goD E a) (d_bY E a) 2) = d_writes E := by simp only [a_wear, a_go]
        have h3 := R3.val
        rw [e1] at h3
        rw [nI_clamp (n := a) (by omega)]
        have R4 := (R3.setVal (nI_up h3 (rfl : nI n = nI n) (k := a)))
        have e5 : hs_writes σ3 = d_writes E := by rw [R3.cnts.2.2.2.2, e2]
        rw [e5]
        have BV := Bw.setVal (a := a) B1.1 hn
        rw [e1] at BV
        refine kC_lookAt R4.setWrites BV.setWrites (by simp only [a_setWrites, a_setVal, a_wear, a_go]; exact ha) (by simp only [a_setWrites, a_setVal, a_wear, a_go]; exact hb) (fun σ5 R5 => ?_)
        have hp5 := hp σ5 R5
        unfold whoD at hp5
        have ha5 : isAd (d_sp (writeD E a n)) a = true := by
          unfold writeD; rw [look_sp]; simp only [a_setWrites, a_setVal, a_wear, a_go]; exact ha
        refine kC_lostN R5 ha5 (fun z => ⟨fun _ => ?_, fun w => (by cases w)⟩) (fun z => ⟨fun w => (by cases w), fun _ => ?_⟩)
        · have z : ¬ d_bY (writeD E a n) a < 64 := Nat.not_lt.mpr z
          rw [if_neg z] at hp5; exact hp5
        · have z : d_bY (writeD E a n) a < 64 := z
          rw [if_pos z] at hp5
          have e6 : hs_server σ5 (nI a).toNatClampNeg = nI (d_bY (writeD E a n) a) := kC_srv R5 ha5 z
          rw [nI_clamp (by omega)] at e6
          rw [e6]; exact hp5
      refine kC_lostN R q (fun z => ⟨fun _ => ?_, fun w => (by cases w)⟩) (fun z => ⟨fun w => (by cases w), fun _ => ?_⟩)
      · refine kC_lendableTo R I.1.1 hl ?_
        have hw : wrAt D a = match lendD D a with | some x => some (byD D a x) | none => none := by unfold wrAt; exact if_neg (by omega)
        cases e : lendD D a with
        | none =>
          rw [e] at hw
          rw [hw] at h
          exact ⟨fun _ => h σ R, fun w => absurd rfl w⟩
        | some y =>
          rw [e] at hw
          rw [hw] at h
          obtain ⟨g1, g2, g3, g4, g5⟩ := lend_free hl e
          refine ⟨fun w => absurd w (co_ne (by omega)), fun _ => ?_⟩
          show wpX1_lend σ (nI a) (nI y) _
          exact kC_lend R I.1.1 q g1 (fun b hb2 _ => g2 b hb2) (fun σ1 R1 => J _ σ1 R1 hw h)
      · have hw : wrAt D a = some D := by unfold wrAt; rw [if_pos z]
        rw [hw] at h
        exact J D σ R hw h
    · rw [Int32.le_iff_toInt_le, z9] at c2
      rw [if_neg (by omega)] at h; exact h σ R
  · rw [if_neg (by rw [q]; simp)] at h; exact h σ R
end CR
