/-! p24: the public calls of the class, by what a state means -/
def Gv (D : DS) : Prop := ∃ h, h < 4 ∧ d_giv D h = false
def SX (χ : XS) (D : DS) (n : Nat) (H : Nat → DS) : Prop := RelC D (xs_now χ) ∧ Inv D ∧ Gv D ∧ n ≤ 4 ∧ HistC (xs_history χ) n H
def StpL (D : DS) (n : Nat) (H : Nat → DS) (E : DS) (m : Nat) (G : Nat → DS) : Prop := (E = D ∧ m = n ∧ G = H) ∨ (m = recN n ∧ G = recH n H D)
theorem nI_nn {k : Nat} (h : k < 2 ^ 31) {x : Int32} (hx : x < 0) : ¬ nI k = x := fun e => nI_pos h (by rw [e]; exact hx)
theorem nI_m1 {k : Nat} (h : k < 2 ^ 31) : ¬ nI k = -1 := nI_nn h (by decide)
theorem nI_bi (a : Nat) (b : Bool) : nI a + bi b = nI (a + (if b = true then 1 else 0)) := by
  cases b
  · rw [if_neg (by decide), bi_f]; exact Int32.add_zero _
  · rw [if_pos rfl, bi_t]; exact nI_1 a
theorem secR_0 (D : DS) (s : Nat) : secR D s 0 = nI (d_wear D s) := by
  unfold secR; rw [if_pos rfl]
theorem secR_1 (D : DS) (s : Nat) : secR D s 1 = nI (gradeN D s) := by
  unfold secR; rw [if_neg (by decide), if_pos rfl]
theorem secR_2 (D : DS) (s : Nat) : secR D s 2 = (if isAd (d_sp D) s = true then 0 else 1) := by
  unfold secR; rw [if_neg (by decide), if_neg (by decide), if_pos rfl]
theorem secR_3 (D : DS) (s : Nat) : secR D s 3 = co (cli (d_sp D) (d_bY D) s) := by
  unfold secR; rw [if_neg (by decide), if_neg (by decide), if_neg (by decide), if_pos rfl]
theorem secR_4 (D : DS) (s : Nat) : secR D s 4 = (if fr D s = true then 1 else 0) := by
  unfold secR; rw [if_neg (by decide), if_neg (by decide), if_neg (by decide), if_neg (by decide), if_pos rfl]
theorem addrR_0 (D : DS) (a : Nat) : addrR D a 0 = (if d_bY D a < 64 then nI (d_val D a) else -5) := by
  unfold addrR; rw [if_pos rfl]
theorem addrR_1 (D : DS) (a : Nat) : addrR D a 1 = co (srv (d_sp D) (d_bY D) a) := by
  unfold addrR; rw [if_neg (by decide), if_pos rfl]
theorem addrR_2 (D : DS) (a : Nat) : addrR D a 2 = (if d_bY D a < 64 ∧ d_bY D a ≠ a then 1 else 0) := by
  unfold addrR; rw [if_neg (by decide), if_neg (by decide), if_pos rfl]
theorem addrR_3 (D : DS) (a : Nat) : addrR D a 3 = co (lendD D a) := by
  unfold addrR; rw [if_neg (by decide), if_neg (by decide), if_neg (by decide), if_pos rfl]
theorem addrR_4 (D : DS) (a : Nat) : addrR D a 4 = (if d_bY D a < 64 then nI (stepsD D a) else -5) := by
  unfold addrR; rw [if_neg (by decide), if_neg (by decide), if_neg (by decide), if_neg (by decide), if_pos rfl]
theorem addrR_5 (D : DS) (a : Nat) : addrR D a 5 = d_rof D a := by
  unfold addrR; rw [if_neg (by decide), if_neg (by decide), if_neg (by decide), if_neg (by decide), if_neg (by decide), if_pos rfl]
theorem headR_0 (D : DS) (h : Nat) : headR D h 0 = nI (d_age D h) := by
  unfold headR; rw [if_pos rfl]
theorem headR_1 (D : DS) (h : Nat) : headR D h 1 = nI (d_sp D h) := by
  unfold headR; rw [if_neg (by decide), if_pos rfl]
theorem headR_2 (D : DS) (h : Nat) : headR D h 2 = nI (nFr D h) := by
  unfold headR; rw [if_neg (by decide), if_neg (by decide), if_pos rfl]
theorem headR_3 (D : DS) (h : Nat) : headR D h 3 = bi (d_giv D h) := by
  unfold headR; rw [if_neg (by decide), if_neg (by decide), if_neg (by decide), if_pos rfl]
theorem headR_4 (D : DS) (h : Nat) : headR D h 4 = nI (cnt (elsQ (cli (d_sp D) (d_bY D)) h) 16 (16 * h)) := by
  unfold headR; rw [if_neg (by decide), if_neg (by decide), if_neg (by decide), if_neg (by decide), if_pos rfl]
theorem headR_5 (D : DS) (h : Nat) : headR D h 5 = nI (cnt (elsQ (srv (d_sp D) (d_bY D)) h) 16 (16 * h)) := by
  unfold headR; rw [if_neg (by decide), if_neg (by decide), if_neg (by decide), if_neg (by decide), if_neg (by decide), if_pos rfl]
theorem headR_6 (D : DS) (h : Nat) : headR D h 6 = nI (lostH D h) := by
  unfold headR; rw [if_neg (by decide), if_neg (by decide), if_neg (by decide), if_neg (by decide), if_neg (by decide), if_neg (by decide), if_pos rfl]
theorem headR_7 (D : DS) (h : Nat) : headR D h 7 = nI (wearH D h) := by
  unfold headR; rw [if_neg (by decide), if_neg (by decide), if_neg (by decide), if_neg (by decide), if_neg (by decide), if_neg (by decide), if_neg (by decide), if_pos rfl]
theorem headR_8 (D : DS) (h : Nat) : headR D h 8 = nI (gradH D h 1) := by
  unfold headR; rw [if_neg (by decide), if_neg (by decide), if_neg (by decide), if_neg (by decide), if_neg (by decide), if_neg (by decide), if_neg (by decide), if_neg (by decide), if_pos rfl]
theorem headR_9 (D : DS) (h : Nat) : headR D h 9 = nI (gradH D h 2) := by
  unfold headR; rw [if_neg (by decide), if_neg (by decide), if_neg (by decide), if_neg (by decide), if_neg (by decide), if_neg (by decide), if_neg (by decide), if_neg (by decide), if_neg (by decide), if_pos rfl]
theorem wholeR_0 (D : DS) : wholeR D 0 = nI (d_lim D) := by
  unfold wholeR; rw [if_pos rfl]
theorem wholeR_1 (D : DS) : wholeR D 1 = nI (cnt (isAd (d_sp D)) 64 0) := by
  unfold wholeR; rw [if_neg (by decide), if_pos rfl]
theorem wholeR_2 (D : DS) : wholeR D 2 = nI (cnt (lostQ D) 64 0) := by
  unfold wholeR; rw [if_neg (by decide), if_neg (by decide), if_pos rfl]
theorem wholeR_3 (D : DS) : wholeR D 3 = nI (cnt (lwD D) 64 0) := by
  unfold wholeR; rw [if_neg (by decide), if_neg (by decide), if_neg (by decide), if_pos rfl]
theorem wholeR_4 (D : DS) : wholeR D 4 = nI (cnt (fr D) 64 0) := by
  unfold wholeR; rw [if_neg (by decide), if_neg (by decide), if_neg (by decide), if_neg (by decide), if_pos rfl]
theorem wholeR_5 (D : DS) : wholeR D 5 = nI (d_arm D % 16) := by
  unfold wholeR; rw [if_neg (by decide), if_neg (by decide), if_neg (by decide), if_neg (by decide), if_neg (by decide), if_pos rfl]
theorem wholeR_6 (D : DS) : wholeR D 6 = nI (d_arm D / 16) := by
  unfold wholeR; rw [if_neg (by decide), if_neg (by decide), if_neg (by decide), if_neg (by decide), if_neg (by decide), if_neg (by decide), if_pos rfl]
theorem wholeR_7 (D : DS) : wholeR D 7 = d_steps D := by
  unfold wholeR; rw [if_neg (by decide), if_neg (by decide), if_neg (by decide), if_neg (by decide), if_neg (by decide), if_neg (by decide), if_neg (by decide), if_pos rfl]
theorem wholeR_8 (D : DS) : wholeR D 8 = d_resc D := by
  unfold wholeR; rw [if_neg (by decide), if_neg (by decide), if_neg (by decide), if_neg (by decide), if_neg (by decide), if_neg (by decide), if_neg (by decide), if_neg (by decide), if_pos rfl]
theorem wholeR_9 (D : DS) : wholeR D 9 = d_loss D := by
  unfold wholeR; rw [if_neg (by decide), if_neg (by decide), if_neg (by decide), if_neg (by decide), if_neg (by decide), if_neg (by decide), if_neg (by decide), if_neg (by decide), if_neg (by decide), if_pos rfl]
theorem wholeR_10 (D : DS) : wholeR D 10 = d_reads D := by
  unfold wholeR; rw [if_neg (by decide), if_neg (by decide), if_neg (by decide), if_neg (by decide), if_neg (by decide), if_neg (by decide), if_neg (by decide), if_neg (by decide), if_neg (by decide), if_neg (by decide), if_pos rfl]
theorem wholeR_11 (D : DS) : wholeR D 11 = d_writes D := by
  unfold wholeR; rw [if_neg (by decide), if_neg (by decide), if_neg (by decide), if_neg (by decide), if_neg (by decide), if_neg (by decide), if_neg (by decide), if_neg (by decide), if_neg (by decide), if_neg (by decide), if_neg (by decide), if_pos rfl]
section QX
variable {χ : XS} {D : DS} {n : Nat} {H : Nat → DS}
theorem qCount (S : SX χ D n H) {w : Int32} (h12 : ¬ w = 12) (h13 : ¬ w = 13) {post : Int32 → Prop} (hp : post (wholeR D w)) : wpX3_count χ w post := by
  unfold wpX3_count
  exact ⟨fun e => absurd e h12, fun e => absurd e h13, fun _ _ => kC_tellWhole S.1 S.2.1.1.1 hp⟩
theorem qStates (S : SX χ D n H) {post : Int32 → Prop} (hp : post (nI n)) : wpX3_count χ 12 post := by
  unfold wpX3_count wpX2_states
  refine ⟨fun _ => ?_, fun e => absurd e (by decide), fun e => absurd rfl e⟩
  rw [S.2.2.2.2.1]; exact hp
theorem qSec (S : SX χ D n H) {k : Nat} (hk : k < 64) {w : Int32} {post : Int32 → Prop} (hp : post (secR D k w)) : wpX3_sector χ (nI k) w post := by
  unfold wpX3_sector
  refine kS_isSector ?_
  rw [adr_lt hk]
  exact ⟨fun _ => kC_tellSector S.1 S.2.1.1.1 hk hp, fun z => absurd hk (of_decide_eq_false z)⟩
theorem qSec64 {w : Int32} {post : Int32 → Prop} (hp : post (-1)) : wpX3_sector χ (nI 64) w post := by
  unfold wpX3_sector
  refine kS_isSector ?_
  rw [adr_nI (by omega), if_neg (by omega)]
  exact ⟨fun z => absurd (of_decide_eq_true z) (by omega), fun _ => hp⟩
theorem qAdr (S : SX χ D n H) {k : Nat} (hk : k < 2 ^ 31) {w : Int32} {post : Int32 → Prop} (h1 : isAd (d_sp D) k = true → post (addrR D k w)) (h2 : isAd (d_sp D) k = false → post (-1)) : wpX3_address χ (nI k) w post := by
  unfold wpX3_address
  exact kC_isAdN S.1 S.2.1.1.1 hk ⟨fun q => kC_tellAddress S.1 S.2.1.1.1 q (h1 q), h2⟩
theorem qAdY (S : SX χ D n H) {k : Nat} (q : isAd (d_sp D) k = true) {w : Int32} {post : Int32 → Prop} (h1 : post (addrR D k w)) : wpX3_address χ (nI k) w post :=
  qAdr S (by have := isAd_lt q; omega) (fun _ => h1) (fun z => by rw [q] at z; cases z)
theorem qAdN (S : SX χ D n H) {k : Nat} (hk : k < 2 ^ 31) (q : isAd (d_sp D) k = false) {w : Int32} {post : Int32 → Prop} (h1 : post (-1)) : wpX3_address χ (nI k) w post :=
  qAdr S hk (fun z => by rw [q] at z; cases z) (fun _ => h1)
theorem qHead (S : SX χ D n H) {h : Nat} (hh : h < 4) {w : Int32} {post : Int32 → Prop} (hp : post (headR D h w)) : wpX3_head χ (nI h) w post := by
  unfold wpX3_head
  refine kS_isHead (fun k hk e => ?_) (fun q => ?_)
  · exact ⟨fun _ => kC_tellHead S.1 S.2.1.1.1 hh hp, fun z => (by cases z)⟩
  · rcases q with q | q
    · exact absurd q (nI_pos (by omega))
    · rw [Int32.le_iff_toInt_le, nI_toInt (by omega), nI_toInt (by omega)] at q; omega
theorem qHead4 {w : Int32} {post : Int32 → Prop} (hp : post (-1)) : wpX3_head χ (nI 4) w post := by
  unfold wpX3_head
  refine kS_isHead (fun k hk e => ?_) (fun q => ⟨fun z => (by cases z), fun _ => hp⟩)
  have e := nI_inj (by omega) (by omega) e
  omega
theorem qWorst (S : SX χ D n H) {r : Int32} (hr : 0 ≤ r) {post : Int32 → Prop} (hp : post (rankA D r)) : wpX3_worst χ r post := by
  unfold wpX3_worst
  exact ⟨fun _ => kC_ofRank S.1 S.2.1.1.1 hp, fun z => absurd hr z⟩
theorem qWorstN {r : Int32} (hr : ¬ 0 ≤ r) {post : Int32 → Prop} (hp : post (-2)) : wpX3_worst χ r post := by
  unfold wpX3_worst
  exact ⟨fun z => absurd z hr, fun _ => hp⟩
theorem qLeft (S : SX χ D n H) {x : Int32} {post : Int32 → Prop} (hp : post (leftR D (adr x))) : wpX3_readsLeft χ x post := by
  unfold wpX3_readsLeft
  exact kC_left S.1 S.2.1 hp
/-! acts -/
theorem SX.to (S : SX χ D n H) {E : DS} (I : Inv E) (G : Gv E) {σt σ' : HS} {η' : HI} (R : RelC E σ') (Q : HistC η' (recN n) (recH n H D)) : SX (cR χ σt σ' η') E (recN n) (recH n H D) := ⟨R, I, G, recN_le S.2.2.2.1, Q⟩
theorem qAct (S : SX χ D n H) {r : Int32 × DS} (hI : ¬ r.1 < 0 → Inv r.2 ∧ Gv r.2) {post : Int32 → XS → Prop} (h1 : r.1 < 0 → ∀ χ', SX χ' D n H → post r.1 χ') (h2 : ¬ r.1 < 0 → ∀ χ', SX χ' r.2 (recN n) (recH n H D) → post r.1 χ') : CAct χ D n H r post :=
  ⟨fun q σt => h1 q _ S, fun q σt σ' η' R Q => h2 q _ (S.to (hI q).1 (hI q).2 R Q)⟩
theorem qRead (S : SX χ D n H) {x : Int32} {post : Int32 → XS → Prop} (A : CAct χ D n H (readR D (adr x)) post) : wpX3_read χ x post := by
  unfold wpX3_read
  exact kC_startTrial S.1 (fun σt Rt => kC_readAt (D := D) Rt S.2.1 (fun σ2 R2 => kC_end S.2.2.2.1 S.2.2.2.2 S.1 A (fun _ => R2)))
theorem qWrite (S : SX χ D n H) {x v : Int32} {post : Int32 → XS → Prop} (A : CAct χ D n H (writeR D (adr x) v) post) : wpX3_write χ x v post := by
  unfold wpX3_write
  exact kC_startTrial S.1 (fun σt Rt => kC_writeAt (D := D) Rt S.2.1 (fun σ2 R2 => kC_end S.2.2.2.1 S.2.2.2.2 S.1 A (fun _ => R2)))
theorem qSetLimit (S : SX χ D n H) {x : Int32} {post : Int32 → XS → Prop} (A : CAct χ D n H (limR D x) post) : wpX3_setLimit χ x post := by
  unfold wpX3_setLimit
  exact kC_startTrial S.1 (fun σt Rt => kC_changeLimit (D := D) Rt S.2.1.1.1 (kC_res S.2.2.2.1 S.2.2.2.2 S.1 A))
theorem qGiveBack (S : SX χ D n H) {x : Int32} {post : Int32 → XS → Prop} (A : CAct χ D n H (backR D (adr x)) post) : wpX3_giveBack χ x post := by
  unfold wpX3_giveBack
  exact kC_startTrial S.1 (fun σt Rt => kC_giveBack (D := D) Rt S.2.1 (fun σ2 R2 => kC_end S.2.2.2.1 S.2.2.2.2 S.1 A (fun _ => R2)))
theorem isHeadY {h : Nat} (hh : h < 4) {post : Bool → Prop} (hp : post true) : wpX3_isHead (nI h) post := by
  refine kS_isHead (fun k hk e => hp) (fun q => ?_)
  rcases q with q | q
  · exact absurd q (nI_pos (by omega))
  · rw [Int32.le_iff_toInt_le, nI_toInt (by omega), nI_toInt (by omega)] at q; omega
theorem qTest (S : SX χ D n H) {h : Nat} (hh : h < 4) {post : Int32 → XS → Prop} (A : CAct χ D n H (testR D h) post) : wpX3_test χ (nI h) post := by
  unfold wpX3_test
  refine isHeadY hh ⟨fun _ => ?_, fun z => (by cases z)⟩
  exact kC_startTrial S.1 (fun σt Rt => kC_testHead (D := D) Rt S.2.1 hh (fun σ2 R2 => kC_end S.2.2.2.1 S.2.2.2.2 S.1 A (fun _ => R2)))
theorem qWould (S : SX χ D n H) {h : Nat} (hh : h < 4) {post : Int32 → XS → Prop} (h1 : d_giv D h = true → post (-5) χ) (h2 : d_giv D h = false → ∀ χ', SX χ' D n H → post (nI (vacC D h)) χ') : wpX3_wouldLose χ (nI h) post := by
  unfold wpX3_wouldLose
  refine isHeadY hh ⟨fun _ => kC_isGivenUp S.1 hh ⟨h1, fun w => ?_⟩, fun z => (by cases z)⟩
  refine kC_startTrial S.1 (fun σt Rt => kC_vacate (D := D) Rt S.2.1 hh (fun σ2 R2 => ?_))
  rw [vacD_loss]
  exact h2 w _ S
theorem qGiveUp (S : SX χ D n H) {h : Nat} (hh : h < 4) {post : Int32 → XS → Prop} (h1 : othG (d_giv D) h 4 0 = true → post (-4) χ) (h2 : othG (d_giv D) h 4 0 = false → d_giv D h = true → post (-5) χ) (h3 : othG (d_giv D) h 4 0 = false → d_giv D h = false → CAct χ D n H (nI (vacC D h), vacD D h) post) : wpX3_giveUp χ (nI h) post := by
  unfold wpX3_giveUp
  refine isHeadY hh ⟨fun _ => kC_others S.1 hh ⟨h1, fun q => kC_isGivenUp S.1 hh ⟨h2 q, fun w => ?_⟩⟩, fun z => (by cases z)⟩
  have A := h3 q w
  have C : ∀ {σt : HS} {post : Int32 → HS → Prop}, RelC D σt → (∀ σ', RelC (vacD D h) σ' → post (nI (vacC D h)) σ') → wpX1_vacate σt (nI h) post := fun Rt h => kC_vacate (D := D) Rt S.2.1 hh (fun σ2 R2 => by rw [vacD_loss]; exact h σ2 R2)
  generalize vacD D h = E at A C
  generalize nI (vacC D h) = cc at A C
  exact kC_startTrial S.1 (fun σt Rt => C Rt (fun σ2 R2 => kC_end (r := (cc, E)) S.2.2.2.1 S.2.2.2.2 S.1 A (fun _ => R2)))
theorem qUndo0 (S : SX χ D 0 H) {post : Int32 → XS → Prop} (hp : post (-5) χ) : wpX3_undo χ post := by
  unfold wpX3_undo wpX2_states
  rw [S.2.2.2.2.1]
  exact pk_eq 0 0 (fun _ => hp) (fun z => absurd rfl z)
theorem qUndo (S : SX χ D (n + 1) H) (I : Inv (H n)) (G : Gv (H n)) {post : Int32 → XS → Prop} (hp : ∀ χ', SX χ' (H n) n H → post (nI n) χ') : wpX3_undo χ post := by
  obtain ⟨RC, I0, G0, hn, e1, o, ho, e2, e3⟩ := S
  unfold wpX3_undo wpX2_states
  rw [e1]
  refine pk_eq (n + 1) 0 (fun z => absurd z (by omega)) (fun _ => ?_)
  have en : nI (n + 1) - 1 = nI n := by
    rw [show nI (n + 1) - 1 = nI (n + 1 - 1) from pk_sub (b := 1) (by omega), show n + 1 - 1 = n by omega]
  unfold wpX2_takeBack
  rw [e1, e2]
  refine ⟨fun z => ?_, fun _ => ?_⟩
  · rw [Int32.le_iff_toInt_le, nI_toInt (by omega), show (0 : Int32).toInt = 0 by decide] at z; omega
  rw [en, nI_add, nI_m4 (by omega)]
  refine ⟨pk_in ((o + n) % 4) 4 (by omega), ?_⟩
  rw [nI_clamp (by omega)]
  refine kC_takeOver (e3 n (by omega)) (fun σ' R' => ?_)
  exact hp _ ⟨R', I, G, by omega, rfl, o, ho, e2, fun j hj => e3 j (by omega)⟩
theorem qCopyN (S : SX χ D n H) {x y v : Int32} (h : isAd (d_sp D) (adr x) = false ∨ isAd (d_sp D) (adr y) = false) {post : Int32 → XS → Prop} (hp : post (-1) χ) : wpX3_copy χ x y v post := by
  unfold wpX3_copy
  refine kC_isAddress S.1 S.2.1.1.1 ⟨fun q => kC_isAddress S.1 S.2.1.1.1 ⟨fun q2 => ?_, fun _ => hp⟩, fun _ => hp⟩
  rcases h with h | h
  · rw [q] at h; cases h
  · rw [q2] at h; cases h
theorem qCopy (S : SX χ D n H) {f t M : Nat} (q : isAd (d_sp D) f = true) (q2 : isAd (d_sp D) t = true) (hM : 1 ≤ M ∧ M ≤ 16) {post : Int32 → XS → Prop} (A : CAct χ D n H (copR D f t M) post) : wpX3_copy χ (nI f) (nI t) (nI M) post := by
  have B := S.2.1.1.1
  have lf := isAd_lt q
  have lt := isAd_lt q2
  have hc : (cpyD M D f t).1 ≤ M := cpy_le
  have hn := S.2.2.2.1
  have HC := S.2.2.2.2
  unfold wpX3_copy
  refine kC_isAdN S.1 B (by omega) ⟨fun _ => kC_isAdN S.1 B (by omega) ⟨fun _ => ?_, fun z => by rw [q2] at z; cases z⟩, fun z => by rw [q] at z; cases z⟩
  refine pk_lt M 1 (fun z => absurd z (by omega)) (fun _ => pk_le M 16 (fun _ => ?_) (fun z => absurd z (by omega)))
  have fin : ∀ (σt σ2 : HS), ¬ (cpyD M D f t).1 = 0 → RelC (cpyD M D f t).2 σ2 → wpX3_copy_J84 (nI (cpyD M D f t).1) post (xs_setTrial (xs_setTrial χ σt) σ2) := by
    intro σt σ2 c0 R2
    unfold wpX3_copy_J84
    have e : copR D f t M = (nI (cpyD M D f t).1, (cpyD M D f t).2) := by unfold copR; rw [if_neg c0]
    rw [e] at A
    exact kC_end hn HC S.1 A (fun _ => R2)
  have zero : ∀ (σt : HS), (cpyD M D f t).1 = 0 → post (-5) (xs_setTrial χ σt) := by
    intro σt c0
    have e : copR D f t M = (-5, D) := by unfold copR; rw [if_pos c0]
    rw [e] at A
    exact A.1 (show (-5 : Int32) < 0 by decide) σt
  refine kC_startTrial S.1 (fun σt Rt => kC_copyRow (D := D) Rt S.2.1 lf lt hM.2 (fun e σ2 R2 => ⟨fun k => ?_, fun k => ⟨fun _ => ?_, fun k2 => ?_⟩⟩) (fun e σ2 => ⟨fun k => ?_, fun k => ⟨fun k2 => ?_, fun k2 => ?_⟩⟩))
  · have : M = 0 := nI_inj (by omega) (by omega) k
    omega
  · have z := fin σt σ2 (by omega) R2
    rw [e] at z; exact z
  · exact absurd (Int32.le_refl _) k2
  · exact zero σ2 (nI_inj (by omega) (by omega) k)
  · rw [Int32.le_iff_toInt_le, nI_toInt (by omega), nI_toInt (by omega)] at k2
    omega
  · have c0 : ¬ (cpyD M D f t).1 = 0 := fun z => k (by rw [z]; rfl)
    refine kC_startTrial (χ := xs_setTrial (xs_setTrial χ σt) σ2) (D := D) S.1 (fun σ3 R3 => kC_copyRow (D := D) (M := (cpyD M D f t).1) R3 S.2.1 lf lt (by omega) (fun e2 σ4 R4 => ?_) (fun e2 σ4 => ?_))
    · rw [cpy_again] at R4
      exact fin σ3 σ4 c0 R4
    · rw [cpy_again] at e2; omega
end QX
