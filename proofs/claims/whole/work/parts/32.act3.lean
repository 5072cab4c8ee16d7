/-! giving up, testing, copying -/
def vacN (h : Nat) : Nat → Nat → DS → Nat
  | 0, _, _ => 0
  | m + 1, a, D => (if isAd (d_sp D) a = true ∧ d_bY D a < 64 ∧ d_bY D a / 16 = h then (if lendD D a = none then 1 else 0) else 0) + vacN h m (a + 1) (if isAd (d_sp D) a = true ∧ d_bY D a < 64 ∧ d_bY D a / 16 = h then mvD D a else D)
theorem mv_loss (D : DS) (a : Nat) : d_loss (mvD D a) = d_loss D + nI (if lendD D a = none then 1 else 0) := by
  unfold mvD
  cases e : lendD D a with
  | some x =>
    show d_loss (wearD (byD D a x) x 2) = d_loss D + nI 0
    simp only [a_wear, a_by]
    exact (Int32.add_zero _).symm
  | none =>
    show d_loss (loseD D a) = d_loss D + nI 1
    simp only [a_lose]
    rfl
theorem vac_loss {h : Nat} : ∀ {m a : Nat} {D : DS}, d_loss (vacL h m a D) = d_loss D + nI (vacN h m a D) := by
  intro m
  induction m with
  | zero => intro a D; exact (Int32.add_zero _).symm
  | succ m ih =>
    intro a D
    unfold vacL vacN
    by_cases c : isAd (d_sp D) a = true ∧ d_bY D a < 64 ∧ d_bY D a / 16 = h
    · rw [if_pos c, if_pos c, ih, mv_loss, Int32.add_assoc, nI_add]
    · rw [if_neg c, if_neg c, ih, Nat.zero_add]
theorem vacN_le {h : Nat} : ∀ {m a : Nat} {D : DS}, vacN h m a D ≤ m := by
  intro m
  induction m with
  | zero => intro a D; exact Nat.le_refl _
  | succ m ih =>
    intro a D
    unfold vacN
    have := ih (a := a + 1) (D := (if isAd (d_sp D) a = true ∧ d_bY D a < 64 ∧ d_bY D a / 16 = h then mvD D a else D))
    generalize vacN h m (a + 1) _ = k at this ⊢
    split
    · split <;> omega
    · omega
theorem add_sub_i (a b : Int32) : a + b - a = b := by rw [Int32.add_comm, Int32.add_sub_cancel]
def vacC (D : DS) (h : Nat) : Nat := vacN h 64 0 (d_setGiv D (va_up (d_giv D) h true))
theorem vacD_loss (D : DS) (h : Nat) : d_loss (vacD D h) - d_loss D = nI (vacC D h) := by
  unfold vacD vacC
  rw [vac_loss]
  exact add_sub_i _ _
theorem oth_eq {giv : Nat → Bool} {h : Nat} (hh : h < 4) : (bi (giv 0) + bi (giv 1) + bi (giv 2) + bi (giv 3) - bi (giv h) = 3) ↔ othG giv h 4 0 = true := by
  have : h = 0 ∨ h = 1 ∨ h = 2 ∨ h = 3 := by omega
  rcases this with rfl | rfl | rfl | rfl <;> simp only [othG, Nat.zero_add, Nat.reduceAdd] <;> generalize giv 0 = b0 <;> generalize giv 1 = b1 <;> generalize giv 2 = b2 <;> generalize giv 3 = b3 <;> revert b0 b1 b2 b3 <;> decide
theorem gr_vacD (D : DS) (h : Nat) : Gr 0 D (vacD D h) := by
  unfold vacD
  have g := gr_vac (h := h) (m := 64) (a := 0) (D := d_setGiv D (va_up (d_giv D) h true))
  obtain ⟨d, hd, e⟩ := g
  exact ⟨d, hd, e.trans (by simp only [a_setGiv])⟩
section MV
variable {μ : MO} {D : DS} {n : Nat} {H : Nat → DS}
theorem kM_givesUp (RM : RelM D (mo_now μ)) (I : Inv D) {h : Nat} (hh : h < 4) {post : Int32 → MO → Prop} (hp : ∀ g', RelM (vacD D h) g' → post (nI (vacC D h)) (mo_setNow μ g')) : wpX4_givesUp μ (nI h) post := by
  have L : ∀ (m a c : Nat) (E : DS) (g : Nat → Int32), a + m = 64 → RelM E g → VI h a E → (∀ g', RelM (vacL h m a E) g' → post (nI (c + vacN h m a E)) (mo_setNow μ g')) → wpX4_givesUp_L14 (nI h) post (m + 1) (nI c) (nI a) (mo_setNow μ g) := by
    intro m
    induction m with
    | zero =>
      intro a c E g e RE V hp
      rw [wpX4_givesUp_L14]
      exact pk_le 64 a (fun _ => hp g RE) (fun q => absurd q (by omega))
    | succ m ih =>
      intro a c E g e RE V hp
      rw [wpX4_givesUp_L14]
      refine pk_le 64 a (fun q => absurd q (by omega)) (fun _ => ?_)
      have hl : a < 64 := by omega
      have skip : ¬ (isAd (d_sp E) a = true ∧ d_bY E a < 64 ∧ d_bY E a / 16 = h) → wpX4_givesUp_L14 (nI h) post (m + 1) (nI c) (nI a + 1) (mo_setNow μ g) := fun k => by
        rw [nI_1]
        refine ih (a + 1) c E g (by omega) RE (V.next k) (fun g' R' => ?_)
        have z := hp g'
        unfold vacL vacN at z
        rw [if_neg k, if_neg k, Nat.zero_add] at z
        exact z R'
      refine kM_isAdN (D := E) (μ := mo_setNow μ g) RE V.1 (by omega) ⟨fun q => kM_lostN (D := E) (μ := mo_setNow μ g) RE hl (fun z => ⟨fun _ => skip (fun k => by have := k.2.1; omega), fun w => (by cases w)⟩) (fun z => ⟨fun w => (by cases w), fun _ => ⟨in148 hl, ?_⟩⟩), fun q => skip (fun k => by rw [q] at k; cases k.1)⟩
      rw [cl148 hl, now_set, RE.bY a hl, wh_lt z, nI_pd (by omega)]
      refine pk_eq (d_bY E a / 16) h (fun w => ?_) (fun w => skip (fun k => w k.2.2))
      have k : isAd (d_sp E) a = true ∧ d_bY E a < 64 ∧ d_bY E a / 16 = h := ⟨q, z, w⟩
      have hp : ∀ g', RelM (vacL h m (a + 1) (mvD E a)) g' → post (nI (c + ((if lendD E a = none then 1 else 0) + vacN h m (a + 1) (mvD E a)))) (mo_setNow μ g') := fun g' R' => by
        have y := hp g'
        unfold vacL vacN at y
        rw [if_pos k, if_pos k] at y
        exact y R'
      have V' := V.mv q z w
      unfold mvD at hp V'
      refine kM_lends (D := E) (μ := mo_setNow μ g) RE V.1 hl ?_
      cases el : lendD E a with
      | none =>
        rw [el] at hp V'
        have V' : VI h (a + 1) (loseD E a) := V'
        have hp : ∀ g', RelM (vacL h m (a + 1) (loseD E a)) g' → post (nI (c + (1 + vacN h m (a + 1) (loseD E a)))) (mo_setNow μ g') := hp
        refine ⟨fun _ => ?_, fun y => absurd rfl y⟩
        unfold wpX4_givesUp_J82
        refine ⟨in148 hl, fun _ => ⟨in_5, ?_⟩, fun y => absurd rfl y⟩
        have R1 := mU_bY RE hl (v := 64)
        have e5 : upd g (148 + a) (-1) 5 = d_loss E := R1.loss
        rw [cl148 hl, c_5, set_set, now_set, e5, set_set, nI_1, nI_1]
        refine ih (a + 1) (c + 1) (loseD E a) _ (by omega) (mU_loss R1 (v := d_loss E + 1)) V' (fun g' R' => ?_)
        rw [Nat.add_assoc]; exact hp g' R'
      | some x =>
        rw [el] at hp V'
        obtain ⟨g1, g2, g3, g4, g5⟩ := lend_free hl el
        have V' : VI h (a + 1) (wearD (byD E a x) x 2) := V'
        have hp : ∀ g', RelM (vacL h m (a + 1) (wearD (byD E a x) x 2)) g' → post (nI (c + (0 + vacN h m (a + 1) (wearD (byD E a x) x 2)))) (mo_setNow μ g') := hp
        refine ⟨fun y => absurd y (co_ne (by omega)), fun _ => ?_⟩
        unfold wpX4_givesUp_J82
        refine ⟨in148 hl, fun y => absurd y (co_ne (by omega)), fun _ => ?_⟩
        have R1 := mU_bY RE hl (v := x)
        rw [wh_lt g1] at R1
        show wpX4_wears (mo_setNow (mo_setNow μ g) (upd (mo_now (mo_setNow μ g)) ((148 : Int32) + nI a).toNatClampNeg (nI x))) (nI x) 1 _
        rw [cl148 hl, set_set, now_set]
        refine kM_wearW (D := byD E a x) (μ := mo_setNow μ (upd g (148 + a) (nI x))) R1 (V.1.by_ (fun b hb2 _ => g2 b hb2)) g1 (fun g6 R6 => ?_)
        rw [set_set, nI_1]
        refine ih (a + 1) c (wearD (byD E a x) x 2) g6 (by omega) R6 V' (fun g' R' => ?_)
        have y := hp g' R'
        rw [Nat.zero_add] at y; exact y
  unfold wpX4_givesUp
  refine ⟨in16 hh, 65, ?_⟩
  rw [cl16 hh]
  have R1 := mU_giv RM hh (v := true)
  refine L 64 0 0 (d_setGiv D (va_up (d_giv D) h true)) _ rfl R1 (VI.start I) (fun g' R' => ?_)
  rw [Nat.zero_add]
  exact hp g' R'
theorem vacC_pos (D : DS) (h : Nat) : ¬ nI (vacC D h) < 0 := lt_neg (by
  have := vacN_le (h := h) (m := 64) (a := 0) (D := d_setGiv D (va_up (d_giv D) h true))
  unfold vacC; omega)
theorem kM_giveUp (RM : RelM D (mo_now μ)) (I : Inv D) (hn : n ≤ 4) (HM : HistM (mo_history μ) (mo_kept μ) n H) {h : Nat} (hh : h < 4) {post : Int32 → MO → Prop} (hp : if othG (d_giv D) h 4 0 = true then post (-4) μ else if d_giv D h = true then post (-5) μ else MAct μ D n H (nI (vacC D h), vacD D h) post) : wpX4_giveUp μ (nI h) post := by
  unfold wpX4_giveUp
  refine kM_isHeadY hh ⟨fun _ => ⟨in_16, in_17, in_18, in_19, in16 hh, ?_⟩, fun z => (by cases z)⟩
  rw [c_16, c_17, c_18, c_19, cl16 hh, RM.giv h hh, show mo_now μ 16 = bi (d_giv D 0) from RM.giv 0 (by omega), show mo_now μ 17 = bi (d_giv D 1) from RM.giv 1 (by omega), show mo_now μ 18 = bi (d_giv D 2) from RM.giv 2 (by omega), show mo_now μ 19 = bi (d_giv D 3) from RM.giv 3 (by omega)]
  have eo := oth_eq (giv := d_giv D) hh
  refine ⟨fun q => ?_, fun q => ⟨fun g => ?_, fun g => kM_record hn HM RM (fun ρ Q => ?_)⟩⟩
  · rw [if_pos (eo.mp q)] at hp; exact hp
  · have g : d_giv D h = true := by
      cases e : d_giv D h with
      | true => rfl
      | false => rw [e] at g; exact absurd g (by decide)
    rw [if_neg (fun z => q (eo.mpr z)), if_pos g] at hp; exact hp
  · have g : ¬ d_giv D h = true := fun e => g (by rw [e]; rfl)
    rw [if_neg (fun z => q (eo.mpr z)), if_neg g] at hp
    have pos := vacC_pos D h
    refine kM_givesUp (D := D) (μ := mo_setKept (mo_setHistory μ (rk_history ρ)) (rk_kept ρ)) RM I hh (fun g' R' => ?_)
    generalize vacC D h = cc at hp pos ⊢
    generalize vacD D h = E at hp R'
    exact hp.2 pos (mo_spare μ) (mo_pair μ) g' ρ R' Q
theorem kM_lost (RM : RelM D (mo_now μ)) (B : Bw D) {h : Nat} (hh : h < 4) {post : Int32 → Prop} (hp : post (nI (lostH D h))) : wpX4_lost μ (nI h) post := by
  have L : ∀ (m p c : Nat), p + m = 16 → post (nI (c + cnt (lostQ D) m (16 * h + p))) → wpX4_lost_L4 μ (nI h) post (m + 1) (nI c) (nI p) := by
    intro m
    induction m with
    | zero =>
      intro p c e hp
      rw [wpX4_lost_L4]
      exact pk_le 16 p (fun _ => hp) (fun q => absurd q (by omega))
    | succ m ih =>
      intro p c e hp
      rw [wpX4_lost_L4]
      refine pk_le 16 p (fun q => absurd q (by omega)) (fun _ => ?_)
      rw [nI_ph]
      unfold cnt at hp
      have skip : lostQ D (16 * h + p) = false → wpX4_lost_J41 (nI c) (nI p) post (wpX4_lost_L4 μ (nI h) post (m + 1)) := fun z => by
        unfold wpX4_lost_J41 wpX4_lost_J42
        rw [if_neg (by rw [z]; simp), Nat.zero_add] at hp
        rw [bi_f, Int32.add_zero, nI_1]
        exact ih (p + 1) c (by omega) hp
      refine kM_isAdN RM B (by omega) ⟨fun q => kM_lostN RM (by omega) (fun z => ⟨fun _ => ?_, fun w => (by cases w)⟩) (fun z => ⟨fun w => (by cases w), fun _ => skip (by unfold lostQ; rw [q, decide_eq_false (by omega)]; rfl)⟩), fun q => skip (by unfold lostQ; rw [q]; rfl)⟩
      unfold wpX4_lost_J42
      rw [if_pos (by unfold lostQ; rw [q, decide_eq_true z]; rfl)] at hp
      rw [bi_t, nI_1, nI_1]
      exact ih (p + 1) (c + 1) (by omega) (by rw [show c + 1 + cnt (lostQ D) m (16 * h + (p + 1)) = c + (1 + cnt (lostQ D) m (16 * h + p + 1)) by rw [Nat.add_assoc]; rfl]; exact hp)
  unfold wpX4_lost
  exact ⟨17, L 16 0 0 rfl (by rw [Nat.zero_add]; exact hp)⟩
theorem kM_tests (RM : RelM D (mo_now μ)) (I : Inv D) {h : Nat} (hh : h < 4) {μ1 : MO} {g : Nat → Int32} (Rg : RelM D g) {post : Int32 → MO → Prop} (hp : ∀ g', RelM (tstD h 16 0 D) g' → post (d_resc (tstD h 16 0 D) - d_resc D) (mo_setNow μ1 g')) : wpX4_test_L49 μ (nI h) post 17 0 (mo_setNow μ1 g) := by
  have L : ∀ (m p : Nat) (E : DS) (g : Nat → Int32), p + m = 16 → RelM E g → Inv E → (∀ g', RelM (tstD h m p E) g' → post (d_resc (tstD h m p E) - d_resc D) (mo_setNow μ1 g')) → wpX4_test_L49 μ (nI h) post (m + 1) (nI p) (mo_setNow μ1 g) := by
    intro m
    induction m with
    | zero =>
      intro p E g e RE IE hp
      rw [wpX4_test_L49]
      refine pk_le 16 p (fun _ => ⟨in_4, ?_⟩) (fun q => absurd q (by omega))
      rw [c_4, now_set, RE.resc, RM.resc]
      exact hp g RE
    | succ m ih =>
      intro p E g e RE IE hp
      rw [wpX4_test_L49]
      refine pk_le 16 p (fun q => absurd q (by omega)) (fun _ => ?_)
      rw [nI_ph, nI_1]
      refine kM_reads (D := E) (μ := mo_setNow μ1 g) RE IE (fun g2 R2 => ?_)
      rw [rR_adr E (by omega)] at R2
      rw [set_set]
      exact ih (p + 1) _ g2 (by omega) R2 (IE.rR _) hp
  exact L 16 0 D g rfl Rg I hp
end MV
theorem sim_giveUp : ok_giveUp Sim := by
  intro χ μ i hi S x
  obtain ⟨D, n, H, P⟩ := S.pre
  unfold wpX3_giveUp
  refine kS_isHead (fun k hk e => ⟨fun _ => ?_, fun z => (by cases z)⟩) (fun q => ⟨fun z => (by cases z), fun _ => ?_⟩)
  · subst e
    refine kC_others P.1 hk ⟨fun q => ?_, fun q => kC_isGivenUp P.1 hk ⟨fun w => ?_, fun w => ?_⟩⟩
    · exact kM_giveUp P.2.1 P.2.2.1.1 P.2.2.2.1 P.2.2.2.2.2.1 hk (by rw [if_pos q]; exact ⟨rfl, S.up⟩)
    · exact kM_giveUp P.2.1 P.2.2.1.1 P.2.2.2.1 P.2.2.2.2.2.1 hk (by rw [if_neg (by rw [q]; simp), if_pos w]; exact ⟨rfl, S.up⟩)
    · have oE : Ok (i + 1) (vacD D k) := P.2.2.1.to (P.2.2.1.1.vac k) (gr_vacD D k) (by omega)
      have M : ∀ post, MAct μ D n H (nI (vacC D k), vacD D k) post → wpX4_giveUp μ (nI k) post := fun post h => kM_giveUp P.2.1 P.2.2.1.1 P.2.2.2.1 P.2.2.2.2.2.1 hk (by rw [if_neg (by rw [q]; simp), if_neg (by rw [w]; simp)]; exact h)
      have C : ∀ {σt : HS} {post : Int32 → HS → Prop}, RelC D σt → (∀ σ', RelC (vacD D k) σ' → post (nI (vacC D k)) σ') → wpX1_vacate σt (nI k) post := fun Rt h => kC_vacate (D := D) Rt P.2.2.1.1 hk (fun σ2 R2 => by rw [vacD_loss]; exact h σ2 R2)
      generalize vacD D k = E at oE M C
      generalize nI (vacC D k) = cc at M C
      have A := P.act (r := (cc, E)) (fun _ => oE) M
      exact kC_startTrial P.1 (fun σt Rt => C Rt (fun σ2 R2 => kC_end (r := (cc, E)) P.2.2.2.1 P.2.2.2.2.1 P.1 A (fun _ => R2)))
  · unfold wpX4_giveUp
    exact kM_isHeadN q ⟨fun z => (by cases z), fun _ => ⟨rfl, S.up⟩⟩
theorem sim_wouldLose : ok_wouldLose Sim := by
  intro χ μ i hi S x
  obtain ⟨D, n, H, P⟩ := S.pre
  unfold wpX3_wouldLose
  refine kS_isHead (fun k hk e => ⟨fun _ => ?_, fun z => (by cases z)⟩) (fun q => ⟨fun z => (by cases z), fun _ => ?_⟩)
  · subst e
    have hm : ∀ post : Int32 → MO → Prop, (d_giv D k = true → post (-5) μ) → (d_giv D k = false → ∀ gs g', RelM D g' → post (nI (vacC D k)) (mo_setNow (mo_setSpare μ gs) g')) → wpX4_wouldLose μ (nI k) post := by
      intro post h1 h2
      unfold wpX4_wouldLose
      refine kM_isHeadY hk ⟨fun _ => ⟨in16 hk, ?_⟩, fun z => (by cases z)⟩
      rw [cl16 hk, P.2.1.giv k hk]
      refine ⟨fun g => h1 ?_, fun g => kM_copyD P.2.1 (fun gs Rs => kM_givesUp (D := D) (μ := mo_setSpare μ gs) P.2.1 P.2.2.1.1 hk (fun g1 R1 => kM_copyD (D := D) Rs (fun g2 R2 => h2 ?_ gs g2 R2)))⟩
      · cases e : d_giv D k with
        | true => rfl
        | false => rw [e] at g; exact absurd g (by decide)
      · cases e : d_giv D k with
        | false => rfl
        | true => rw [e] at g; exact absurd rfl g
    refine kC_isGivenUp P.1 hk ⟨fun w => ?_, fun w => ?_⟩
    · exact hm _ (fun _ => ⟨rfl, S.up⟩) (fun z => by rw [w] at z; cases z)
    · refine kC_startTrial P.1 (fun σt Rt => kC_vacate (D := D) Rt P.2.2.1.1 hk (fun σ2 R2 => ?_))
      rw [vacD_loss]
      refine hm _ (fun z => by rw [w] at z; cases z) (fun _ gs g' R' => ⟨rfl, ?_⟩)
      exact ⟨⟨D, P.1, R', P.2.2.1.up⟩, S.2.1.up, S.2.2.1.up, S.2.2.2⟩
  · unfold wpX4_wouldLose
    exact kM_isHeadN q ⟨fun z => (by cases z), fun _ => ⟨rfl, S.up⟩⟩
/-! the rescues of a row of reads -/
def Rs (k : Nat) (D E : DS) : Prop := ∃ d, d ≤ k ∧ d_resc E = d_resc D + nI d
theorem Rs.same {D E : DS} {k : Nat} (e : d_resc E = d_resc D) : Rs k D E := ⟨0, Nat.zero_le _, e.trans (Int32.add_zero _).symm⟩
theorem Rs.trans {D E F : DS} {k l : Nat} (h1 : Rs k D E) (h2 : Rs l E F) : Rs (k + l) D F := by
  obtain ⟨a, ha, e1⟩ := h1
  obtain ⟨b, hb, e2⟩ := h2
  exact ⟨a + b, by omega, by rw [e2, e1, Int32.add_assoc, nI_add]⟩
theorem rs_look (D : DS) (a : Nat) : Rs 1 D (lookD D a) := by
  unfold lookD
  by_cases c : d_wear D (d_bY D a) < d_lim D
  · rw [if_pos c]; exact Rs.same rfl
  · rw [if_neg c]
    cases lendD D a with
    | some x => exact ⟨1, Nat.le_refl _, by simp only [a_resc]; rfl⟩
    | none =>
      show Rs 1 D (if 2 * d_lim D ≤ d_wear D (d_bY D a) then loseD D a else D)
      by_cases c2 : 2 * d_lim D ≤ d_wear D (d_bY D a)
      · rw [if_pos c2]; exact Rs.same (by simp only [a_lose])
      · rw [if_neg c2]; exact Rs.same rfl
theorem rs_read (D : DS) (a : Nat) : Rs 1 D (readR D a).2 := by
  unfold readR
  by_cases c : isAd (d_sp D) a = true
  · rw [if_pos c]
    by_cases c2 : d_bY D a < 64
    · rw [if_pos c2]
      show Rs 1 D (readD D a)
      unfold readD
      refine Rs.trans (k := 0) (l := 1) (E := d_setReads (wearD (goD D a) (d_bY D a) 1) (d_reads D + 1)) (Rs.same ?_) (rs_look _ a)
      simp only [a_setReads, a_wear, a_go]
    · rw [if_neg c2]; exact Rs.same rfl
  · rw [if_neg c]; exact Rs.same rfl
theorem rs_tst {h : Nat} : ∀ {m p : Nat} {D : DS}, Rs m D (tstD h m p D) := by
  intro m
  induction m with
  | zero => intro p D; exact Rs.same rfl
  | succ m ih =>
    intro p D
    have z := (rs_read D (16 * h + p)).trans (ih (p := p + 1) (D := (readR D (16 * h + p)).2))
    rw [Nat.add_comm] at z
    exact z
theorem testR_neg {D : DS} {h : Nat} (q : (testR D h).1 < 0) : lostH D h = 16 - d_sp D h := by
  unfold testR at q
  by_cases c : lostH D h = 16 - d_sp D h
  · exact c
  · rw [if_neg c] at q
    obtain ⟨d, hd, e⟩ := rs_tst (h := h) (m := 16) (p := 0) (D := D)
    have q : d_resc (tstD h 16 0 D) - d_resc D < 0 := q
    rw [e, add_sub_i] at q
    exact absurd q (lt_neg (by omega))
theorem sim_test : ok_test Sim := by
  intro χ μ i hi S x
  obtain ⟨D, n, H, P⟩ := S.pre
  unfold wpX3_test
  refine kS_isHead (fun k hk e => ⟨fun _ => ?_, fun z => (by cases z)⟩) (fun q => ⟨fun z => (by cases z), fun _ => ?_⟩)
  · subst e
    have hsp := P.2.2.1.1.1.sp k hk
    have hc : lostH D k ≤ 16 := cnt_le
    have A := P.act (r := testR D k) (fun q => by
        have c : ¬ lostH D k = 16 - d_sp D k := fun c => q (by unfold testR; rw [if_pos c]; show (-5 : Int32) < 0; decide)
        have et : (testR D k).2 = tstD k 16 0 D := by unfold testR; rw [if_neg c]
        rw [et]
        exact P.2.2.1.to P.2.2.1.1.tst gr_tst (by omega)) (W := fun post => wpX4_test μ (nI k) post) (fun post h => by
      unfold wpX4_test
      refine kM_isHeadY hk ⟨fun _ => kM_lost P.2.1 P.2.2.1.1.1.1 hk ⟨in12 hk, ?_⟩, fun z => (by cases z)⟩
      rw [cl12 hk, P.2.1.sp k hk, show (16 : Int32) - nI (d_sp D k) = nI (16 - d_sp D k) from pk_sub (a := 16) (by omega)]
      refine pk_eq (lostH D k) (16 - d_sp D k) (fun q => ?_) (fun q => kM_record P.2.2.2.1 P.2.2.2.2.2.1 P.2.1 (fun ρ Q => ⟨in_4, 17, ?_⟩))
      · unfold testR at h
        rw [if_pos q] at h
        exact h.no P.2.1 (by decide)
      · have hnn : ¬ (testR D k).1 < 0 := fun z => q (testR_neg z)
        have z := h.2 hnn (mo_spare μ) (mo_pair μ)
        unfold testR at z
        rw [if_neg q] at z
        exact kM_tests (D := D) P.2.1 P.2.2.1.1 hk (μ1 := mo_setKept (mo_setHistory μ (rk_history ρ)) (rk_kept ρ)) (g := mo_now μ) P.2.1 (fun g' R' => z g' ρ R' Q))
    exact kC_startTrial P.1 (fun σt Rt => kC_testHead (D := D) Rt P.2.2.1.1 hk (fun σ2 R2 => kC_end P.2.2.2.1 P.2.2.2.2.1 P.1 A (fun _ => R2)))
  · unfold wpX4_test
    exact kM_isHeadN q ⟨fun z => (by cases z), fun _ => ⟨rfl, S.up⟩⟩
