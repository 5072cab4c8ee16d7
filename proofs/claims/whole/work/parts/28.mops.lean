/-! the reference: what changes a state -/
theorem ds_ext {D E : DS} (h1 : d_lim D = d_lim E) (h2 : d_arm D = d_arm E) (h3 : d_age D = d_age E) (h4 : d_sp D = d_sp E) (h5 : d_giv D = d_giv E) (h6 : d_wear D = d_wear E) (h7 : d_val D = d_val E) (h8 : d_bY D = d_bY E) (h9 : d_rof D = d_rof E) (h10 : d_steps D = d_steps E) (h11 : d_resc D = d_resc E) (h12 : d_loss D = d_loss E) (h13 : d_reads D = d_reads E) (h14 : d_writes D = d_writes E) : D = E := by
  obtain ⟨a1, a2, a3, a4, a5, a6, a7, a8, a9, a10, a11, a12, a13, a14⟩ := D
  obtain ⟨b1, b2, b3, b4, b5, b6, b7, b8, b9, b10, b11, b12, b13, b14⟩ := E
  have h1 : a1 = b1 := h1
  have h2 : a2 = b2 := h2
  have h3 : a3 = b3 := h3
  have h4 : a4 = b4 := h4
  have h5 : a5 = b5 := h5
  have h6 : a6 = b6 := h6
  have h7 : a7 = b7 := h7
  have h8 : a8 = b8 := h8
  have h9 : a9 = b9 := h9
  have h10 : a10 = b10 := h10
  have h11 : a11 = b11 := h11
  have h12 : a12 = b12 := h12
  have h13 : a13 = b13 := h13
  have h14 : a14 = b14 := h14
  subst h1 h2 h3 h4 h5 h6 h7 h8 h9 h10 h11 h12 h13 h14
  rfl
theorem goD_near {D : DS} {a : Nat} (h : d_bY D a = a ∨ d_giv D (a / 16) = true) : goD D a = moveD D (d_bY D a) := by
  unfold goD moveD stepsD
  rw [if_pos h]
theorem goD_far {D : DS} {a : Nat} (h : ¬ (d_bY D a = a ∨ d_giv D (a / 16) = true)) : goD D a = moveD (moveD D a) (d_bY D a) := by
  have e : d_steps (goD D a) = d_steps D + nI (stepsD D a) := rfl
  refine ds_ext ?_ ?_ ?_ ?_ ?_ ?_ ?_ ?_ ?_ ?_ ?_ ?_ ?_ ?_ <;> try simp only [a_go, a_move]
  unfold stepsD
  rw [if_neg h, ← nI_add, Int32.add_assoc]
theorem resc_eq (D : DS) (a x : Nat) : rescD D a x = wearD (moveD (d_setRof (d_setResc (byD D a x) (d_resc D + 1)) (va_up (d_rof D) a (d_rof D a + 1))) x) x 2 := by
  refine ds_ext ?_ ?_ ?_ ?_ ?_ ?_ ?_ ?_ ?_ ?_ ?_ ?_ ?_ ?_ <;> simp only [a_resc, a_wear, a_move, a_setRof, a_setResc, a_by]
theorem steps_setReads (D : DS) (a : Nat) (v : Int32) : stepsD (d_setReads D v) a = stepsD D a := by
  unfold stepsD; simp only [a_setReads]
theorem steps_setWrites (D : DS) (a : Nat) (v : Int32) : stepsD (d_setWrites D v) a = stepsD D a := by
  unfold stepsD; simp only [a_setWrites]
theorem read_eq (D : DS) (a : Nat) : wearD (goD (d_setReads D (d_reads D + 1)) a) (d_bY D a) 1 = d_setReads (wearD (goD D a) (d_bY D a) 1) (d_reads D + 1) := by
  refine ds_ext ?_ ?_ ?_ ?_ ?_ ?_ ?_ ?_ ?_ ?_ ?_ ?_ ?_ ?_ <;> simp only [a_wear, a_go, a_setReads, steps_setReads]
theorem write_eq (D : DS) (a v : Nat) : d_setVal (wearD (goD (d_setWrites D (d_writes D + 1)) a) (d_bY D a) 2) (va_up (d_val D) a v) = d_setWrites (d_setVal (wearD (goD D a) (d_bY D a) 2) (va_up (d_val D) a v)) (d_writes D + 1) := by
  refine ds_ext ?_ ?_ ?_ ?_ ?_ ?_ ?_ ?_ ?_ ?_ ?_ ?_ ?_ ?_ <;> simp only [a_wear, a_go, a_setWrites, a_setVal, steps_setWrites]
section KN
variable {D : DS} {μ : MO}
theorem kM_apart {r s : Nat} (hr : r < 64) (hs : s < 64) {post : Int32 → Prop} (h : post (nI (apart r s))) : wpX4_apart (nI (r % 16)) (nI (r / 16)) (nI s) post := by
  have J : ∀ v : Nat, v = (if s % 16 ≤ r % 16 then r % 16 - s % 16 else s % 16 - r % 16) → wpX4_apart_J17 (nI (r / 16)) (nI s) post (nI v) := by
    intro v hv
    unfold wpX4_apart_J17
    unfold apart at h
    rw [← hv] at h
    rw [nI_pd (by omega)]
    refine pk_eq (r / 16) (s / 16) (fun q => ?_) (fun q => ?_)
    · rw [if_pos q] at h
      rw [Int32.add_zero]; exact h
    · rw [if_neg q] at h
      rw [show nI v + 2 = nI (v + 2) from nI_add v 2]; exact h
  have ea := abs_nI (a := r % 16) (b := s % 16) (by omega) (by omega)
  unfold wpX4_apart
  rw [nI_pm (by omega)]
  refine ⟨fun c => ?_, fun c => ?_⟩
  · rw [if_pos c] at ea; rw [ea]; exact J _ rfl
  · rw [if_neg c] at ea
    rw [show -(nI (r % 16) - nI (s % 16)) = 0 - (nI (r % 16) - nI (s % 16)) from (Int32.zero_sub _).symm, ea]; exact J _ rfl
theorem kM_goes (R : RelM D (mo_now μ)) (B : Bw D) {s : Nat} (hs : s < 64) {post : MO → Prop} (h : ∀ g', RelM (moveD D s) g' → post (mo_setNow μ g')) : wpX4_goes μ (nI s) post := by
  have har := B.arm
  unfold wpX4_goes
  refine ⟨in_3, in_1, in_2, ?_⟩
  rw [c_1, c_2, c_3, R.a1, R.a2, R.steps]
  refine kM_apart har hs ?_
  rw [nI_pm (by omega), nI_pd (by omega)]
  exact h _ (mU_arm (mU_steps R))
theorem kM_goesTo (R : RelM D (mo_now μ)) (B : Bd D) {a : Nat} (ha : isAd (d_sp D) a = true) (hb : d_bY D a < 64) {post : MO → Prop} (h : ∀ g', RelM (goD D a) g' → post (mo_setNow μ g')) : wpX4_goesTo μ (nI a) post := by
  have hl := isAd_lt ha
  unfold wpX4_goesTo
  rw [nI_pd (by omega)]
  refine ⟨in16 (by omega), ?_⟩
  rw [cl16 (by omega), R.giv _ (by omega)]
  refine ⟨fun q => kM_goes R B.1 hl (fun g1 R1 => ?_), fun q => ?_⟩
  · have q := (bi_eq _).mp q
    unfold wpX4_goesTo_J20
    refine ⟨in148 hl, ?_⟩
    have e : mo_now (mo_setNow μ g1) ((148 : Int32) + nI a).toNatClampNeg = nI (d_bY D a) := by
      rw [cl148 hl]
      have e1 : g1 (148 + a) = wh (d_bY (moveD D a) a) := R1.bY a hl
      simp only [a_move] at e1
      rw [wh_lt hb] at e1
      exact e1
    rw [e]
    refine pk_eq (d_bY D a) a (fun z => ?_) (fun z => ?_)
    · rw [goD_near (Or.inl z), z] at h
      exact h g1 R1
    · rw [goD_far (by rw [q]; simp [z])] at h
      refine kM_goes (D := moveD D a) (μ := mo_setNow μ g1) R1 (B.1.move hl) hb (fun g2 R2 => ?_)
      rw [set_set]; exact h g2 R2
  · have q := (bi_ne _).mp q
    unfold wpX4_goesTo_J20
    refine ⟨in148 hl, ?_⟩
    rw [cl148 hl, R.bY a hl, wh_lt hb]
    refine pk_eq (d_bY D a) a (fun z => ?_) (fun z => ?_)
    · have := (B.ser a ha hb).1
      rw [z, q] at this; cases this
    · rw [goD_near (Or.inr q)] at h
      exact kM_goes R B.1 hb h
theorem kM_steps (R : RelM D (mo_now μ)) (B : Bd D) {a : Nat} (ha : isAd (d_sp D) a = true) (hb : d_bY D a < 64) {post : Int32 → Prop} (h : post (nI (stepsD D a))) : wpX4_steps μ (nI a) post := by
  have hl := isAd_lt ha
  have har := B.arm
  unfold wpX4_steps
  unfold stepsD at h
  rw [nI_pd (by omega)]
  refine ⟨in148 hl, in16 (by omega), ?_⟩
  rw [cl16 (by omega), R.giv _ (by omega)]
  refine ⟨fun q => ⟨fun _ => ⟨in_1, in_2, ?_⟩, fun z => (by cases z)⟩, fun q => ⟨fun z => (by cases z), fun _ => ⟨in_1, in_2, ?_⟩⟩⟩
  · have q := (bi_eq _).mp q
    rw [c_1, c_2, R.a1, R.a2]
    refine kM_apart har hl ⟨fun _ => ?_, fun z => (by cases z)⟩
    rw [cl148 hl, R.bY a hl, wh_lt hb]
    refine pk_eq (d_bY D a) a (fun z => ?_) (fun z => ?_)
    · rw [if_pos (Or.inl z), z] at h; exact h
    · rw [if_neg (by rw [q]; simp [z])] at h
      rw [nI_pm (by omega), nI_pd (by omega)]
      refine kM_apart hl hb ?_
      rw [nI_add]; exact h
  · have q := (bi_ne _).mp q
    rw [c_1, c_2, R.a1, R.a2, cl148 hl, R.bY a hl, wh_lt hb]
    rw [if_pos (Or.inr q)] at h
    exact kM_apart har hb ⟨fun z => (by cases z), fun _ => h⟩
theorem kM_wJ30 (R : RelM D (mo_now μ)) (B : Bw D) {s : Nat} (hs : s < 64) {n : Nat} (hn : n ≤ 2) {post : MO → Prop} (h : ∀ g', RelM (wearD D s n) g' → post (mo_setNow μ g')) : wpX4_wears_J30 μ (nI s) post (nI n) := by
  have h1 := B.wear s hs
  have h2 := B.age (s / 16) (by omega)
  have h3 : d_age D (s / 16) * n ≤ 9 * 2 := Nat.mul_le_mul h2.2 hn
  unfold wpX4_wears_J30
  rw [nI_pd (by omega), cl20 hs, cl8 (by omega), R.wear s hs, R.age _ (by omega), show nI (d_age D (s / 16)) * nI n = nI (d_age D (s / 16) * n) from pk_mul _ _, nI_add]
  refine pk_le (d_wear D s + d_age D (s / 16) * n) 99999 (fun q => ?_) (fun q => absurd q (by omega))
  unfold wpX4_wears_J53
  refine ⟨in20 hs, ?_⟩
  rw [cl20 hs]
  refine h _ ?_
  unfold wearD
  rw [Nat.mul_comm n]
  exact mU_wear R hs
theorem kM_wearR (R : RelM D (mo_now μ)) (B : Bw D) {s : Nat} (hs : s < 64) {post : MO → Prop} (h : ∀ g', RelM (wearD D s 1) g' → post (mo_setNow μ g')) : wpX4_wears μ (nI s) 0 post := by
  unfold wpX4_wears
  refine ⟨in20 hs, ?_, fun _ => kM_wJ30 (n := 1) R B hs (by omega) h, fun q => absurd rfl q⟩
  rw [nI_pd (by omega)]; exact in8 (by omega)
theorem kM_wearW (R : RelM D (mo_now μ)) (B : Bw D) {s : Nat} (hs : s < 64) {post : MO → Prop} (h : ∀ g', RelM (wearD D s 2) g' → post (mo_setNow μ g')) : wpX4_wears μ (nI s) 1 post := by
  unfold wpX4_wears
  refine ⟨in20 hs, ?_, fun q => absurd q (by decide), fun _ => kM_wJ30 (n := 2) R B hs (by omega) h⟩
  rw [nI_pd (by omega)]; exact in8 (by omega)
theorem kM_looks (R : RelM D (mo_now μ)) (B : Bd D) {a : Nat} (ha : isAd (d_sp D) a = true) (hb : d_bY D a < 64) {post : MO → Prop} (h : ∀ g', RelM (lookD D a) g' → post (mo_setNow μ g')) : wpX4_looks μ (nI a) post := by
  have hl := isAd_lt ha
  have hg := gradeN_le D (d_bY D a)
  unfold lookD at h
  have keep : RelM D (mo_now μ) → (∀ g', RelM D g' → post (mo_setNow μ g')) → post μ := fun r k => k _ r
  unfold wpX4_looks
  refine ⟨in148 hl, ?_⟩
  rw [cl148 hl, R.bY a hl, wh_lt hb]
  refine kM_state R B.1 hb (pk_eq (gradeN D (d_bY D a)) 0 (fun q => ?_) (fun q => kM_lends R B.1 hl ?_))
  · have c : d_wear D (d_bY D a) < d_lim D := by
      unfold gradeN at q
      by_cases c : d_wear D (d_bY D a) < d_lim D
      · exact c
      · rw [if_neg c] at q; split at q <;> omega
    rw [if_pos c] at h
    exact keep R h
  · have c : ¬ d_wear D (d_bY D a) < d_lim D := fun c => q (by unfold gradeN; rw [if_pos c])
    rw [if_neg c] at h
    cases e : lendD D a with
    | none =>
      rw [e] at h
      have h : ∀ g', RelM (if 2 * d_lim D ≤ d_wear D (d_bY D a) then loseD D a else D) g' → post (mo_setNow μ g') := h
      refine ⟨fun _ => kM_state R B.1 hb (pk_eq (gradeN D (d_bY D a)) 2 (fun z => ⟨in_5, ?_⟩) (fun z => ?_)), fun y => absurd rfl y⟩
      · have c2 : 2 * d_lim D ≤ d_wear D (d_bY D a) := by
          unfold gradeN at z
          rw [if_neg c] at z; split at z <;> omega
        rw [if_pos c2] at h
        have R1 := mU_bY R hl (v := 64)
        have e5 : upd (mo_now μ) (148 + a) (-1) 5 = d_loss D := R1.loss
        rw [c_5, e5, set_set]
        exact h _ (mU_loss R1 (v := d_loss D + 1))
      · have c2 : ¬ 2 * d_lim D ≤ d_wear D (d_bY D a) := fun c2 => z (by unfold gradeN; rw [if_neg c, if_neg (by omega)])
        rw [if_neg c2] at h
        exact keep R h
    | some x =>
      rw [e] at h
      have h : ∀ g', RelM (rescD D a x) g' → post (mo_setNow μ g') := h
      obtain ⟨g1, g2, g3, g4, g5⟩ := lend_free hl e
      have hlim := B.lim
      refine ⟨fun y => absurd y (co_ne (by omega)), fun _ => ⟨in_4, in212 hl, ?_⟩⟩
      show wpX4_goes _ (nI x) _
      have R1 := mU_bY R hl (v := x)
      rw [wh_lt g1] at R1
      have e4 : upd (mo_now μ) (148 + a) (nI x) 4 = d_resc D := R1.resc
      have R2 := mU_resc R1 (v := d_resc D + 1)
      have e5 : upd (upd (mo_now μ) (148 + a) (nI x)) 4 (d_resc D + 1) (212 + a) = d_rof D a := R2.rof a hl
      have R3 : RelM (d_setRof (d_setResc (byD D a x) (d_resc D + 1)) (va_up (d_rof D) a (d_rof D a + 1))) (upd (upd (upd (mo_now μ) (148 + a) (nI x)) 4 (d_resc D + 1)) (212 + a) (d_rof D a + 1)) := mU_rof R2 hl
      show wpX4_goes (mo_setNow (mo_setNow (mo_setNow μ (upd (mo_now μ) (148 + a) (nI x))) (upd (upd (mo_now μ) (148 + a) (nI x)) (4 : Int32).toNatClampNeg ((upd (mo_now μ) (148 + a) (nI x)) (4 : Int32).toNatClampNeg + 1))) (upd (upd (upd (mo_now μ) (148 + a) (nI x)) (4 : Int32).toNatClampNeg ((upd (mo_now μ) (148 + a) (nI x)) (4 : Int32).toNatClampNeg + 1)) (212 + nI a).toNatClampNeg ((upd (upd (mo_now μ) (148 + a) (nI x)) (4 : Int32).toNatClampNeg ((upd (mo_now μ) (148 + a) (nI x)) (4 : Int32).toNatClampNeg + 1)) (212 + nI a).toNatClampNeg + 1))) (nI x) _
      rw [c_4, cl212 hl, e4, e5, set_set, set_set]
      have B3 : Bw (d_setRof (d_setResc (byD D a x) (d_resc D + 1)) (va_up (d_rof D) a (d_rof D a + 1))) := ((B.lend hl e).setResc.setRof).1
      refine kM_goes R3 B3 g1 (fun g4 R4 => kM_wearW R4 (B3.move g1) g1 (fun g5 R5 => ?_))
      rw [← resc_eq] at R5
      rw [set_set, set_set]
      exact h g5 R5
theorem kM_reads (R : RelM D (mo_now μ)) (I : Inv D) {x : Int32} {post : Int32 → MO → Prop} (h : ∀ g', RelM (readR D (adr x)).2 g' → post (readR D (adr x)).1 (mo_setNow μ g')) : wpX4_reads μ x post := by
  have keep : ∀ v, (∀ g', RelM D g' → post v (mo_setNow μ g')) → post v μ := fun v k => k _ R
  unfold wpX4_reads
  unfold readR at h
  refine kM_isAddress R I.1.1 ⟨fun q => ?_, fun q => ?_⟩
  · rw [if_pos q] at h
    have ex := adr_ad q
    generalize adr x = a at q h ex
    subst ex
    have hl := isAd_lt q
    refine kM_lostN R hl (fun z => ⟨fun _ => ?_, fun w => (by cases w)⟩) (fun z => ⟨fun w => (by cases w), fun _ => ⟨in_6, ?_⟩⟩)
    · rw [if_neg (by omega)] at h; exact keep _ h
    · rw [if_pos z] at h
      obtain ⟨P1, P2⟩ := I.pre q z (Nat.le_refl 1) (by omega)
      rw [c_6, R.reads]
      have R1 := mU_reads R (v := d_reads D + 1)
      refine kM_goesTo (D := d_setReads D (d_reads D + 1)) (μ := mo_setNow μ (upd (mo_now μ) 6 (d_reads D + 1))) R1 I.1.setReads q z (fun g2 R2 => ⟨in148 hl, ?_⟩)
      have e2 : g2 (148 + a) = wh (d_bY (goD (d_setReads D (d_reads D + 1)) a) a) := R2.bY a hl
      simp only [a_go, a_setReads] at e2
      rw [wh_lt z] at e2
      rw [cl148 hl, set_set, now_set, e2]
      have B2 : Bw (goD (d_setReads D (d_reads D + 1)) a) := (I.1.setReads (v := d_reads D + 1)).1.go z
      refine kM_wearR R2 B2 z (fun g3 R3 => ⟨in84 hl, ?_⟩)
      rw [read_eq] at R3
      rw [cl84 hl, set_set, now_set]
      have e3 := R3.val a hl
      simp only [a_setReads, a_wear, a_go] at e3
      rw [e3]
      refine kM_looks R3 P1.setReads (by simp only [a_setReads, a_wear, a_go]; exact q) (by simp only [a_setReads, a_wear, a_go]; exact z) (fun g4 R4 => ?_)
      rw [set_set]
      exact h g4 R4
  · rw [if_neg (by rw [q]; simp)] at h; exact keep _ h
theorem kM_writes (R : RelM D (mo_now μ)) (I : Inv D) {x v : Int32} {post : Int32 → MO → Prop} (h : ∀ g', RelM (writeR D (adr x) v).2 g' → post (writeR D (adr x) v).1 (mo_setNow μ g')) : wpX4_writes μ x v post := by
  have keep : ∀ w, (∀ g', RelM D g' → post w (mo_setNow μ g')) → post w μ := fun w k => k _ R
  unfold wpX4_writes
  unfold writeR at h
  refine kM_isAddress R I.1.1 ⟨fun q => ?_, fun q => ?_⟩
  · rw [if_pos q] at h
    have ex := adr_ad q
    generalize adr x = a at q h ex
    subst ex
    have hl := isAd_lt q
    refine kM_in (lo := 0) (hi := 999) (by omega) (by omega) ⟨fun c => ?_, fun c => ?_⟩
    · have hv : 0 ≤ v.toInt ∧ v.toInt ≤ 999 := of_decide_eq_true c
      rw [if_pos hv] at h
      have ev := nI_val hv
      have hn : v.toInt.toNat ≤ 999 := by omega
      generalize v.toInt.toNat = n at h ev hn
      subst ev
      have J : ∀ (E : DS) (μ1 : MO), RelM E (mo_now μ1) → wrAt D a = some E → (∀ g', RelM (writeD E a n) g' → post (whoD (writeD E a n) a) (mo_setNow μ1 g')) → wpX4_writes_J58 (nI a) (nI n) post μ1 := by
        intro E μ1 RE hE hp
        have Y := I.rdy q hE
        obtain ⟨BE, ha, hb, hw, -, -⟩ := Y
        have hg := age_le BE hb
        have B1 : Bd (wearD (goD E a) (d_bY E a) 2) := (BE.go hb).worn (by simp only [a_go]; omega)
        unfold wpX4_writes_J58
        refine ⟨in_7, ?_⟩
        rw [c_7, RE.writes]
        have R1 := mU_writes RE (v := d_writes E + 1)
        refine kM_goesTo (D := d_setWrites E (d_writes E + 1)) (μ := mo_setNow μ1 (upd (mo_now μ1) 7 (d_writes E + 1))) R1 BE.setWrites ha hb (fun g2 R2 => ⟨in148 hl, ?_⟩)
        have e2 : g2 (148 + a) = wh (d_bY (goD (d_setWrites E (d_writes E + 1)) a) a) := R2.bY a hl
        simp only [a_go, a_setWrites] at e2
        rw [wh_lt hb] at e2
        rw [cl148 hl, set_set, now_set, e2]
        have B2 : Bw (goD (d_setWrites E (d_writes E + 1)) a) := (BE.setWrites (v := d_writes E + 1)).1.go hb
        refine kM_wearW R2 B2 hb (fun g3 R3 => ⟨in84 hl, ?_⟩)
        have R4 := mU_val R3 hl (v := n)
        have e4 : d_val (wearD (goD (d_setWrites E (d_writes E + 1)) a) (d_bY E a) 2) = d_val E := by simp only [a_wear, a_go, a_setWrites]
        rw [e4, write_eq] at R4
        have BV := Bd.setVal (a := a) B1 hn
        have e1 : d_val (wearD (goD E a) (d_bY E a) 2) = d_val E := by simp only [a_wear, a_go]
        rw [e1] at BV
        rw [cl84 hl, set_set, now_set, set_set]
        refine kM_looks R4 BV.setWrites (by simp only [a_setWrites, a_setVal, a_wear, a_go]; exact ha) (by simp only [a_setWrites, a_setVal, a_wear, a_go]; exact hb) (fun g5 R5 => ?_)
        have R5 : RelM (writeD E a n) g5 := R5
        have hp5 := hp g5 R5
        unfold whoD at hp5
        rw [set_set]
        refine kM_lostN (D := writeD E a n) (μ := mo_setNow μ1 g5) R5 hl (fun z => ⟨fun _ => ?_, fun w => (by cases w)⟩) (fun z => ⟨fun w => (by cases w), fun _ => ?_⟩)
        · rw [if_neg (Nat.not_lt.mpr z)] at hp5; exact hp5
        · rw [if_pos z] at hp5
          rw [now_set, R5.bY a hl, wh_lt z]
          exact hp5
      refine kM_lostN R hl (fun z => ⟨fun _ => ?_, fun w => (by cases w)⟩) (fun z => ⟨fun w => (by cases w), fun _ => ?_⟩)
      · refine kM_lends R I.1.1 hl ?_
        have hw : wrAt D a = match lendD D a with | some x => some (byD D a x) | none => none := by unfold wrAt; exact if_neg (by omega)
        cases e : lendD D a with
        | none =>
          rw [e] at hw
          rw [hw] at h
          exact ⟨fun _ => keep _ h, fun w => absurd rfl w⟩
        | some y =>
          rw [e] at hw
          rw [hw] at h
          obtain ⟨g1, g2, g3, g4, g5⟩ := lend_free hl e
          refine ⟨fun w => absurd w (co_ne (by omega)), fun _ => ⟨in148 hl, ?_⟩⟩
          have R1 := mU_bY R hl (v := y)
          rw [wh_lt g1] at R1
          rw [cl148 hl]
          exact J (byD D a y) _ R1 hw h
      · have hw : wrAt D a = some D := by unfold wrAt; rw [if_pos z]
        rw [hw] at h
        exact J D μ R hw h
    · have hv : ¬ (0 ≤ v.toInt ∧ v.toInt ≤ 999) := of_decide_eq_false c
      rw [if_neg hv] at h; exact keep _ h
  · rw [if_neg (by rw [q]; simp)] at h; exact keep _ h
end KN
