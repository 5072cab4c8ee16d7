/-! counts, ranks, and how many reads are left -/
section MW
variable {μ : MO} {D : DS}
theorem kM_count (RM : RelM D (mo_now μ)) (I : Inv D) {w : Int32} {post : Int32 → Prop} (h12 : w = 12 → post (mo_kept μ)) (h13 : w = 13 → post (mo_length μ)) (hp : ¬ w = 12 → ¬ w = 13 → post (wholeR D w)) : wpX4_count μ w post := by
  have B := I.1.1
  have L : ∀ (P : Nat → Bool), (∀ (v c : Nat) (κ : Int32 → Int32 → Prop), v < 64 → κ (nI (c + if P v = true then 1 else 0)) (nI (v + 1)) → wpX4_isAddress μ (nI v) (fun b74 => ((w = 1 → ((b74 = true → wpX4_count_J153 (nI c) (nI v) post κ ) ∧ (b74 = false → wpX4_count_J90 μ w (nI c) (nI v) b74 post κ ))) ∧ (¬ w = 1 → wpX4_count_J90 μ w (nI c) (nI v) b74 post κ )))) → ∀ (m p c : Nat), p + m = 64 → post (nI (c + cnt P m p)) → wpX4_count_L66 μ w post (m + 1) (nI c) (nI p) := by
    intro P st m
    induction m with
    | zero =>
      intro p c e hp
      rw [wpX4_count_L66]
      exact pk_le 64 p (fun _ => hp) (fun q => absurd q (by omega))
    | succ m ih =>
      intro p c e hp
      rw [wpX4_count_L66]
      refine pk_le 64 p (fun q => absurd q (by omega)) (fun _ => st p c _ (by omega) (ih (p + 1) _ (by omega) ?_))
      unfold cnt at hp
      rw [Nat.add_assoc]; exact hp
  have yes : ∀ {P : Nat → Bool} {v c : Nat} {κ : Int32 → Int32 → Prop}, κ (nI (c + if P v = true then 1 else 0)) (nI (v + 1)) → P v = true → wpX4_count_J153 (nI c) (nI v) post κ := fun k e => by
    unfold wpX4_count_J153 wpX4_count_J158
    rw [bi_t, nI_1, nI_1]
    rw [if_pos e] at k; exact k
  have no : ∀ {P : Nat → Bool} {v c : Nat} {κ : Int32 → Int32 → Prop}, κ (nI (c + if P v = true then 1 else 0)) (nI (v + 1)) → P v = false → wpX4_count_J157 (nI c) (nI v) post κ := fun k e => by
    unfold wpX4_count_J157 wpX4_count_J158
    rw [bi_f, nI_1, Int32.add_zero]
    rw [if_neg (by rw [e]; simp)] at k; exact k
  unfold wpX4_count
  refine kM_in (lo := 0) (hi := 13) (by omega) (by omega) ⟨fun c => ?_, fun c => ?_⟩
  · have c := of_decide_eq_true c
    have ew := nI_rng (x := w) (by omega)
    have hw : w.toInt.toNat < 14 := by omega
    generalize w.toInt.toNat = k at ew hw
    subst ew
    unfold wholeR at hp
    have : k = 0 ∨ k = 1 ∨ k = 2 ∨ k = 3 ∨ k = 4 ∨ k = 5 ∨ k = 6 ∨ k = 7 ∨ k = 8 ∨ k = 9 ∨ k = 10 ∨ k = 11 ∨ k = 12 ∨ k = 13 := by omega
    rcases this with rfl | rfl | rfl | rfl | rfl | rfl | rfl | rfl | rfl | rfl | rfl | rfl | rfl | rfl
    · have hp := hp (by decide) (by decide)
      rw [if_pos (by decide)] at hp
      refine ⟨fun _ => ⟨in_0, ?_⟩, fun z => absurd rfl z⟩
      rw [c_0, RM.lim]; exact hp
    · have hp := hp (by decide) (by decide)
      rw [if_neg (by decide), if_pos (by decide)] at hp
      refine ⟨fun z => absurd z (by decide), fun _ => ⟨fun _ => ⟨fun _ => ⟨65, L (isAd (d_sp D)) (fun v c κ hv hk => kM_isAdN RM B (by omega) ⟨fun _ => ⟨fun q => yes hk q, fun q => ?_⟩, fun z => absurd rfl z⟩) 64 0 0 rfl (by rw [Nat.zero_add]; exact hp)⟩, fun z => absurd (by decide) z⟩, fun z => absurd (by decide) z⟩⟩
      unfold wpX4_count_J90
      refine ⟨fun z => absurd z (by decide), fun _ => ?_⟩
      unfold wpX4_count_J108
      refine ⟨fun z => absurd z (by decide), fun _ => ?_⟩
      unfold wpX4_count_J140
      exact ⟨fun z => absurd z (by decide), fun _ => no hk q⟩
    · have hp := hp (by decide) (by decide)
      rw [if_neg (by decide), if_neg (by decide), if_pos (by decide)] at hp
      refine ⟨fun z => absurd z (by decide), fun _ => ⟨fun _ => ⟨fun _ => ⟨65, L (lostQ D) (fun v c κ hv hk => kM_isAdN RM B (by omega) ⟨fun z => absurd z (by decide), fun _ => ?_⟩) 64 0 0 rfl (by rw [Nat.zero_add]; exact hp)⟩, fun z => absurd (by decide) z⟩, fun z => absurd (by decide) z⟩⟩
      have skip : ∀ b, lostQ D v = false → wpX4_count_J108 μ (nI 2) (nI c) (nI v) b post κ := fun b q => by
        unfold wpX4_count_J108
        refine ⟨fun z => absurd z (by decide), fun _ => ?_⟩
        unfold wpX4_count_J140
        exact ⟨fun z => absurd z (by decide), fun _ => no hk q⟩
      unfold wpX4_count_J90
      refine ⟨fun _ => ⟨fun q => kM_lostN RM hv (fun z => ⟨fun _ => yes hk ?_, fun y => (by cases y)⟩) (fun z => ⟨fun y => (by cases y), fun _ => skip _ ?_⟩), fun q => skip _ ?_⟩, fun z => absurd rfl z⟩
      · unfold lostQ; rw [q, decide_eq_true z]; rfl
      · unfold lostQ; rw [q, decide_eq_false (by omega)]; rfl
      · unfold lostQ; rw [q]; rfl
    · have hp := hp (by decide) (by decide)
      rw [if_neg (by decide), if_neg (by decide), if_neg (by decide), if_pos (by decide)] at hp
      refine ⟨fun z => absurd z (by decide), fun _ => ⟨fun _ => ⟨fun _ => ⟨65, L (lwD D) (fun v c κ hv hk => kM_isAdN RM B (by omega) ⟨fun z => absurd z (by decide), fun _ => ?_⟩) 64 0 0 rfl (by rw [Nat.zero_add]; exact hp)⟩, fun z => absurd (by decide) z⟩, fun z => absurd (by decide) z⟩⟩
      have skip : lwD D v = false → wpX4_count_J140 μ (nI 3) (nI c) (nI v) post κ := fun q => by
        unfold wpX4_count_J140
        exact ⟨fun z => absurd z (by decide), fun _ => no hk q⟩
      unfold wpX4_count_J90
      refine ⟨fun z => absurd z (by decide), fun _ => ?_⟩
      unfold wpX4_count_J108
      refine ⟨fun _ => ⟨fun q => kM_lostN RM hv (fun z => ⟨fun _ => skip ?_, fun y => (by cases y)⟩) (fun z => ⟨fun y => (by cases y), fun _ => ⟨in148 hv, ?_⟩⟩), fun q => skip ?_⟩, fun z => absurd rfl z⟩
      · unfold lwD; rw [decide_eq_false (by omega), Bool.and_false]
      · rw [cl148 hv, RM.bY v hv, wh_lt z]
        refine pk_eq (d_bY D v) v (fun y => skip ?_) (fun y => yes hk ?_)
        · unfold lwD; rw [decide_eq_false (by omega), Bool.and_false]
        · unfold lwD; rw [q, decide_eq_true ⟨z, y⟩]; rfl
      · unfold lwD; rw [q]; rfl
    · have hp := hp (by decide) (by decide)
      rw [if_neg (by decide), if_neg (by decide), if_neg (by decide), if_neg (by decide), if_pos (by decide)] at hp
      refine ⟨fun z => absurd z (by decide), fun _ => ⟨fun _ => ⟨fun _ => ⟨65, L (fr D) (fun v c κ hv hk => kM_isAdN RM B (by omega) ⟨fun z => absurd z (by decide), fun _ => ?_⟩) 64 0 0 rfl (by rw [Nat.zero_add]; exact hp)⟩, fun z => absurd (by decide) z⟩, fun z => absurd (by decide) z⟩⟩
      unfold wpX4_count_J90
      refine ⟨fun z => absurd z (by decide), fun _ => ?_⟩
      unfold wpX4_count_J108
      refine ⟨fun z => absurd z (by decide), fun _ => ?_⟩
      unfold wpX4_count_J140
      exact ⟨fun _ => kM_isFree RM B hv ⟨fun q => yes hk q, fun q => no hk q⟩, fun z => absurd rfl z⟩
    · have hp := hp (by decide) (by decide)
      rw [if_neg (by decide), if_neg (by decide), if_neg (by decide), if_neg (by decide), if_neg (by decide), if_pos (by decide)] at hp
      refine ⟨fun z => absurd z (by decide), fun _ => ⟨fun _ => ⟨fun z => absurd z (by decide), fun _ => ?_⟩, fun z => absurd (by decide) z⟩⟩
      rw [show nI 5 - 4 = 1 by decide, c_1, RM.a1]; exact ⟨in_1, hp⟩
    · have hp := hp (by decide) (by decide)
      rw [if_neg (by decide), if_neg (by decide), if_neg (by decide), if_neg (by decide), if_neg (by decide), if_neg (by decide), if_pos (by decide)] at hp
      refine ⟨fun z => absurd z (by decide), fun _ => ⟨fun _ => ⟨fun z => absurd z (by decide), fun _ => ?_⟩, fun z => absurd (by decide) z⟩⟩
      rw [show nI 6 - 4 = 2 by decide, c_2, RM.a2]; exact ⟨in_2, hp⟩
    · have hp := hp (by decide) (by decide)
      rw [if_neg (by decide), if_neg (by decide), if_neg (by decide), if_neg (by decide), if_neg (by decide), if_neg (by decide), if_neg (by decide), if_pos (by decide)] at hp
      refine ⟨fun z => absurd z (by decide), fun _ => ⟨fun _ => ⟨fun z => absurd z (by decide), fun _ => ?_⟩, fun z => absurd (by decide) z⟩⟩
      rw [show nI 7 - 4 = 3 by decide, c_3, RM.steps]; exact ⟨in_3, hp⟩
    · have hp := hp (by decide) (by decide)
      rw [if_neg (by decide), if_neg (by decide), if_neg (by decide), if_neg (by decide), if_neg (by decide), if_neg (by decide), if_neg (by decide), if_neg (by decide), if_pos (by decide)] at hp
      refine ⟨fun z => absurd z (by decide), fun _ => ⟨fun _ => ⟨fun z => absurd z (by decide), fun _ => ?_⟩, fun z => absurd (by decide) z⟩⟩
      rw [show nI 8 - 4 = 4 by decide, c_4, RM.resc]; exact ⟨in_4, hp⟩
    · have hp := hp (by decide) (by decide)
      rw [if_neg (by decide), if_neg (by decide), if_neg (by decide), if_neg (by decide), if_neg (by decide), if_neg (by decide), if_neg (by decide), if_neg (by decide), if_neg (by decide), if_pos (by decide)] at hp
      refine ⟨fun z => absurd z (by decide), fun _ => ⟨fun _ => ⟨fun z => absurd z (by decide), fun _ => ?_⟩, fun z => absurd (by decide) z⟩⟩
      rw [show nI 9 - 4 = 5 by decide, c_5, RM.loss]; exact ⟨in_5, hp⟩
    · have hp := hp (by decide) (by decide)
      rw [if_neg (by decide), if_neg (by decide), if_neg (by decide), if_neg (by decide), if_neg (by decide), if_neg (by decide), if_neg (by decide), if_neg (by decide), if_neg (by decide), if_neg (by decide), if_pos (by decide)] at hp
      refine ⟨fun z => absurd z (by decide), fun _ => ⟨fun _ => ⟨fun z => absurd z (by decide), fun _ => ?_⟩, fun z => absurd (by decide) z⟩⟩
      rw [show nI 10 - 4 = 6 by decide, c_6, RM.reads]; exact ⟨in_6, hp⟩
    · have hp := hp (by decide) (by decide)
      rw [if_neg (by decide), if_neg (by decide), if_neg (by decide), if_neg (by decide), if_neg (by decide), if_neg (by decide), if_neg (by decide), if_neg (by decide), if_neg (by decide), if_neg (by decide), if_neg (by decide), if_pos (by decide)] at hp
      refine ⟨fun z => absurd z (by decide), fun _ => ⟨fun _ => ⟨fun z => absurd z (by decide), fun _ => ?_⟩, fun z => absurd (by decide) z⟩⟩
      rw [show nI 11 - 4 = 7 by decide, c_7, RM.writes]; exact ⟨in_7, hp⟩
    · exact ⟨fun z => absurd z (by decide), fun _ => ⟨fun z => absurd z (by decide), fun _ => ⟨fun _ => h12 rfl, fun z => absurd rfl z⟩⟩⟩
    · exact ⟨fun z => absurd z (by decide), fun _ => ⟨fun z => absurd z (by decide), fun _ => ⟨fun z => absurd z (by decide), fun _ => h13 rfl⟩⟩⟩
  · have c := of_decide_eq_false c
    have hp := hp (in_out c (by decide)) (in_out c (by decide))
    unfold wholeR at hp
    rw [if_neg (in_out c (by decide)), if_neg (in_out c (by decide)), if_neg (in_out c (by decide)), if_neg (in_out c (by decide)), if_neg (in_out c (by decide)), if_neg (in_out c (by decide)), if_neg (in_out c (by decide)), if_neg (in_out c (by decide)), if_neg (in_out c (by decide)), if_neg (in_out c (by decide)), if_neg (in_out c (by decide)), if_neg (in_out c (by decide))] at hp
    exact hp
end MW
theorem sim_count : ok_count Sim := by
  intro χ μ i hi S w
  obtain ⟨D, n, H, P⟩ := S.pre
  obtain ⟨n2, hn2, t1, t2, -⟩ := S.2.2.2
  unfold wpX3_count wpX2_states wpX0_length
  refine ⟨fun e => ?_, fun e => ?_, fun e1 e2 => ?_⟩
  · exact kM_count P.2.1 P.2.2.1.1 (fun _ => ⟨P.2.2.2.2.1.1.trans P.2.2.2.2.2.1.1.symm, S.up⟩) (fun z => absurd (e.symm.trans z) (by decide)) (fun z => absurd e z)
  · exact kM_count P.2.1 P.2.2.1.1 (fun z => absurd (e.symm.trans z) (by decide)) (fun _ => ⟨t1.trans t2.symm, S.up⟩) (fun _ z => absurd e z)
  · exact kC_tellWhole P.1 P.2.2.1.1.1.1 (kM_count P.2.1 P.2.2.1.1 (fun z => absurd z e1) (fun z => absurd z e2) (fun _ _ => ⟨rfl, S.up⟩))
/-! ranks -/
def hasRk (D : DS) (a : Nat) : Bool := isAd (d_sp D) a && decide (d_bY D a < 64)
def above (D : DS) (a b : Nat) : Bool := hasRk D b && (decide (d_wear D (d_bY D a) < d_wear D (d_bY D b)) || (decide (d_wear D (d_bY D b) = d_wear D (d_bY D a)) && decide (b < a)))
def rankN (D : DS) (a : Nat) : Nat := cnt (above D a) 64 0
def rankA (D : DS) (r : Int32) : Int32 := co (fnd (fun a => hasRk D a && decide (nI (rankN D a) = r)) 64 0)
theorem hasRk_t {D : DS} {a : Nat} (h1 : isAd (d_sp D) a = true) (h2 : d_bY D a < 64) : hasRk D a = true := by unfold hasRk; rw [h1, decide_eq_true h2]; rfl
theorem hasRk_l {D : DS} {a : Nat} (h2 : 64 ≤ d_bY D a) : hasRk D a = false := by unfold hasRk; rw [decide_eq_false (by omega), Bool.and_false]
theorem hasRk_s {D : DS} {a : Nat} (h1 : isAd (d_sp D) a = false) : hasRk D a = false := by unfold hasRk; rw [h1]; rfl
theorem hasRk_iff {D : DS} {a : Nat} : hasRk D a = true ↔ isAd (d_sp D) a = true ∧ d_bY D a < 64 := by unfold hasRk; rw [Bool.and_eq_true, decide_eq_true_eq]
section RC
variable {D : DS} {σ : HS}
theorem kC_hasRank (R : RelC D σ) (B : Bw D) {a : Nat} (ha : a < 2 ^ 31) {post : Bool → Prop} (h : post (hasRk D a)) : wpX1_hasRank σ (nI a) post := by
  unfold wpX1_hasRank
  refine kC_isAdN R B ha ⟨fun q => kC_lostN R q (fun z => ⟨fun _ => ?_, fun y => (by cases y)⟩) (fun z => ⟨fun y => (by cases y), fun _ => ?_⟩), fun q => ?_⟩
  · rw [hasRk_l z] at h; exact h
  · rw [hasRk_t q z] at h; exact h
  · rw [hasRk_s q] at h; exact h
theorem kC_rankOf (R : RelC D σ) (B : Bw D) {a : Nat} (ha : isAd (d_sp D) a = true) (hb : d_bY D a < 64) {post : Int32 → Prop} (hp : post (nI (rankN D a))) : wpX1_rankOf σ (nI a) post := by
  have hl := isAd_lt ha
  have wa := B.wear _ hb
  have L : ∀ (m p c : Nat), p + m = 64 → post (nI (c + cnt (above D a) m p)) → wpX1_rankOf_L17 σ (nI a) post (m + 1) (nI c) (nI p) := by
    intro m
    induction m with
    | zero =>
      intro p c e hp
      rw [wpX1_rankOf_L17]
      exact pk_le 64 p (fun _ => hp) (fun q => absurd q (by omega))
    | succ m ih =>
      intro p c e hp
      rw [wpX1_rankOf_L17]
      refine pk_le 64 p (fun q => absurd q (by omega)) (fun _ => ?_)
      unfold cnt at hp
      have no : above D a p = false → wpX1_rankOf_L17 σ (nI a) post (m + 1) (nI c) (nI p + 1) := fun z => by
        rw [if_neg (by rw [z]; simp), Nat.zero_add] at hp
        rw [nI_1]; exact ih (p + 1) c (by omega) hp
      have yes : above D a p = true → wpX1_rankOf_L17 σ (nI a) post (m + 1) (nI c + 1) (nI p + 1) := fun z => by
        rw [if_pos z] at hp
        rw [nI_1, nI_1]; exact ih (p + 1) (c + 1) (by omega) (by rw [Nat.add_assoc]; exact hp)
      refine kC_hasRank R B (by omega) ⟨fun q => ?_, fun q => no (by unfold above; rw [q]; rfl)⟩
      obtain ⟨q1, q2⟩ := hasRk_iff.mp q
      have wp := B.wear _ q2
      refine ⟨pk_in p 64 (by omega), ?_⟩
      rw [kC_srv R q1 q2, kC_srv R ha hb]
      refine ⟨pk_in (d_bY D p) 64 q2, ?_⟩
      rw [nI_clamp (n := d_bY D p) (by omega), nI_clamp (n := d_bY D a) (by omega), R.wear _ q2, R.wear _ hb]
      refine pk_lt (d_wear D (d_bY D a)) (d_wear D (d_bY D p)) (fun y => yes ?_) (fun y => pk_eq (d_wear D (d_bY D p)) (d_wear D (d_bY D a)) (fun x => pk_le a p (fun k => no ?_) (fun k => yes ?_)) (fun x => no ?_))
      · unfold above; rw [q, decide_eq_true y]; rfl
      · unfold above; rw [decide_eq_false (by omega), decide_eq_false (p := p < a) (by omega), Bool.and_false, Bool.or_false, Bool.and_false]
      · unfold above; rw [q, decide_eq_true x, decide_eq_true (p := p < a) (by omega)]; simp
      · unfold above; rw [decide_eq_false (by omega), decide_eq_false x, Bool.false_and, Bool.or_false, Bool.and_false]
  unfold wpX1_rankOf
  refine ⟨pk_in a 64 hl, ?_⟩
  rw [kC_srv R ha hb]
  exact ⟨pk_in (d_bY D a) 64 hb, 65, L 64 0 0 rfl (by rw [Nat.zero_add]; exact hp)⟩
theorem kC_ofRank (R : RelC D σ) (B : Bw D) {r : Int32} {post : Int32 → Prop} (hp : post (rankA D r)) : wpX1_addressOfRank σ r post := by
  have L : ∀ (m p : Nat), p + m = 64 → post (co (fnd (fun a => hasRk D a && decide (nI (rankN D a) = r)) m p)) → wpX1_addressOfRank_L2 σ r post (m + 1) (nI p) := by
    intro m
    induction m with
    | zero =>
      intro p e hp
      rw [wpX1_addressOfRank_L2]
      exact pk_le 64 p (fun _ => hp) (fun q => absurd q (by omega))
    | succ m ih =>
      intro p e hp
      rw [wpX1_addressOfRank_L2]
      refine pk_le 64 p (fun q => absurd q (by omega)) (fun _ => ?_)
      unfold fnd at hp
      refine kC_hasRank R B (by omega) ⟨fun q => ?_, fun q => ?_⟩
      · obtain ⟨q1, q2⟩ := hasRk_iff.mp q
        refine kC_rankOf R B q1 q2 ⟨fun z => ?_, fun z => ?_⟩
        · rw [if_pos (by rw [q, decide_eq_true z]; rfl)] at hp; exact hp
        · rw [if_neg (by rw [q, decide_eq_false z]; simp)] at hp
          rw [nI_1]; exact ih (p + 1) (by omega) hp
      · rw [if_neg (by rw [q]; simp)] at hp
        rw [nI_1]; exact ih (p + 1) (by omega) hp
  unfold wpX1_addressOfRank
  exact ⟨65, L 64 0 rfl hp⟩
end RC
section RM
variable {μ : MO} {D : DS}
theorem kM_ahead (RM : RelM D (mo_now μ)) (B : Bw D) {a : Nat} (ha : isAd (d_sp D) a = true) (hb : d_bY D a < 64) {post : Int32 → Prop} (hp : post (nI (rankN D a))) : wpX4_ahead μ (nI a) post := by
  have hl := isAd_lt ha
  have wa := B.wear _ hb
  have ea : ((mo_now μ) (20 + ((mo_now μ) (148 + nI a).toNatClampNeg)).toNatClampNeg) = nI (d_wear D (d_bY D a)) := by
    rw [cl148 hl, RM.bY a hl, wh_lt hb, cl20 hb, RM.wear _ hb]
  have L : ∀ (m p c : Nat), p + m = 64 → post (nI (c + cnt (above D a) m p)) → wpX4_ahead_L24 μ (nI a) post (m + 1) (nI c) (nI p) := by
    intro m
    induction m with
    | zero =>
      intro p c e hp
      rw [wpX4_ahead_L24]
      exact pk_le 64 p (fun _ => hp) (fun q => absurd q (by omega))
    | succ m ih =>
      intro p c e hp
      rw [wpX4_ahead_L24]
      refine pk_le 64 p (fun q => absurd q (by omega)) (fun _ => ?_)
      have pl : p < 64 := by omega
      unfold cnt at hp
      have no : above D a p = false → wpX4_ahead_J93 (nI c) (nI p) post (wpX4_ahead_L24 μ (nI a) post (m + 1)) := fun z => by
        unfold wpX4_ahead_J93 wpX4_ahead_J94
        rw [if_neg (by rw [z]; simp), Nat.zero_add] at hp
        rw [bi_f, Int32.add_zero, nI_1]; exact ih (p + 1) c (by omega) hp
      have no2 : above D a p = false → wpX4_ahead_L24 μ (nI a) post (m + 1) (nI c) (nI p + 1) := fun z => by
        rw [if_neg (by rw [z]; simp), Nat.zero_add] at hp
        rw [nI_1]; exact ih (p + 1) c (by omega) hp
      have yes : above D a p = true → wpX4_ahead_J89 (nI c) (nI p) post (wpX4_ahead_L24 μ (nI a) post (m + 1)) := fun z => by
        unfold wpX4_ahead_J89 wpX4_ahead_J94
        rw [if_pos z] at hp
        rw [bi_t, nI_1, nI_1]; exact ih (p + 1) (c + 1) (by omega) (by rw [Nat.add_assoc]; exact hp)
      refine kM_isAdN RM B (by omega) ⟨fun q1 => kM_lostN RM pl (fun z => ⟨fun _ => no2 (by unfold above; rw [hasRk_l z]; rfl), fun y => (by cases y)⟩) (fun q2 => ⟨fun y => (by cases y), fun _ => ⟨in148 pl, ?_⟩⟩), fun q => no2 (by unfold above; rw [hasRk_s q]; rfl)⟩
      have wp := B.wear _ q2
      have q := hasRk_t q1 q2
      rw [ea, cl148 pl, RM.bY p pl, wh_lt q2, cl20 q2, RM.wear _ q2]
      refine ⟨in20 q2, ?_⟩
      refine pk_lt (d_wear D (d_bY D a)) (d_wear D (d_bY D p)) (fun y => yes ?_) (fun y => pk_eq (d_wear D (d_bY D p)) (d_wear D (d_bY D a)) (fun x => pk_le a p (fun k => no ?_) (fun k => yes ?_)) (fun x => no ?_))
      · unfold above; rw [q, decide_eq_true y]; rfl
      · unfold above; rw [decide_eq_false (by omega), decide_eq_false (p := p < a) (by omega), Bool.and_false, Bool.or_false, Bool.and_false]
      · unfold above; rw [q, decide_eq_true x, decide_eq_true (p := p < a) (by omega)]; simp
      · unfold above; rw [decide_eq_false (by omega), decide_eq_false x, Bool.false_and, Bool.or_false, Bool.and_false]
  unfold wpX4_ahead
  refine ⟨in148 hl, ?_, 65, L 64 0 0 rfl (by rw [Nat.zero_add]; exact hp)⟩
  rw [cl148 hl, RM.bY a hl, wh_lt hb]
  exact in20 hb
theorem kM_worst (RM : RelM D (mo_now μ)) (B : Bw D) {r : Int32} {post : Int32 → Prop} (h1 : 0 ≤ r → post (rankA D r)) (h2 : ¬ 0 ≤ r → post (-2)) : wpX4_worst μ r post := by
  have L : ∀ (m p : Nat), p + m = 64 → post (co (fnd (fun a => hasRk D a && decide (nI (rankN D a) = r)) m p)) → wpX4_worst_L9 μ r post (m + 1) (nI p) := by
    intro m
    induction m with
    | zero =>
      intro p e hp
      rw [wpX4_worst_L9]
      exact pk_le 64 p (fun _ => hp) (fun q => absurd q (by omega))
    | succ m ih =>
      intro p e hp
      rw [wpX4_worst_L9]
      refine pk_le 64 p (fun q => absurd q (by omega)) (fun _ => ?_)
      unfold fnd at hp
      have no : (hasRk D p && decide (nI (rankN D p) = r)) = false → wpX4_worst_L9 μ r post (m + 1) (nI p + 1) := fun z => by
        rw [if_neg (by rw [z]; simp)] at hp
        rw [nI_1]; exact ih (p + 1) (by omega) hp
      refine kM_isAdN RM B (by omega) ⟨fun q1 => kM_lostN RM (by omega) (fun z => ⟨fun _ => no (by rw [hasRk_l z]; rfl), fun y => (by cases y)⟩) (fun q2 => ⟨fun y => (by cases y), fun _ => kM_ahead RM B q1 q2 ⟨fun z => ?_, fun z => no (by rw [decide_eq_false z, Bool.and_false])⟩⟩), fun q => no (by rw [hasRk_s q]; rfl)⟩
      rw [if_pos (by rw [hasRk_t q1 q2, decide_eq_true z]; rfl)] at hp; exact hp
  unfold wpX4_worst
  exact ⟨fun q => ⟨65, L 64 0 rfl (h1 q)⟩, h2⟩
end RM
theorem sim_worst : ok_worst Sim := by
  intro χ μ i hi S r
  obtain ⟨D, n, H, P⟩ := S.pre
  unfold wpX3_worst
  refine ⟨fun q => kC_ofRank P.1 P.2.2.1.1.1.1 (kM_worst P.2.1 P.2.2.1.1.1.1 (fun _ => ⟨rfl, S.up⟩) (fun z => absurd q z)), fun q => kM_worst P.2.1 P.2.2.1.1.1.1 (fun z => absurd z q) (fun _ => ⟨rfl, S.up⟩)⟩
