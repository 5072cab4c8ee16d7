/-! settings, giving back -/
theorem kM_isHeadY {k : Nat} (hk : k < 4) {post : Bool → Prop} (h : post true) : wpX4_isHead (nI k) post := by
  unfold wpX4_isHead
  refine kM_in (lo := 0) (hi := 3) (by omega) (by omega) ?_
  rw [nI_toInt (by omega), decide_eq_true (by omega)]
  exact h
theorem kM_isHeadN {x : Int32} (q : x < 0 ∨ nI 4 ≤ x) {post : Bool → Prop} (h : post false) : wpX4_isHead x post := by
  unfold wpX4_isHead
  refine kM_in (lo := 0) (hi := 3) (by omega) (by omega) ?_
  have w : ¬ (((0 : Nat) : Int) ≤ x.toInt ∧ x.toInt ≤ ((3 : Nat) : Int)) := by
    rcases q with q | q
    · rw [i32_0] at q; omega
    · rw [Int32.le_iff_toInt_le, nI_toInt (by omega)] at q; omega
  rw [decide_eq_false w]
  exact h
theorem MAct.no {μ : MO} {D : DS} {n : Nat} {H : Nat → DS} {v : Int32} {post : Int32 → MO → Prop} (RM : RelM D (mo_now μ)) (h : MAct μ D n H (v, D) post) (hv : v < 0) : post v μ := h.1 hv (mo_spare μ) (mo_pair μ) (mo_now μ) RM
section MB
variable {μ : MO} {D : DS} {n : Nat} {H : Nat → DS}
theorem kM_setLimit (RM : RelM D (mo_now μ)) (I : Inv D) (hn : n ≤ 4) (HM : HistM (mo_history μ) (mo_kept μ) n H) {x : Int32} {post : Int32 → MO → Prop} (h : MAct μ D n H (limR D x) post) : wpX4_setLimit μ x post := by
  have hl := I.1.lim
  unfold wpX4_setLimit
  unfold limR at h
  refine kM_in (lo := 1) (hi := 999) (by omega) (by omega) ⟨fun c => ⟨in_0, ?_⟩, fun c => ?_⟩
  · have c : 1 ≤ x.toInt ∧ x.toInt ≤ 999 := of_decide_eq_true c
    rw [if_pos c] at h
    rw [c_0, RM.lim]
    refine ⟨fun q => ?_, fun q => kM_record hn HM RM (fun ρ Q => ?_)⟩
    · rw [if_pos q.symm] at h; exact h.no RM (by decide)
    · rw [if_neg (fun z => q z.symm)] at h
      have ex := nI_rng (x := x) (by omega)
      refine h.2 (lt_neg (v := d_lim D) (by omega)) (mo_spare μ) (mo_pair μ) _ ρ ?_ Q
      have R2 := mU_lim RM (v := x.toInt.toNat)
      rw [← ex] at R2
      exact R2
  · have c : ¬ (1 ≤ x.toInt ∧ x.toInt ≤ 999) := of_decide_eq_false c
    rw [if_neg c] at h; exact h.no RM (by decide)
theorem kM_wear (RM : RelM D (mo_now μ)) {h : Nat} (hh : h < 4) {post : Int32 → Prop} (hp : post (nI (wearH D h))) : wpX4_wear μ (nI h) post := by
  have L : ∀ (m p c : Nat), p + m = 16 → post (nI (c + sm (d_wear D) m (16 * h + p))) → wpX4_wear_L4 μ (nI h) post (m + 1) (nI c) (nI p) := by
    intro m
    induction m with
    | zero =>
      intro p c e hp
      rw [wpX4_wear_L4]
      exact pk_le 16 p (fun _ => hp) (fun q => absurd q (by omega))
    | succ m ih =>
      intro p c e hp
      rw [wpX4_wear_L4]
      refine pk_le 16 p (fun q => absurd q (by omega)) (fun _ => ?_)
      have ei : (20 : Int32) + 16 * nI h + nI p = 20 + nI (16 * h + p) := by
        rw [Int32.add_assoc, nI_ph]
      rw [ei, cl20 (by omega), RM.wear _ (by omega), nI_add, nI_1]
      unfold sm at hp
      exact ⟨in20 (by omega), ih (p + 1) (c + d_wear D (16 * h + p)) (by omega) (by rw [Nat.add_assoc]; exact hp)⟩
  unfold wpX4_wear
  exact ⟨17, L 16 0 0 rfl (by rw [Nat.zero_add]; exact hp)⟩
theorem kM_setSp (RM : RelM D (mo_now μ)) (I : Inv D) (hn : n ≤ 4) (HM : HistM (mo_history μ) (mo_kept μ) n H) {hd : Nat} (hh : hd < 4) {x : Int32} {post : Int32 → MO → Prop} (h : MAct μ D n H (spR D hd x) post) : wpX4_setHead_J22 μ (nI hd) 0 x post 6 := by
  have hl := I.1.sp hd hh
  have hw : wearH D hd ≤ 16 * 2015 := sm_le (fun s _ h2 => I.1.wear s (by omega))
  unfold wpX4_setHead_J22
  unfold spR at h
  refine kM_in (lo := 1) (hi := 6) (by omega) (by omega) ⟨fun c => ⟨fun _ => ?_, fun z => absurd rfl z⟩, fun c => ?_⟩
  · have c : 1 ≤ x.toInt ∧ x.toInt ≤ 6 := of_decide_eq_true c
    rw [if_pos c] at h
    refine kM_wear RM hh (pk_lt 0 (wearH D hd) (fun q => ?_) (fun q => ⟨in16 hh, ?_⟩))
    · rw [if_pos (Or.inl q)] at h; exact h.no RM (by decide)
    · rw [cl16 hh, RM.giv hd hh]
      refine ⟨fun g => ?_, fun g => ?_⟩
      · have g : d_giv D hd = true := by
          cases e : d_giv D hd with
          | true => rfl
          | false => rw [e] at g; exact absurd g (by decide)
        rw [if_pos (Or.inr g)] at h; exact h.no RM (by decide)
      · have g : d_giv D hd = false := by
          cases e : d_giv D hd with
          | false => rfl
          | true => rw [e] at g; exact absurd rfl g
        rw [if_neg (by rw [g]; simp; omega)] at h
        unfold wpX4_setHead_J59
        refine ⟨fun _ => ?_, fun z => absurd rfl z⟩
        unfold wpX4_setHead_J70
        refine ⟨in12 hh, ?_⟩
        rw [cl12 hh, RM.sp hd hh]
        refine ⟨fun q => ?_, fun q => kM_record hn HM RM (fun ρ Q => ?_)⟩
        · rw [if_pos q.symm] at h; exact h.no RM (by decide)
        · rw [if_neg (fun z => q z.symm)] at h
          have ex := nI_rng (x := x) (by omega)
          refine h.2 (lt_neg (v := d_sp D hd) (by omega)) (mo_spare μ) (mo_pair μ) _ ρ ?_ Q
          have R2 := mU_sp RM hh (v := x.toInt.toNat)
          rw [← ex] at R2
          exact R2
  · have c : ¬ (1 ≤ x.toInt ∧ x.toInt ≤ 6) := of_decide_eq_false c
    rw [if_neg c] at h; exact h.no RM (by decide)
theorem kM_setAge (RM : RelM D (mo_now μ)) (I : Inv D) (hn : n ≤ 4) (HM : HistM (mo_history μ) (mo_kept μ) n H) {hd : Nat} (hh : hd < 4) {x : Int32} {post : Int32 → MO → Prop} (h : MAct μ D n H (ageR D hd x) post) : wpX4_setHead_J22 μ (nI hd) 1 x post 9 := by
  have hl := I.1.age hd hh
  unfold wpX4_setHead_J22
  unfold ageR at h
  refine kM_in (lo := 1) (hi := 9) (by omega) (by omega) ⟨fun c => ⟨fun z => absurd z (by decide), fun _ => ?_⟩, fun c => ?_⟩
  · have c : 1 ≤ x.toInt ∧ x.toInt ≤ 9 := of_decide_eq_true c
    rw [if_pos c] at h
    unfold wpX4_setHead_J59
    refine ⟨fun z => absurd z (by decide), fun _ => ?_⟩
    unfold wpX4_setHead_J70
    refine ⟨in8 hh, ?_⟩
    rw [cl8 hh, RM.age hd hh]
    refine ⟨fun q => ?_, fun q => kM_record hn HM RM (fun ρ Q => ?_)⟩
    · rw [if_pos q.symm] at h; exact h.no RM (by decide)
    · rw [if_neg (fun z => q z.symm)] at h
      have ex := nI_rng (x := x) (by omega)
      refine h.2 (lt_neg (v := d_age D hd) (by omega)) (mo_spare μ) (mo_pair μ) _ ρ ?_ Q
      have R2 := mU_age RM hh (v := x.toInt.toNat)
      rw [← ex] at R2
      exact R2
  · have c : ¬ (1 ≤ x.toInt ∧ x.toInt ≤ 9) := of_decide_eq_false c
    rw [if_neg c] at h; exact h.no RM (by decide)
theorem kM_back (RM : RelM D (mo_now μ)) (I : Inv D) (hn : n ≤ 4) (HM : HistM (mo_history μ) (mo_kept μ) n H) {x : Int32} {post : Int32 → MO → Prop} (h : MAct μ D n H (backR D (adr x)) post) : wpX4_giveBack μ x post := by
  unfold wpX4_giveBack
  unfold backR at h
  refine kM_isAddress RM I.1.1 ⟨fun q => ?_, fun q => ?_⟩
  · rw [if_pos q] at h
    have ex := adr_ad q
    generalize adr x = a at q h ex
    subst ex
    have hl := isAd_lt q
    refine ⟨in148 hl, ?_⟩
    rw [cl148 hl, RM.bY a hl]
    refine ⟨fun z => ?_, fun z => ⟨fun w => ?_, fun w => ?_⟩⟩
    · have hb : ¬ d_bY D a < 64 := fun c => absurd z (by rw [wh_lt c]; exact lt_neg (by omega))
      rw [if_neg (fun c => hb c.1)] at h; exact h.no RM (by decide)
    · have hb := wh_inj hl w
      rw [if_neg (fun c => c.2 hb)] at h; exact h.no RM (by decide)
    · have hb : d_bY D a < 64 := by
        by_cases c : d_bY D a < 64
        · exact c
        · rw [wh_ge (Nat.not_lt.mp c)] at z; exact absurd (by decide) z
      have hne : d_bY D a ≠ a := fun c => w (by rw [c, wh_lt hl])
      rw [if_pos ⟨hb, hne⟩] at h
      have hg := gradeN_le D a
      refine kM_state RM I.1.1 hl (pk_eq (gradeN D a) 0 (fun y => ?_) (fun y => ?_))
      · have c : d_wear D a < d_lim D := by
          unfold gradeN at y
          by_cases c : d_wear D a < d_lim D
          · exact c
          · rw [if_neg c] at y; split at y <;> omega
        rw [nI_pd (by omega)]
        refine ⟨in16 (by omega), ?_⟩
        rw [cl16 (by omega), RM.giv _ (by omega)]
        refine ⟨fun g => ?_, fun g => kM_record hn HM RM (fun ρ Q => ?_)⟩
        · have g : d_giv D (a / 16) = true := by
            cases e : d_giv D (a / 16) with
            | true => rfl
            | false => rw [e] at g; exact absurd g (by decide)
          rw [if_neg (fun k => by rw [g] at k; cases k.2)] at h; exact h.no RM (by decide)
        · have g : d_giv D (a / 16) = false := by
            cases e : d_giv D (a / 16) with
            | false => rfl
            | true => rw [e] at g; exact absurd rfl g
          rw [if_pos ⟨c, g⟩] at h
          rw [wh_lt hb]
          have hag := age_le I.1 hl
          have hlim := I.1.lim
          refine kM_goesTo (D := D) (μ := mo_setKept (mo_setHistory μ (rk_history ρ)) (rk_kept ρ)) RM I.1 q hb (fun g1 R1 => kM_goes R1 (I.1.1.go hb) hl (fun g2 R2 => kM_wearW R2 ((I.1.1.go hb).move hl) hl (fun g3 R3 => ?_)))
          have R4 := mU_bY R3 hl (v := a)
          rw [wh_lt hl] at R4
          have e4 : d_setBY (wearD (moveD (goD D a) a) a 2) (va_up (d_bY (wearD (moveD (goD D a) a) a 2)) a a) = byD (wearD (moveD (goD D a) a) a 2) a a := rfl
          rw [e4] at R4
          exact h.2 (lt_neg (v := d_bY D a) (by omega)) (mo_spare μ) (mo_pair μ) _ ρ R4 Q
      · have c : ¬ d_wear D a < d_lim D := fun c => y (by unfold gradeN; rw [if_pos c])
        rw [if_neg (fun k => c k.1)] at h; exact h.no RM (by decide)
  · rw [if_neg (by rw [q]; simp)] at h; exact h.no RM (by decide)
end MB
theorem Inv.back {D : DS} (I : Inv D) (a : Nat) : Inv (backR D a).2 := by
  unfold backR
  by_cases c : isAd (d_sp D) a = true
  · rw [if_pos c]
    by_cases c2 : d_bY D a < 64 ∧ d_bY D a ≠ a
    · rw [if_pos c2]
      by_cases c3 : d_wear D a < d_lim D ∧ d_giv D (a / 16) = false
      · rw [if_pos c3]
        have hl := isAd_lt c
        have hg := age_le I.1 hl
        have hlim := I.1.lim
        show Inv (byD (wearD (moveD (goD D a) a) a 2) a a)
        have B3 : Bd (wearD (moveD (goD D a) a) a 2) := ((I.1.go c2.1).move hl).worn (by simp only [a_move, a_go]; omega)
        refine ⟨B3.by_ ?_ ?_, ?_⟩
        · simp only [a_wear, a_move, a_go]
          exact fun b hb hab => own_free I.1 c hb hab
        · simp only [a_wear, a_move, a_go]
          exact fun _ => ⟨c3.2, Or.inl trivial⟩
        · unfold Tg
          simp only [a_by, a_wear, a_move, a_go]
          refine ⟨fun b hb h64 => ?_, fun s hs => ?_⟩
          · by_cases cb : b = a
            · rw [cb, up_eq, up_eq]; exact ⟨by omega, Or.inl rfl⟩
            · rw [up_ne _ _ cb] at h64 ⊢
              rw [up_ne _ _ (own_free I.1 c hb cb)]
              exact I.2.1 b hb h64
          · by_cases cs : s = a
            · rw [cs, up_eq]; exact Or.inl rfl
            · rw [up_ne _ _ cs, up_ne _ _ cs]; exact I.2.2 s hs
      · rw [if_neg c3]; exact I
    · rw [if_neg c2]; exact I
  · rw [if_neg c]; exact I
theorem gr_back (D : DS) (a : Nat) : Gr 51 D (backR D a).2 := by
  unfold backR
  by_cases c : isAd (d_sp D) a = true
  · rw [if_pos c]
    by_cases c2 : d_bY D a < 64 ∧ d_bY D a ≠ a
    · rw [if_pos c2]
      by_cases c3 : d_wear D a < d_lim D ∧ d_giv D (a / 16) = false
      · rw [if_pos c3]
        show Gr 51 D (byD (wearD (moveD (goD D a) a) a 2) a a)
        refine Gr.of (d := stepsD D a + apart (d_bY D a) a) ?_ ?_
        · have h1 := stepsD_le D a
          have h2 := apart_le (d_bY D a) a
          omega
        · simp only [a_by, a_wear, a_move, a_go]
          rw [Int32.add_assoc, nI_add]
      · rw [if_neg c3]; exact Gr.rfl
    · rw [if_neg c2]; exact Gr.rfl
  · rw [if_neg c]; exact Gr.rfl
theorem lim_ok {D : DS} (I : Inv D) {i : Nat} (O : Ok i D) (x : Int32) : Ok (i + 1) (limR D x).2 := by
  unfold limR
  by_cases c : 1 ≤ x.toInt ∧ x.toInt ≤ 999
  · rw [if_pos c]
    by_cases c2 : x = nI (d_lim D)
    · rw [if_pos c2]; exact O.up
    · rw [if_neg c2]; exact O.to (I.setLim (by omega)) (Gr.same (k := 0) rfl) (by omega)
  · rw [if_neg c]; exact O.up
theorem age_ok {D : DS} (I : Inv D) {i : Nat} (O : Ok i D) (h : Nat) (x : Int32) : Ok (i + 1) (ageR D h x).2 := by
  unfold ageR
  by_cases c : 1 ≤ x.toInt ∧ x.toInt ≤ 9
  · rw [if_pos c]
    by_cases c2 : x = nI (d_age D h)
    · rw [if_pos c2]; exact O.up
    · rw [if_neg c2]; exact O.to (I.setAge (by omega)) (Gr.same (k := 0) rfl) (by omega)
  · rw [if_neg c]; exact O.up
theorem sp_ok {D : DS} (I : Inv D) {i : Nat} (O : Ok i D) (h : Nat) (x : Int32) : Ok (i + 1) (spR D h x).2 := by
  unfold spR
  by_cases c : 1 ≤ x.toInt ∧ x.toInt ≤ 6
  · rw [if_pos c]
    by_cases c3 : 0 < wearH D h ∨ d_giv D h = true
    · rw [if_pos c3]; exact O.up
    · rw [if_neg c3]
      by_cases c2 : x = nI (d_sp D h)
      · rw [if_pos c2]; exact O.up
      · rw [if_neg c2]
        have g : d_giv D h = false := by
          cases e : d_giv D h with
          | false => rfl
          | true => exact absurd (Or.inr e) c3
        exact O.to (I.setSp (by omega) g (by omega)) (Gr.same (k := 0) rfl) (by omega)
  · rw [if_neg c]; exact O.up
theorem Res.of {r : Int32 × DS} {post : Int32 → HS → Prop} (h1 : r.1 < 0 → ∀ σ', post r.1 σ') (h2 : ¬ r.1 < 0 → ∀ σ', RelC r.2 σ' → post r.1 σ') : Res r post := ⟨h1, h2⟩
theorem kC_res {χ : XS} {D : DS} {n : Nat} {H : Nat → DS} (hn : n ≤ 4) (HC : HistC (xs_history χ) n H) (RC : RelC D (xs_now χ)) {r : Int32 × DS} {post : Int32 → XS → Prop} (h : CAct χ D n H r post) {σt : HS} : Res r (fun a σ2 => wpX3_settle (xs_setTrial (xs_setTrial χ σt) σ2) a post) := ⟨fun q σ2 => kC_end hn HC RC h (fun z => absurd q z), fun _ σ2 R2 => kC_end hn HC RC h (fun _ => R2)⟩
theorem sim_setLimit : ok_setLimit Sim := by
  intro χ μ i hi S x
  obtain ⟨D, n, H, P⟩ := S.pre
  have A := P.act (r := limR D x) (fun _ => lim_ok P.2.2.1.1 P.2.2.1 x) (W := fun post => wpX4_setLimit μ x post) (fun post h => kM_setLimit P.2.1 P.2.2.1.1 P.2.2.2.1 P.2.2.2.2.2.1 h)
  unfold wpX3_setLimit
  exact kC_startTrial P.1 (fun σt Rt => kC_changeLimit (D := D) Rt P.2.2.1.1.1.1 (kC_res P.2.2.2.1 P.2.2.2.2.1 P.1 A))
theorem sim_setHead : ok_setHead Sim := by
  intro χ μ i hi S x w v hw
  obtain ⟨D, n, H, P⟩ := S.pre
  unfold wpX3_setHead
  refine kS_isHead (fun k hk e => ⟨fun _ => ?_, fun z => (by cases z)⟩) (fun q => ⟨fun z => (by cases z), fun _ => ?_⟩)
  · subst e
    rcases hw with rfl | rfl
    · have A := P.act (r := spR D k v) (fun _ => sp_ok P.2.2.1.1 P.2.2.1 k v) (W := fun post => wpX4_setHead μ (nI k) 0 v post) (fun post h => by
        unfold wpX4_setHead
        exact kM_isHeadY hk ⟨fun _ => ⟨fun _ => kM_setSp P.2.1 P.2.2.1.1 P.2.2.2.1 P.2.2.2.2.2.1 hk h, fun z => absurd rfl z⟩, fun z => (by cases z)⟩)
      exact kC_startTrial P.1 (fun σt Rt => ⟨fun _ => kC_changeSpares (D := D) Rt P.2.2.1.1 hk (kC_res P.2.2.2.1 P.2.2.2.2.1 P.1 A), fun z => absurd rfl z⟩)
    · have A := P.act (r := ageR D k v) (fun _ => age_ok P.2.2.1.1 P.2.2.1 k v) (W := fun post => wpX4_setHead μ (nI k) 1 v post) (fun post h => by
        unfold wpX4_setHead
        exact kM_isHeadY hk ⟨fun _ => ⟨fun z => absurd z (by decide), fun _ => kM_setAge P.2.1 P.2.2.1.1 P.2.2.2.1 P.2.2.2.2.2.1 hk h⟩, fun z => (by cases z)⟩)
      exact kC_startTrial P.1 (fun σt Rt => ⟨fun z => absurd z (by decide), fun _ => kC_changeAgeing (D := D) Rt P.2.2.1.1.1.1 hk (kC_res P.2.2.2.1 P.2.2.2.2.1 P.1 A)⟩)
  · unfold wpX4_setHead
    exact kM_isHeadN q ⟨fun z => (by cases z), fun _ => ⟨rfl, S.up⟩⟩
theorem sim_giveBack : ok_giveBack Sim := by
  intro χ μ i hi S x
  obtain ⟨D, n, H, P⟩ := S.pre
  have A := P.act (r := backR D (adr x)) (fun _ => P.2.2.1.to (P.2.2.1.1.back _) (gr_back D _) (by omega)) (W := fun post => wpX4_giveBack μ x post) (fun post h => kM_back P.2.1 P.2.2.1.1 P.2.2.2.1 P.2.2.2.2.2.1 h)
  unfold wpX3_giveBack
  exact kC_startTrial P.1 (fun σt Rt => kC_giveBack (D := D) Rt P.2.2.1.1 (fun σ2 R2 => kC_end P.2.2.2.1 P.2.2.2.2.1 P.1 A (fun _ => R2)))
