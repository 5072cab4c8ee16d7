/-! copying, undoing, keeping, typing -/
theorem cpy_zero {m : Nat} {D : DS} {f t : Nat} (h : (cpyD m D f t).1 = 0) : (cpyD m D f t).2 = D := by
  cases m with
  | zero => rfl
  | succ m =>
    unfold cpyD at h ⊢
    cases e : pairD D f t with
    | none => rfl
    | some E => rw [e] at h; exact absurd h (Nat.succ_ne_zero _)
section MC
variable {μ : MO} {D : DS} {n : Nat} {H : Nat → DS}
theorem kM_one (RM : RelM D (mo_now μ)) (I : Inv D) {f t : Nat} (hf : f < 2 ^ 31) (ht : t < 2 ^ 31) {post : Bool → MO → Prop} (h1 : pairD D f t = none → ∀ gp g', RelM D g' → post false (mo_setNow (mo_setPair μ gp) g')) (h2 : ∀ E, pairD D f t = some E → ∀ gp g', RelM E g' → post true (mo_setNow (mo_setPair μ gp) g')) : wpX4_copiesOne μ (nI f) (nI t) post := by
  unfold wpX4_copiesOne
  refine kM_copyD RM (fun gp Rp => kM_reads (D := D) (μ := mo_setPair μ gp) RM I (fun g1 R1 => ?_))
  rw [rR_adr D hf] at R1 ⊢
  have back : ∀ g, pairD D f t = none → wpX4_copiesOne_J32 post (mo_setNow (mo_setPair μ gp) g) := fun g e => by
    unfold wpX4_copiesOne_J32
    exact kM_copyD (D := D) Rp (fun g' R' => h1 e gp g' R')
  refine ⟨fun q => back g1 (by unfold pairD; rw [if_pos q]), fun q => kM_writes (D := (readR D f).2) (μ := mo_setNow (mo_setPair μ gp) g1) R1 (I.rR f) (fun g2 R2 => ?_)⟩
  rw [wR_adr _ ht] at R2 ⊢
  rw [set_set]
  refine ⟨fun z => back g2 (by unfold pairD; rw [if_neg q, if_pos z]), fun z => ?_⟩
  exact h2 _ (by unfold pairD; rw [if_neg q, if_neg z]) gp g2 R2
theorem kM_row {f t M : Nat} (hf : f < 64) (ht : t < 64) (hM : M ≤ 16) {post : Int32 → MO → Prop} : ∀ (m i : Nat) (E : DS) (gp g : Nat → Int32), i + m = M → RelM E g → Inv E → (∀ gp g', RelM (cpyD m E (f + i) (t + i)).2 g' → wpX4_copy_J72 (nI (i + (cpyD m E (f + i) (t + i)).1)) post (mo_setNow (mo_setPair μ gp) g')) → wpX4_copy_L45 (nI f) (nI t) (nI M) post (m + 1) (nI i) (mo_setNow (mo_setPair μ gp) g) := by
  intro m
  induction m with
  | zero =>
    intro i E gp g e RE IE hp
    rw [wpX4_copy_L45]
    exact pk_le M i (fun _ => hp gp g RE) (fun q => absurd q (by omega))
  | succ m ih =>
    intro i E gp g e RE IE hp
    rw [wpX4_copy_L45]
    refine pk_le M i (fun q => absurd q (by omega)) (fun _ => ?_)
    rw [nI_add, nI_add]
    refine kM_one (D := E) (μ := mo_setNow (mo_setPair μ gp) g) RE IE (by omega) (by omega) (fun ep gp2 g' R' => ⟨fun z => (by cases z), fun _ => ?_⟩) (fun F ep gp2 g' R' => ⟨fun _ => ?_, fun z => (by cases z)⟩)
    · have z := hp gp2 g'
      rw [show cpyD (m + 1) E (f + i) (t + i) = (0, E) by rw [cpyD, ep]] at z
      exact z R'
    · rw [nI_1]
      refine ih (i + 1) F gp2 g' (by omega) R' (IE.pair ep) (fun gp3 g3 R3 => ?_)
      have z := hp gp3 g3
      rw [show cpyD (m + 1) E (f + i) (t + i) = ((cpyD m F (f + i + 1) (t + i + 1)).1 + 1, (cpyD m F (f + i + 1) (t + i + 1)).2) by rw [cpyD, ep]] at z
      have y := z R3
      rw [show i + ((cpyD m F (f + i + 1) (t + i + 1)).1 + 1) = i + 1 + (cpyD m F (f + i + 1) (t + i + 1)).1 by omega] at y
      exact y
def copR (D : DS) (f t M : Nat) : Int32 × DS := if (cpyD M D f t).1 = 0 then (-5, D) else (nI (cpyD M D f t).1, (cpyD M D f t).2)
theorem kM_copy (RM : RelM D (mo_now μ)) (I : Inv D) (hn : n ≤ 4) (HM : HistM (mo_history μ) (mo_kept μ) n H) {f t M : Nat} (hf : isAd (d_sp D) f = true) (ht : isAd (d_sp D) t = true) (hM : 1 ≤ M ∧ M ≤ 16) {post : Int32 → MO → Prop} (h : MAct μ D n H (copR D f t M) post) : wpX4_copy μ (nI f) (nI t) (nI M) post := by
  have lf := isAd_lt hf
  have lt := isAd_lt ht
  unfold wpX4_copy
  refine kM_isAdN RM I.1.1 (by omega) ⟨fun _ => kM_isAdN RM I.1.1 (by omega) ⟨fun _ => ?_, fun z => by rw [ht] at z; cases z⟩, fun z => by rw [hf] at z; cases z⟩
  refine kM_in (lo := 1) (hi := 16) (by omega) (by omega) ?_
  rw [nI_toInt (by omega), decide_eq_true (by omega)]
  refine ⟨fun _ => kM_copyD RM (fun gs Rs => ⟨M + 1, ?_⟩), fun z => (by cases z)⟩
  refine kM_row (μ := mo_setSpare μ gs) lf lt hM.2 M 0 D (mo_pair μ) (mo_now μ) (by omega) RM I (fun gp g' R' => ?_)
  rw [Nat.add_zero, Nat.add_zero] at R' ⊢
  rw [Nat.zero_add]
  have hc : (cpyD M D f t).1 ≤ M := cpy_le
  unfold wpX4_copy_J72
  refine pk_eq (cpyD M D f t).1 0 (fun q => ?_) (fun q => ?_)
  · unfold copR at h
    rw [if_pos q] at h
    rw [cpy_zero q] at R'
    exact h.1 (show (-5 : Int32) < 0 by decide) gs gp g' R'
  · unfold copR at h
    rw [if_neg q] at h
    exact kM_record (f := gs) (hist := mo_history μ) (kept := mo_kept μ) hn HM Rs (fun ρ Q => h.2 (lt_neg (v := (cpyD M D f t).1) (by have : (cpyD M D f t).1 ≤ M := cpy_le; omega)) gs gp g' ρ R' Q)
end MC
theorem sim_copy : ok_copy Sim := by
  intro χ μ i hi S x y v
  obtain ⟨D, n, H, P⟩ := S.pre
  have B := P.2.2.1.1.1.1
  have bad : ∀ w : Int32, (isAd (d_sp D) (adr x) = false ∧ w = -1) ∨ (isAd (d_sp D) (adr x) = true ∧ isAd (d_sp D) (adr y) = false ∧ w = -1) ∨ (isAd (d_sp D) (adr x) = true ∧ isAd (d_sp D) (adr y) = true ∧ ¬ (1 ≤ v.toInt ∧ v.toInt ≤ 16) ∧ w = -2) → wpX4_copy μ x y v (fun a' μ' => w = a' ∧ Sim χ μ' (i + 1)) := by
    intro w hw
    unfold wpX4_copy
    refine kM_isAddress P.2.1 B ⟨fun q => kM_isAddress P.2.1 B ⟨fun q2 => kM_in (lo := 1) (hi := 16) (by omega) (by omega) ⟨fun c => ?_, fun c => ?_⟩, fun q2 => ?_⟩, fun q => ?_⟩
    · have c : 1 ≤ v.toInt ∧ v.toInt ≤ 16 := of_decide_eq_true c
      rcases hw with ⟨k, -⟩ | ⟨-, k, -⟩ | ⟨-, -, k, -⟩
      · rw [q] at k; cases k
      · rw [q2] at k; cases k
      · exact absurd c k
    · rcases hw with ⟨k, -⟩ | ⟨-, k, -⟩ | ⟨-, -, k, e⟩
      · rw [q] at k; cases k
      · rw [q2] at k; cases k
      · exact ⟨e, S.up⟩
    · rcases hw with ⟨k, -⟩ | ⟨-, k, e⟩ | ⟨-, k, -, e⟩
      · rw [q] at k; cases k
      · exact ⟨e, S.up⟩
      · rw [q2] at k; cases k
    · rcases hw with ⟨k, e⟩ | ⟨k, -, e⟩ | ⟨k, -, -, e⟩
      · exact ⟨e, S.up⟩
      · rw [q] at k; cases k
      · rw [q] at k; cases k
  have z16 : (16 : Int32).toInt = 16 := by decide
  unfold wpX3_copy
  refine kC_isAddress P.1 B ⟨fun q => kC_isAddress P.1 B ⟨fun q2 => ⟨fun c => bad _ (Or.inr (Or.inr ⟨q, q2, ?_, rfl⟩)), fun c => ⟨fun c2 => ?_, fun c2 => bad _ (Or.inr (Or.inr ⟨q, q2, ?_, rfl⟩))⟩⟩, fun q2 => bad _ (Or.inr (Or.inl ⟨q, q2, rfl⟩))⟩, fun q => bad _ (Or.inl ⟨q, rfl⟩)⟩
  · rw [i32_1] at c; omega
  · clear bad
    rw [i32_1] at c
    rw [Int32.le_iff_toInt_le, z16] at c2
    have ex := adr_ad q
    have ey := adr_ad q2
    have ev := nI_rng (x := v) (by omega)
    generalize adr x = f at q ex
    generalize adr y = t at q2 ey
    have hM : 1 ≤ v.toInt.toNat ∧ v.toInt.toNat ≤ 16 := by omega
    generalize v.toInt.toNat = M at hM ev
    subst ex ey ev
    have lf := isAd_lt q
    have lt := isAd_lt q2
    have hc : (cpyD M D f t).1 ≤ M := cpy_le
    have A := P.act (r := copR D f t M) (fun z => by
      unfold copR at z ⊢
      by_cases c : (cpyD M D f t).1 = 0
      · rw [if_pos c]; exact P.2.2.1.up
      · rw [if_neg c]; exact P.2.2.1.to P.2.2.1.1.cpy gr_cpy (by omega)) (W := fun post => wpX4_copy μ (nI f) (nI t) (nI M) post) (fun post h => kM_copy P.2.1 P.2.2.1.1 P.2.2.2.1 P.2.2.2.2.2.1 q q2 hM h)
    have fin : ∀ (σt σ2 : HS), ¬ (cpyD M D f t).1 = 0 → RelC (cpyD M D f t).2 σ2 → wpX3_copy_J84 (nI (cpyD M D f t).1) (fun a χ' => wpX4_copy μ (nI f) (nI t) (nI M) (fun a' μ' => a = a' ∧ Sim χ' μ' (i + 1))) (xs_setTrial (xs_setTrial χ σt) σ2) := by
      intro σt σ2 c0 R2
      unfold wpX3_copy_J84
      have e : copR D f t M = (nI (cpyD M D f t).1, (cpyD M D f t).2) := by unfold copR; rw [if_neg c0]
      rw [e] at A
      exact kC_end P.2.2.2.1 P.2.2.2.2.1 P.1 A (fun _ => R2)
    have zero : ∀ (σt : HS), (cpyD M D f t).1 = 0 → wpX4_copy μ (nI f) (nI t) (nI M) (fun a' μ' => -5 = a' ∧ Sim (xs_setTrial χ σt) μ' (i + 1)) := by
      intro σt c0
      have e : copR D f t M = (-5, D) := by unfold copR; rw [if_pos c0]
      rw [e] at A
      exact A.1 (show (-5 : Int32) < 0 by decide) σt
    refine kC_startTrial P.1 (fun σt Rt => kC_copyRow (D := D) Rt P.2.2.1.1 lf lt hM.2 (fun e σ2 R2 => ⟨fun k => ?_, fun k => ⟨fun _ => ?_, fun k2 => ?_⟩⟩) (fun e σ2 => ⟨fun k => ?_, fun k => ⟨fun k2 => ?_, fun k2 => ?_⟩⟩))
    · have : M = 0 := nI_inj (by omega) (by omega) k
      omega
    · have z := fin σt σ2 (by omega) R2
      rw [e] at z; exact z
    · exact absurd (Int32.le_refl _) k2
    · exact zero σ2 (nI_inj (by omega) (by omega) k)
    · rw [Int32.le_iff_toInt_le, nI_toInt (by omega), nI_toInt (by omega)] at k2
      omega
    · have c0 : ¬ (cpyD M D f t).1 = 0 := fun z => k (by rw [z]; rfl)
      refine kC_startTrial (χ := xs_setTrial (xs_setTrial χ σt) σ2) (D := D) P.1 (fun σ3 R3 => kC_copyRow (D := D) (M := (cpyD M D f t).1) R3 P.2.2.1.1 lf lt (by omega) (fun e2 σ4 R4 => ?_) (fun e2 σ4 => ?_))
      · rw [cpy_again] at R4
        exact fin σ3 σ4 c0 R4
      · rw [cpy_again] at e2; omega
  · rw [Int32.le_iff_toInt_le, z16] at c2; omega
theorem sim_undo : ok_undo Sim := by
  intro χ μ i hi S
  obtain ⟨D, n, H, RC, RM, O, hn, ⟨e1, o, ho, e2, e3⟩, ⟨f1, f2⟩, hH, K, T⟩ := S.pre
  unfold wpX3_undo wpX2_states
  rw [e1]
  have mno : n = 0 → wpX4_undo μ (fun r' μ' => -5 = r' ∧ Sim χ μ' (i + 1)) := fun q => by
    unfold wpX4_undo
    rw [f1]
    exact pk_eq n 0 (fun _ => ⟨rfl, S.up⟩) (fun z => absurd q z)
  refine pk_eq n 0 mno (fun q => ?_)
  have en : nI n - 1 = nI (n - 1) := pk_sub (b := 1) (by omega)
  unfold wpX2_takeBack
  rw [e1, e2]
  refine ⟨fun z => ?_, fun _ => ?_⟩
  · rw [Int32.le_iff_toInt_le, nI_toInt (by omega), show (0 : Int32).toInt = 0 by decide] at z; omega
  rw [en, nI_add, nI_m4 (by omega)]
  refine ⟨pk_in ((o + (n - 1)) % 4) 4 (by omega), ?_⟩
  rw [nI_clamp (by omega)]
  refine kC_takeOver (e3 (n - 1) (by omega)) (fun σ' R' => ?_)
  unfold wpX4_undo
  rw [f1]
  refine pk_eq n 0 (fun z => absurd z q) (fun _ => ⟨277, ?_⟩)
  rw [en]
  have L : ∀ (m x : Nat) (g : Nat → Int32), x + m = 276 → (∀ y, y < x → g y = mo_history μ (276 * (n - 1) + y)) → wpX4_undo_L22 (fun r' μ' => nI (n - 1) = r' ∧ Sim (xs_setNow (xs_setHistory χ (hi_setMany (xs_history χ) (nI (n - 1)))) σ') μ' (i + 1)) (m + 1) (nI x) (mo_setNow (mo_setKept μ (nI (n - 1))) g) := by
    intro m
    induction m with
    | zero =>
      intro x g e hg
      rw [wpX4_undo_L22]
      refine pk_le 276 x (fun _ => ⟨rfl, ?_⟩) (fun q => absurd q (by omega))
      refine ⟨⟨H (n - 1), R', relM_cong (f2 (n - 1) (by omega)) (fun y hy => hg y (by omega)), (hH _ (by omega)).up⟩, ⟨n - 1, H, by omega, ⟨rfl, o, ho, e2, fun j hj => e3 j (by omega)⟩, ⟨rfl, fun j hj => f2 j (by omega)⟩, fun j hj => (hH j (by omega)).up⟩, K.up, T⟩
    | succ m ih =>
      intro x g e hg
      rw [wpX4_undo_L22]
      refine pk_le 276 x (fun q => absurd q (by omega)) (fun _ => ?_)
      have ek : (276 : Int32) * mo_kept (mo_setNow (mo_setKept μ (nI (n - 1))) g) + nI x = nI (276 * (n - 1) + x) := by
        show (276 : Int32) * nI (n - 1) + nI x = _
        rw [show (276 : Int32) * nI (n - 1) = nI (276 * (n - 1)) from pk_mul 276 (n - 1), nI_add]
      rw [ek, nI_clamp (n := x) (by omega), nI_clamp (n := 276 * (n - 1) + x) (by omega), nI_1]
      refine ⟨pk_in (276 * (n - 1) + x) 1104 (by omega), pk_in x 276 (by omega), ih (x + 1) (upd g x (mo_history μ (276 * (n - 1) + x))) (by omega) (fun y hy => ?_)⟩
      by_cases c : y = x
      · rw [c, upd_eq]
      · rw [upd_ne _ _ c]; exact hg y (by omega)
  exact L 276 0 (mo_now μ) rfl (fun y hy => absurd hy (by omega))
theorem sim_keep : ok_keep Sim := by
  intro χ μ i hi S
  obtain ⟨D, n, H, P⟩ := S.pre
  unfold wpX3_keep
  refine kC_takeOver P.1 (fun σ' R' => ?_)
  unfold wpX1_stepsSoFar wpX4_keep
  refine kM_copyD P.2.1 (fun gs Rs => ⟨in_3, ?_⟩)
  rw [c_3, P.2.1.steps, P.1.cnts.1]
  exact ⟨rfl, S.1.up, S.2.1.up, ⟨true, rfl, rfl, fun _ => ⟨D, R', Rs, P.2.2.1.up⟩⟩, S.2.2.2⟩
theorem sim_restore : ok_restore Sim := by
  intro χ μ i hi S
  obtain ⟨D, n, H, P⟩ := S.pre
  obtain ⟨b, eb1, eb2, hb⟩ := S.2.2.1
  unfold wpX3_restore
  rw [eb1]
  refine ⟨fun q => ?_, fun q => ?_⟩
  · unfold wpX4_restore
    rw [eb2]
    exact ⟨fun _ => ⟨rfl, S.up⟩, fun z => absurd q z⟩
  · obtain ⟨E, RE, ME, OE⟩ := hb ((bi_ne b).mp q)
    have A := P.act (r := (d_steps E, E)) (fun _ => OE.up) (W := fun post => wpX4_restore μ post) (fun post h => by
      unfold wpX4_restore
      rw [eb2]
      refine ⟨fun z => absurd z q, fun _ => kM_record P.2.2.2.1 P.2.2.2.2.2.1 P.2.1 (fun ρ Q => kM_copyD ME (fun g' R' => ⟨in_3, ?_⟩))⟩
      rw [c_3, R'.steps]
      obtain ⟨st, es, ls⟩ := OE.2
      exact h.2 (by show ¬ d_steps E < 0; rw [es]; exact lt_neg (by omega)) (mo_spare μ) (mo_pair μ) g' ρ R' Q)
    refine kC_takeOver RE (fun σ2 R2 => ?_)
    unfold wpX1_stepsSoFar
    rw [R2.cnts.1]
    exact kC_end (r := (d_steps E, E)) (σt := xs_trial χ) P.2.2.2.1 P.2.2.2.2.1 P.1 A (fun _ => R2)
theorem sim_type : ok_type Sim := by
  intro χ μ i hi S x hx
  obtain ⟨n, hn, e1, e2, e3⟩ := S.2.2.2
  unfold wpX3_type wpX0_append
  rw [e1]
  have m2 : wpX4_type μ x = fun post => (((mo_length μ) = 60 → post (-3) μ) ∧ (¬ (mo_length μ) = 60 → (vp_in (mo_length μ) 60 ∧ post ((mo_length μ) + 1) (mo_setLength (mo_setText μ (upd (mo_text μ) (mo_length μ).toNatClampNeg x)) ((mo_length μ) + 1))))) := rfl
  rw [m2, e2]
  refine pk_lt n 60 (fun q => ⟨pk_in n 60 q, pk_eq n 60 (fun z => absurd z (by omega)) (fun _ => ⟨pk_in n 60 q, rfl, ?_⟩)⟩) (fun q => pk_eq n 60 (fun _ => ⟨rfl, S.up⟩) (fun z => absurd z (by omega)))
  rw [nI_clamp (by omega)]
  refine ⟨S.1.up, S.2.1.up, S.2.2.1.up, n + 1, by omega, nI_1 n, nI_1 n, fun j hj => ?_⟩
  show upd (ct_codes (xs_text χ)) n x j = upd (mo_text μ) n x j ∧ 0 ≤ upd (ct_codes (xs_text χ)) n x j
  by_cases c : j = n
  · rw [c, upd_eq, upd_eq]; exact ⟨rfl, hx⟩
  · rw [upd_ne _ _ c, upd_ne _ _ c]; exact e3 j (by omega)
theorem sim_clearText : ok_clearText Sim := by
  intro χ μ i hi S
  obtain ⟨n, hn, e1, e2, e3⟩ := S.2.2.2
  unfold wpX3_clearText wpX0_empty wpX4_clearText
  exact ⟨e1.trans e2.symm, S.1.up, S.2.1.up, S.2.2.1.up, 0, by omega, rfl, rfl, fun j hj => absurd hj (by omega)⟩
