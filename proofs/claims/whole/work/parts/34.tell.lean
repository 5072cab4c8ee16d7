/-! what the reference tells -/
theorem cnt_or {A B : Nat → Bool} (h : ∀ y, A y = true → B y = true → False) : ∀ {m p : Nat}, cnt (fun y => A y || B y) m p = cnt A m p + cnt B m p := by
  intro m
  induction m with
  | zero => intro p; rfl
  | succ m ih =>
    intro p
    unfold cnt
    rw [ih]
    cases ea : A p with
    | true =>
      cases eb : B p with
      | true => exact absurd (h p ea eb) id
      | false => simp; omega
    | false =>
      cases eb : B p with
      | true => simp; omega
      | false => simp
theorem cnt_one {k : Nat} : ∀ {m p : Nat}, p ≤ k → k < p + m → cnt (fun y => decide (k = y)) m p = 1 := by
  intro m
  induction m with
  | zero => intro p h1 h2; omega
  | succ m ih =>
    intro p h1 h2
    unfold cnt
    by_cases c : k = p
    · rw [if_pos (decide_eq_true c), cnt_zero (fun y g1 _ => decide_eq_false (by omega))]
    · rw [if_neg (by rw [decide_eq_false c]; simp), ih (by omega) (by omega)]
/-- as many as are met -/
theorem cnt_map {P : Nat → Bool} {f : Nat → Nat} (h64 : ∀ v, P v = true → f v < 64) (inj : ∀ v w, P v = true → P w = true → f v = f w → v = w) : ∀ {m p : Nat}, cnt P m p = cnt (fun s => (fnd (fun v => P v && decide (f v = s)) m p).isSome) 64 0 := by
  intro m
  induction m with
  | zero =>
    intro p
    show 0 = _
    exact (cnt_zero (fun y _ _ => rfl)).symm
  | succ m ih =>
    intro p
    have e : cnt (fun s => (fnd (fun v => P v && decide (f v = s)) (m + 1) p).isSome) 64 0 = cnt (fun s => (P p && decide (f p = s)) || (fnd (fun v => P v && decide (f v = s)) m (p + 1)).isSome) 64 0 := by
      refine cnt_cong (fun s _ _ => ?_)
      rw [fnd]
      cases c : (P p && decide (f p = s)) with
      | true => rw [if_pos rfl]; rfl
      | false => rw [if_neg (by simp)]; rfl
    have e2 : cnt (fun s => P p && decide (f p = s)) 64 0 = if P p = true then 1 else 0 := by
      cases c : P p with
      | true =>
        rw [if_pos rfl]
        have z := cnt_one (k := f p) (m := 64) (p := 0) (Nat.zero_le _) (by have := h64 p c; omega)
        rw [← z]
        exact cnt_cong (fun y _ _ => Bool.true_and _)
      | false =>
        rw [if_neg (by simp)]
        exact cnt_zero (fun y _ _ => Bool.false_and _)
    have e3 : ∀ y, (P p && decide (f p = y)) = true → (fnd (fun v => P v && decide (f v = y)) m (p + 1)).isSome = true → False := by
      intro y h1 h2
      rw [Bool.and_eq_true, decide_eq_true_eq] at h1
      cases g : fnd (fun v => P v && decide (f v = y)) m (p + 1) with
      | none => rw [g] at h2; cases h2
      | some v =>
        obtain ⟨k1, -, k3, -⟩ := fnd_some g
        rw [Bool.and_eq_true, decide_eq_true_eq] at k3
        have := inj p v h1.1 k3.1 (h1.2.trans k3.2.symm)
        omega
    rw [e, cnt_or e3, ← ih, e2]
    rfl
theorem cnt_part {P : Nat → Bool} {h : Nat} (hh : h < 4) : cnt (fun s => decide (s / 16 = h) && P s) 64 0 = cnt P 16 (16 * h) := by
  have blk : ∀ j, j < 4 → cnt (fun s => decide (s / 16 = h) && P s) 16 (16 * j) = if j = h then cnt P 16 (16 * j) else 0 := by
    intro j hj
    by_cases c : j = h
    · rw [if_pos c]
      refine cnt_cong (fun y g1 g2 => ?_)
      rw [decide_eq_true (by omega)]; rfl
    · rw [if_neg c]
      refine cnt_zero (fun y g1 g2 => ?_)
      rw [decide_eq_false (by omega)]; rfl
  rw [← cnt_heads, blk 0 (by omega), blk 1 (by omega), blk 2 (by omega), blk 3 (by omega)]
  have : h = 0 ∨ h = 1 ∨ h = 2 ∨ h = 3 := by omega
  rcases this with rfl | rfl | rfl | rfl <;> simp
def acP (D : DS) (v : Nat) : Bool := isAd (d_sp D) v && decide (d_bY D v < 64 ∧ d_bY D v / 16 ≠ v / 16)
def ac0 (D : DS) (h v : Nat) : Bool := acP D v && decide (d_bY D v / 16 = h)
def ac1 (D : DS) (h v : Nat) : Bool := acP D v && decide (v / 16 = h)
theorem acP_iff {D : DS} {v : Nat} : acP D v = true ↔ isAd (d_sp D) v = true ∧ d_bY D v < 64 ∧ d_bY D v / 16 ≠ v / 16 := by
  unfold acP; rw [Bool.and_eq_true, decide_eq_true_eq]
theorem ac1_cnt {D : DS} {h : Nat} (hh : h < 4) : cnt (ac1 D h) 64 0 = cnt (elsQ (srv (d_sp D) (d_bY D)) h) 16 (16 * h) := by
  rw [← cnt_part hh]
  refine cnt_cong (fun v _ _ => ?_)
  by_cases c : v / 16 = h
  · rw [decide_eq_true c, Bool.true_and]
    unfold ac1
    rw [decide_eq_true c, Bool.and_true]
    unfold elsQ
    by_cases q : isAd (d_sp D) v = true ∧ d_bY D v < 64
    · rw [srv_ad q.1 q.2]
      show acP D v = !decide (d_bY D v / 16 = h)
      unfold acP
      rw [q.1, Bool.true_and]
      by_cases z : d_bY D v / 16 = h
      · rw [decide_eq_false (by omega), decide_eq_true z]; rfl
      · rw [decide_eq_true (by omega), decide_eq_false z]; rfl
    · have e : srv (d_sp D) (d_bY D) v = none := by unfold srv; rw [if_neg q]
      rw [e]
      show acP D v = false
      cases g : acP D v with
      | false => rfl
      | true => exact absurd ⟨(acP_iff.mp g).1, (acP_iff.mp g).2.1⟩ q
  · unfold ac1
    rw [decide_eq_false c, Bool.false_and, Bool.and_false]
theorem ac0_cnt {D : DS} (B : Bw D) {h : Nat} (hh : h < 4) : cnt (ac0 D h) 64 0 = cnt (elsQ (cli (d_sp D) (d_bY D)) h) 16 (16 * h) := by
  rw [← cnt_part hh]
  have iff0 : ∀ v, ac0 D h v = true ↔ (isAd (d_sp D) v = true ∧ d_bY D v < 64 ∧ d_bY D v / 16 ≠ v / 16) ∧ d_bY D v / 16 = h := fun v => by
    unfold ac0; rw [Bool.and_eq_true, decide_eq_true_eq, acP_iff]
  rw [cnt_map (P := ac0 D h) (f := d_bY D) (fun v q => ((iff0 v).mp q).1.2.1) (fun v w q1 q2 e => B.inj v w ((iff0 v).mp q1).1.1 ((iff0 w).mp q2).1.1 e ((iff0 v).mp q1).1.2.1)]
  refine cnt_cong (fun s _ hs => ?_)
  have hs : s < 64 := by omega
  cases g : fnd (fun v => ac0 D h v && decide (d_bY D v = s)) 64 0 with
  | some v =>
    obtain ⟨-, -, k3, -⟩ := fnd_some g
    simp only [Bool.and_eq_true, decide_eq_true_eq] at k3
    obtain ⟨⟨a1, a2, a3⟩, a4⟩ := (iff0 v).mp k3.1
    have ec : cli (d_sp D) (d_bY D) s = some v := cli_is B.inj hs a1 k3.2
    rw [decide_eq_true (by rw [← k3.2]; exact a4), Bool.true_and]
    unfold elsQ
    rw [ec]
    show true = !decide (v / 16 = h)
    rw [decide_eq_false (by omega)]; rfl
  | none =>
    have nn := fnd_none g
    show false = _
    by_cases c : s / 16 = h
    · rw [decide_eq_true c, Bool.true_and]
      unfold elsQ
      cases ec : cli (d_sp D) (d_bY D) s with
      | none => rfl
      | some x =>
        obtain ⟨x1, x2⟩ := cli_some ec
        show false = !decide (x / 16 = h)
        by_cases cx : x / 16 = h
        · rw [decide_eq_true cx]; rfl
        · have y := nn x (Nat.zero_le _) (by have := isAd_lt x1; omega)
          rw [(iff0 x).mpr ⟨⟨x1, by omega, by rw [x2]; omega⟩, by rw [x2]; exact c⟩, decide_eq_true x2] at y
          cases y
    · rw [decide_eq_false c, Bool.false_and]
section MT
variable {μ : MO} {D : DS}
theorem in_out {lo hi : Nat} {w : Int32} (c : ¬ ((lo : Int) ≤ w.toInt ∧ w.toInt ≤ hi)) {k : Int32} (hk : (lo : Int) ≤ k.toInt ∧ k.toInt ≤ hi) : ¬ w = k := fun e => c (by rw [e]; exact hk)
theorem kM_address (RM : RelM D (mo_now μ)) (I : Inv D) {x w : Int32} {post : Int32 → Prop} (h1 : isAd (d_sp D) (adr x) = true → post (addrR D (adr x) w)) (h2 : isAd (d_sp D) (adr x) = false → post (-1)) : wpX4_address μ x w post := by
  unfold wpX4_address
  refine kM_isAddress RM I.1.1 ⟨fun q => ?_, h2⟩
  have hp := h1 q
  have ex := adr_ad q
  clear h1 h2
  generalize adr x = a at q ex hp
  subst ex
  have hl := isAd_lt q
  refine kM_in (lo := 0) (hi := 5) (by omega) (by omega) ⟨fun c => ?_, fun c => ?_⟩
  · have c := of_decide_eq_true c
    have ew := nI_rng (x := w) (by omega)
    have hw : w.toInt.toNat < 6 := by omega
    generalize w.toInt.toNat = k at ew hw
    subst ew
    unfold addrR at hp
    have K : ∀ b : Bool, (b = true → 64 ≤ d_bY D a) → (b = false → d_bY D a < 64) → ((nI k = 3 → wpX4_lends μ (nI a) (fun r35 => post r35)) ∧ (¬ nI k = 3 → ((nI k = 5 → (vp_in (212 + nI a) 276 ∧ post ((mo_now μ) (212 + nI a).toNatClampNeg))) ∧ (¬ nI k = 5 → ((nI k = 2 → ((b = true → post 0) ∧ (b = false → (vp_in (148 + nI a) 276 ∧ ((((mo_now μ) (148 + nI a).toNatClampNeg) = nI a → post 0) ∧ (¬ ((mo_now μ) (148 + nI a).toNatClampNeg) = nI a → post 1)))))) ∧ (¬ nI k = 2 → ((b = true → post (-5)) ∧ (b = false → ((nI k = 0 → (vp_in (84 + nI a) 276 ∧ post ((mo_now μ) (84 + nI a).toNatClampNeg))) ∧ (¬ nI k = 0 → ((nI k = 1 → (vp_in (148 + nI a) 276 ∧ post ((mo_now μ) (148 + nI a).toNatClampNeg))) ∧ (¬ nI k = 1 → wpX4_steps μ (nI a) (fun r129 => post r129))))))))))))) := by
      intro b hb1 hb2
      have : k = 0 ∨ k = 1 ∨ k = 2 ∨ k = 3 ∨ k = 4 ∨ k = 5 := by omega
      rcases this with rfl | rfl | rfl | rfl | rfl | rfl
      · rw [if_pos (by decide)] at hp
        refine ⟨fun z => absurd z (by decide), fun _ => ⟨fun z => absurd z (by decide), fun _ => ⟨fun z => absurd z (by decide), fun _ => ⟨fun z => ?_, fun z => ⟨fun _ => ⟨in84 hl, ?_⟩, fun y => absurd rfl y⟩⟩⟩⟩⟩
        · have := hb1 z; rw [if_neg (by omega)] at hp; exact hp
        · rw [if_pos (hb2 z)] at hp; rw [cl84 hl, RM.val a hl]; exact hp
      · rw [if_neg (by decide), if_pos (by decide)] at hp
        refine ⟨fun z => absurd z (by decide), fun _ => ⟨fun z => absurd z (by decide), fun _ => ⟨fun z => absurd z (by decide), fun _ => ⟨fun z => ?_, fun z => ⟨fun y => absurd y (by decide), fun _ => ⟨fun _ => ⟨in148 hl, ?_⟩, fun y => absurd rfl y⟩⟩⟩⟩⟩⟩
        · rw [srv_lost (hb1 z)] at hp; exact hp
        · rw [srv_ad q (hb2 z)] at hp
          rw [cl148 hl, RM.bY a hl, wh_lt (hb2 z)]; exact hp
      · rw [if_neg (by decide), if_neg (by decide), if_pos (by decide)] at hp
        refine ⟨fun z => absurd z (by decide), fun _ => ⟨fun z => absurd z (by decide), fun _ => ⟨fun _ => ⟨fun z => ?_, fun z => ⟨in148 hl, ?_⟩⟩, fun y => absurd rfl y⟩⟩⟩
        · have := hb1 z; rw [if_neg (by omega)] at hp; exact hp
        · rw [cl148 hl, RM.bY a hl, wh_lt (hb2 z)]
          have hb3 := hb2 z
          refine pk_eq (d_bY D a) a (fun y => ?_) (fun y => ?_)
          · rw [if_neg (fun w => w.2 y)] at hp; exact hp
          · rw [if_pos ⟨hb2 z, y⟩] at hp; exact hp
      · rw [if_neg (by decide), if_neg (by decide), if_neg (by decide), if_pos (by decide)] at hp
        exact ⟨fun _ => kM_lends RM I.1.1 hl hp, fun y => absurd rfl y⟩
      · rw [if_neg (by decide), if_neg (by decide), if_neg (by decide), if_neg (by decide), if_pos (by decide)] at hp
        refine ⟨fun z => absurd z (by decide), fun _ => ⟨fun z => absurd z (by decide), fun _ => ⟨fun z => absurd z (by decide), fun _ => ⟨fun z => ?_, fun z => ⟨fun y => absurd y (by decide), fun _ => ⟨fun y => absurd y (by decide), fun _ => ?_⟩⟩⟩⟩⟩⟩
        · have := hb1 z; rw [if_neg (by omega)] at hp; exact hp
        · rw [if_pos (hb2 z)] at hp
          exact kM_steps RM I.1 q (hb2 z) hp
      · rw [if_neg (by decide), if_neg (by decide), if_neg (by decide), if_neg (by decide), if_neg (by decide), if_pos (by decide)] at hp
        refine ⟨fun z => absurd z (by decide), fun _ => ⟨fun _ => ⟨in212 hl, ?_⟩, fun y => absurd rfl y⟩⟩
        rw [cl212 hl, RM.rof a hl]; exact hp
    exact kM_lostN RM hl (fun z => K true (fun _ => z) (fun y => (by cases y))) (fun z => K false (fun y => (by cases y)) (fun _ => z))
  · have c := of_decide_eq_false c
    unfold addrR at hp
    rw [if_neg (in_out c (by decide)), if_neg (in_out c (by decide)), if_neg (in_out c (by decide)), if_neg (in_out c (by decide)), if_neg (in_out c (by decide)), if_neg (in_out c (by decide))] at hp
    exact hp
theorem kM_sector (RM : RelM D (mo_now μ)) (I : Inv D) {x w : Int32} {post : Int32 → Prop} (h1 : adr x < 64 → post (secR D (adr x) w)) (h2 : ¬ adr x < 64 → post (-1)) : wpX4_sector μ x w post := by
  unfold wpX4_sector
  rcases adr_cases x with ⟨s, hs, rfl, e⟩ | ⟨e, q⟩
  · rw [e] at h1
    have hp := h1 hs
    refine kM_in (lo := 0) (hi := 63) (by omega) (by omega) ?_
    rw [nI_toInt (by omega), decide_eq_true (by omega)]
    refine ⟨fun _ => kM_in (lo := 0) (hi := 4) (by omega) (by omega) ⟨fun c => ?_, fun c => ?_⟩, fun z => (by cases z)⟩
    · have c := of_decide_eq_true c
      have ew := nI_rng (x := w) (by omega)
      have hw : w.toInt.toNat < 5 := by omega
      generalize w.toInt.toNat = k at ew hw
      subst ew
      clear h1
      unfold secR at hp
      have : k = 0 ∨ k = 1 ∨ k = 2 ∨ k = 3 ∨ k = 4 := by omega
      rcases this with rfl | rfl | rfl | rfl | rfl
      · rw [if_pos (by decide)] at hp
        refine ⟨fun z => absurd z (by decide), fun _ => ⟨fun _ => ⟨in20 hs, ?_⟩, fun y => absurd rfl y⟩⟩
        rw [cl20 hs, RM.wear s hs]; exact hp
      · rw [if_neg (by decide), if_pos (by decide)] at hp
        exact ⟨fun z => absurd z (by decide), fun _ => ⟨fun z => absurd z (by decide), fun _ => kM_state RM I.1.1 hs hp⟩⟩
      · rw [if_neg (by decide), if_neg (by decide), if_pos (by decide)] at hp
        refine ⟨fun _ => ⟨fun _ => kM_isSpare RM I.1.1 hs ⟨fun z => ?_, fun z => ?_⟩, fun y => absurd rfl y⟩, fun y => absurd (by decide) y⟩
        · rw [if_neg (by unfold isAd; rw [z]; simp)] at hp; exact hp
        · rw [if_pos (isAd_of hs z)] at hp; exact hp
      · rw [if_neg (by decide), if_neg (by decide), if_neg (by decide), if_pos (by decide)] at hp
        exact ⟨fun _ => ⟨fun z => absurd z (by decide), fun _ => ⟨fun _ => kM_serves RM I.1.1 hs hp, fun y => absurd rfl y⟩⟩, fun y => absurd (by decide) y⟩
      · rw [if_neg (by decide), if_neg (by decide), if_neg (by decide), if_neg (by decide), if_pos (by decide)] at hp
        refine ⟨fun _ => ⟨fun z => absurd z (by decide), fun _ => ⟨fun z => absurd z (by decide), fun _ => kM_isFree RM I.1.1 hs ⟨fun z => ?_, fun z => ?_⟩⟩⟩, fun y => absurd (by decide) y⟩
        · rw [if_pos z] at hp; exact hp
        · rw [if_neg (by rw [z]; simp)] at hp; exact hp
    · have c := of_decide_eq_false c
      unfold secR at hp
      rw [if_neg (in_out c (by decide)), if_neg (in_out c (by decide)), if_neg (in_out c (by decide)), if_neg (in_out c (by decide)), if_neg (in_out c (by decide))] at hp
      exact hp
  · refine kM_in (lo := 0) (hi := 63) (by omega) (by omega) ?_
    have w' : ¬ (((0 : Nat) : Int) ≤ x.toInt ∧ x.toInt ≤ ((63 : Nat) : Int)) := by
      rcases q with q | q
      · rw [i32_0] at q; omega
      · rw [Int32.le_iff_toInt_le, nI_toInt (by omega)] at q; omega
    rw [decide_eq_false w']
    exact ⟨fun z => (by cases z), fun _ => h2 (by omega)⟩
theorem kM_across (RM : RelM D (mo_now μ)) (B : Bw D) {h : Nat} (hh : h < 4) {w : Int32} {P : Nat → Bool} (hP : (w = 0 ∧ P = ac0 D h) ∨ (w = 1 ∧ P = ac1 D h)) {post : Int32 → Prop} (hp : post (nI (cnt P 64 0))) : wpX4_across μ (nI h) w post := by
  have L : ∀ (m p c : Nat), p + m = 64 → post (nI (c + cnt P m p)) → wpX4_across_L5 μ (nI h) w post (m + 1) (nI c) (nI p) := by
    intro m
    induction m with
    | zero =>
      intro p c e hp
      rw [wpX4_across_L5]
      exact pk_le 64 p (fun _ => hp) (fun q => absurd q (by omega))
    | succ m ih =>
      intro p c e hp
      rw [wpX4_across_L5]
      refine pk_le 64 p (fun q => absurd q (by omega)) (fun _ => ?_)
      have hl : p < 64 := by omega
      unfold cnt at hp
      have no : P p = false → wpX4_across_J99 (nI c) (nI p) post (wpX4_across_L5 μ (nI h) w post (m + 1)) := fun z => by
        unfold wpX4_across_J99 wpX4_across_J100
        rw [if_neg (by rw [z]; simp), Nat.zero_add] at hp
        rw [bi_f, Int32.add_zero, nI_1]
        exact ih (p + 1) c (by omega) hp
      have yes : P p = true → wpX4_across_J100 (nI c) (nI p) post (wpX4_across_L5 μ (nI h) w post (m + 1)) true := fun z => by
        unfold wpX4_across_J100
        rw [if_pos z] at hp
        rw [bi_t, nI_1, nI_1]
        exact ih (p + 1) (c + 1) (by omega) (by rw [Nat.add_assoc]; exact hp)
      have skip : acP D p = false → wpX4_across_J56 μ (nI h) w (nI c) (nI p) post (wpX4_across_L5 μ (nI h) w post (m + 1)) := fun z => by
        unfold wpX4_across_J56 wpX4_across_J57
        refine ⟨fun y => (by cases y), fun _ => no ?_⟩
        rcases hP with ⟨-, e2⟩ | ⟨-, e2⟩
        · rw [e2]; unfold ac0; rw [z]; rfl
        · rw [e2]; unfold ac1; rw [z]; rfl
      refine kM_isAdN RM B (by omega) ⟨fun q => kM_lostN RM hl (fun z => ⟨fun _ => skip ?_, fun y => (by cases y)⟩) (fun z => ⟨fun y => (by cases y), fun _ => ⟨in148 hl, ?_⟩⟩), fun q => skip (by unfold acP; rw [q]; rfl)⟩
      · unfold acP; rw [decide_eq_false (by omega), Bool.and_false]
      · rw [cl148 hl, RM.bY p hl, wh_lt z, nI_pd (by omega), nI_pd (by omega)]
        refine pk_eq (d_bY D p / 16) (p / 16) (fun y => skip (by unfold acP; rw [decide_eq_false (by omega), Bool.and_false])) (fun y => ?_)
        have ea : acP D p = true := acP_iff.mpr ⟨q, z, y⟩
        unfold wpX4_across_J57
        refine ⟨fun _ => ?_, fun y => (by cases y)⟩
        rcases hP with ⟨e1, e2⟩ | ⟨e1, e2⟩
        · refine ⟨fun _ => ⟨in148 hl, ?_⟩, fun k => absurd e1 k⟩
          unfold wpX4_across_J91
          rw [cl148 hl, RM.bY p hl, wh_lt z, nI_pd (by omega)]
          refine pk_eq (d_bY D p / 16) h (fun k => yes ?_) (fun k => no ?_)
          · rw [e2]; unfold ac0; rw [ea, decide_eq_true k]; rfl
          · rw [e2]; unfold ac0; rw [decide_eq_false k, Bool.and_false]
        · refine ⟨fun k => absurd (e1.symm.trans k) (by decide), fun _ => ?_⟩
          unfold wpX4_across_J91
          rw [nI_pd (by omega)]
          refine pk_eq (p / 16) h (fun k => yes ?_) (fun k => no ?_)
          · rw [e2]; unfold ac1; rw [ea, decide_eq_true k]; rfl
          · rw [e2]; unfold ac1; rw [decide_eq_false k, Bool.and_false]
  unfold wpX4_across
  exact ⟨65, L 64 0 0 rfl (by rw [Nat.zero_add]; exact hp)⟩
theorem kM_inState (RM : RelM D (mo_now μ)) (B : Bw D) {h g : Nat} (hh : h < 4) (hg : g < 3) {post : Int32 → Prop} (hp : post (nI (gradH D h g))) : wpX4_inState μ (nI h) (nI g) post := by
  have L : ∀ (m p c : Nat), p + m = 16 → post (nI (c + cnt (fun s => decide (gradeN D s = g)) m (16 * h + p))) → wpX4_inState_L5 μ (nI h) (nI g) post (m + 1) (nI c) (nI p) := by
    intro m
    induction m with
    | zero =>
      intro p c e hp
      rw [wpX4_inState_L5]
      exact pk_le 16 p (fun _ => hp) (fun q => absurd q (by omega))
    | succ m ih =>
      intro p c e hp
      rw [wpX4_inState_L5]
      refine pk_le 16 p (fun q => absurd q (by omega)) (fun _ => ?_)
      rw [nI_ph]
      unfold cnt at hp
      have := gradeN_le D (16 * h + p)
      refine kM_state RM B (by omega) (pk_eq (gradeN D (16 * h + p)) g (fun q => ?_) (fun q => ?_)) <;> unfold wpX4_inState_J33
      · rw [bi_t, nI_1, nI_1]
        rw [if_pos (decide_eq_true q)] at hp
        exact ih (p + 1) (c + 1) (by omega) (by rw [show c + 1 + cnt (fun s => decide (gradeN D s = g)) m (16 * h + (p + 1)) = c + (1 + cnt (fun s => decide (gradeN D s = g)) m (16 * h + p + 1)) by rw [Nat.add_assoc]; rfl]; exact hp)
      · rw [bi_f, Int32.add_zero, nI_1]
        rw [if_neg (by rw [decide_eq_false q]; simp), Nat.zero_add] at hp
        exact ih (p + 1) c (by omega) hp
  unfold wpX4_inState
  exact ⟨17, L 16 0 0 rfl (by rw [Nat.zero_add]; exact hp)⟩
theorem kM_head (RM : RelM D (mo_now μ)) (I : Inv D) {h : Nat} (hh : h < 4) {w : Int32} {post : Int32 → Prop} (hp : post (headR D h w)) : wpX4_head μ (nI h) w post := by
  unfold wpX4_head
  refine kM_isHeadY hh ⟨fun _ => kM_in (lo := 0) (hi := 9) (by omega) (by omega) ⟨fun c => ?_, fun c => ?_⟩, fun z => (by cases z)⟩
  · have c := of_decide_eq_true c
    have ew := nI_rng (x := w) (by omega)
    have hw : w.toInt.toNat < 10 := by omega
    generalize w.toInt.toNat = k at ew hw
    subst ew
    unfold headR at hp
    have : k = 0 ∨ k = 1 ∨ k = 2 ∨ k = 3 ∨ k = 4 ∨ k = 5 ∨ k = 6 ∨ k = 7 ∨ k = 8 ∨ k = 9 := by omega
    rcases this with rfl | rfl | rfl | rfl | rfl | rfl | rfl | rfl | rfl | rfl
    · rw [if_pos (by decide)] at hp
      refine ⟨fun z => absurd z (by decide), fun _ => ⟨fun _ => ?_, fun y => absurd rfl y⟩⟩
      unfold wpX4_head_J42
      rw [cl8 hh, RM.age h hh]; exact ⟨in8 hh, hp⟩
    · rw [if_neg (by decide), if_pos (by decide)] at hp
      refine ⟨fun z => absurd z (by decide), fun _ => ⟨fun z => absurd z (by decide), fun _ => ?_⟩⟩
      unfold wpX4_head_J42
      rw [cl12 hh, RM.sp h hh]; exact ⟨in12 hh, hp⟩
    · rw [if_neg (by decide), if_neg (by decide), if_pos (by decide)] at hp
      exact ⟨fun _ => ⟨fun z => absurd z (by decide), fun _ => ⟨fun _ => kM_frees RM I.1.1 hh hp, fun y => absurd rfl y⟩⟩, fun y => absurd (by decide) y⟩
    · rw [if_neg (by decide), if_neg (by decide), if_neg (by decide), if_pos (by decide)] at hp
      refine ⟨fun _ => ⟨fun z => absurd z (by decide), fun _ => ⟨fun z => absurd z (by decide), fun _ => ⟨in16 hh, ?_⟩⟩⟩, fun y => absurd (by decide) y⟩
      rw [cl16 hh, RM.giv h hh]; exact hp
    · rw [if_neg (by decide), if_neg (by decide), if_neg (by decide), if_neg (by decide), if_pos (by decide)] at hp
      rw [← ac0_cnt I.1.1 hh] at hp
      exact ⟨fun _ => ⟨fun _ => ⟨fun z => absurd z (by decide), fun _ => kM_across RM I.1.1 hh (Or.inl ⟨by decide, rfl⟩) hp⟩, fun y => absurd (by decide) y⟩, fun y => absurd (by decide) y⟩
    · rw [if_neg (by decide), if_neg (by decide), if_neg (by decide), if_neg (by decide), if_neg (by decide), if_pos (by decide)] at hp
      rw [← ac1_cnt hh] at hp
      exact ⟨fun _ => ⟨fun _ => ⟨fun z => absurd z (by decide), fun _ => kM_across RM I.1.1 hh (Or.inr ⟨by decide, rfl⟩) hp⟩, fun y => absurd (by decide) y⟩, fun y => absurd (by decide) y⟩
    · rw [if_neg (by decide), if_neg (by decide), if_neg (by decide), if_neg (by decide), if_neg (by decide), if_neg (by decide), if_pos (by decide)] at hp
      exact ⟨fun _ => ⟨fun _ => ⟨fun _ => ⟨fun _ => kM_lost RM I.1.1 hh hp, fun y => absurd rfl y⟩, fun y => absurd (by decide) y⟩, fun y => absurd (by decide) y⟩, fun y => absurd (by decide) y⟩
    · rw [if_neg (by decide), if_neg (by decide), if_neg (by decide), if_neg (by decide), if_neg (by decide), if_neg (by decide), if_neg (by decide), if_pos (by decide)] at hp
      exact ⟨fun _ => ⟨fun _ => ⟨fun _ => ⟨fun z => absurd z (by decide), fun _ => ⟨fun _ => kM_wear RM hh hp, fun y => absurd rfl y⟩⟩, fun y => absurd (by decide) y⟩, fun y => absurd (by decide) y⟩, fun y => absurd (by decide) y⟩
    · rw [if_neg (by decide), if_neg (by decide), if_neg (by decide), if_neg (by decide), if_neg (by decide), if_neg (by decide), if_neg (by decide), if_neg (by decide), if_pos (by decide)] at hp
      have e1 : nI 8 - 7 = nI 1 := by decide
      rw [e1]
      exact ⟨fun _ => ⟨fun _ => ⟨fun _ => ⟨fun z => absurd z (by decide), fun _ => ⟨fun z => absurd z (by decide), fun _ => kM_inState (g := 1) RM I.1.1 hh (by decide) hp⟩⟩, fun y => absurd (by decide) y⟩, fun y => absurd (by decide) y⟩, fun y => absurd (by decide) y⟩
    · rw [if_neg (by decide), if_neg (by decide), if_neg (by decide), if_neg (by decide), if_neg (by decide), if_neg (by decide), if_neg (by decide), if_neg (by decide), if_neg (by decide), if_pos (by decide)] at hp
      have e1 : nI 9 - 7 = nI 2 := by decide
      rw [e1]
      exact ⟨fun _ => ⟨fun _ => ⟨fun _ => ⟨fun z => absurd z (by decide), fun _ => ⟨fun z => absurd z (by decide), fun _ => kM_inState (g := 2) RM I.1.1 hh (by decide) hp⟩⟩, fun y => absurd (by decide) y⟩, fun y => absurd (by decide) y⟩, fun y => absurd (by decide) y⟩
  · have c := of_decide_eq_false c
    unfold headR at hp
    rw [if_neg (in_out c (by decide)), if_neg (in_out c (by decide)), if_neg (in_out c (by decide)), if_neg (in_out c (by decide)), if_neg (in_out c (by decide)), if_neg (in_out c (by decide)), if_neg (in_out c (by decide)), if_neg (in_out c (by decide)), if_neg (in_out c (by decide)), if_neg (in_out c (by decide))] at hp
    exact hp
end MT
theorem sim_address : ok_address Sim := by
  intro χ μ i hi S x w
  obtain ⟨D, n, H, P⟩ := S.pre
  unfold wpX3_address
  refine kC_isAddress P.1 P.2.2.1.1.1.1 ⟨fun q => ?_, fun q => ?_⟩
  · have ex := adr_ad q
    have z : wpX4_address μ x w (fun r' => addrR D (adr x) w = r' ∧ Sim χ μ (i + 1)) := kM_address P.2.1 P.2.2.1.1 (fun _ => ⟨rfl, S.up⟩) (fun y => by rw [q] at y; cases y)
    generalize adr x = a at q ex z
    subst ex
    exact kC_tellAddress P.1 P.2.2.1.1.1.1 q z
  · exact kM_address P.2.1 P.2.2.1.1 (fun y => by rw [q] at y; cases y) (fun _ => ⟨rfl, S.up⟩)
theorem sim_sector : ok_sector Sim := by
  intro χ μ i hi S x w
  obtain ⟨D, n, H, P⟩ := S.pre
  unfold wpX3_sector
  refine kS_isSector ⟨fun q => ?_, fun q => ?_⟩
  · have q := of_decide_eq_true q
    have z : wpX4_sector μ x w (fun r' => secR D (adr x) w = r' ∧ Sim χ μ (i + 1)) := kM_sector P.2.1 P.2.2.1.1 (fun _ => ⟨rfl, S.up⟩) (fun y => absurd q y)
    rcases adr_cases x with ⟨s, hs, rfl, e⟩ | ⟨e, -⟩
    · rw [e] at z
      exact kC_tellSector P.1 P.2.2.1.1.1.1 hs z
    · omega
  · have q := of_decide_eq_false q
    exact kM_sector P.2.1 P.2.2.1.1 (fun y => absurd y q) (fun _ => ⟨rfl, S.up⟩)
theorem sim_head : ok_head Sim := by
  intro χ μ i hi S x w
  obtain ⟨D, n, H, P⟩ := S.pre
  unfold wpX3_head
  refine kS_isHead (fun k hk e => ⟨fun _ => ?_, fun z => (by cases z)⟩) (fun q => ⟨fun z => (by cases z), fun _ => ?_⟩)
  · subst e
    exact kC_tellHead P.1 P.2.2.1.1.1.1 hk (kM_head P.2.1 P.2.2.1.1 hk ⟨rfl, S.up⟩)
  · unfold wpX4_head
    exact kM_isHeadN q ⟨fun z => (by cases z), fun _ => ⟨rfl, S.up⟩⟩
