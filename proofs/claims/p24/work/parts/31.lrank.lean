/-! ranks -/
theorem cnt_mono {P Q : Nat → Bool} : ∀ {m p : Nat}, (∀ y, p ≤ y → y < p + m → P y = true → Q y = true) → cnt P m p ≤ cnt Q m p := by
  intro m
  induction m with
  | zero => intro p _; exact Nat.le_refl _
  | succ m ih =>
    intro p h
    unfold cnt
    have h1 := ih (p := p + 1) (fun y g1 g2 => h y (by omega) (by omega))
    have h2 := h p (Nat.le_refl _) (by omega)
    by_cases c : P p = true
    · rw [if_pos c, if_pos (h2 c)]; omega
    · rw [if_neg c]; omega
/-- one more -/
theorem cnt_more {P Q : Nat → Bool} {k m p : Nat} (h1 : p ≤ k) (h2 : k < p + m) (hk : P k = false) (hq : Q k = true) (h : ∀ y, p ≤ y → y < p + m → P y = true → Q y = true) : cnt P m p + 1 ≤ cnt Q m p := by
  have e : cnt (fun y => P y || decide (k = y)) m p = cnt P m p + cnt (fun y => decide (k = y)) m p := cnt_or (fun y a b => by
    have b := of_decide_eq_true b
    rw [← b, hk] at a; cases a)
  rw [cnt_one h1 h2] at e
  rw [← e]
  refine cnt_mono (fun y g1 g2 z => ?_)
  rw [Bool.or_eq_true] at z
  rcases z with z | z
  · exact h y g1 g2 z
  · rw [← of_decide_eq_true z]; exact hq
theorem above_iff {D : DS} {a b : Nat} : above D a b = true ↔ hasRk D b = true ∧ (d_wear D (d_bY D a) < d_wear D (d_bY D b) ∨ (d_wear D (d_bY D b) = d_wear D (d_bY D a) ∧ b < a)) := by
  unfold above
  rw [Bool.and_eq_true, Bool.or_eq_true, Bool.and_eq_true, decide_eq_true_eq, decide_eq_true_eq, decide_eq_true_eq]
theorem above_self (D : DS) (a : Nat) : above D a a = false := by
  cases e : above D a a with
  | false => rfl
  | true => have := (above_iff.mp e).2; omega
theorem above_lt {D : DS} {a b : Nat} (h : above D a b = true) : rankN D b < rankN D a := by
  have hb := (hasRk_iff.mp (above_iff.mp h).1).1
  have h2 := (above_iff.mp h).2
  have z : rankN D b + 1 ≤ rankN D a := by
    unfold rankN
    refine cnt_more (k := b) (Nat.zero_le _) (by have := isAd_lt hb; omega) (above_self D b) h (fun y _ _ q => ?_)
    obtain ⟨q1, q2⟩ := above_iff.mp q
    exact above_iff.mpr ⟨q1, by omega⟩
  omega
theorem rank_lt {D : DS} {a : Nat} (h : hasRk D a = true) : rankN D a < cnt (hasRk D) 64 0 := by
  have hb := (hasRk_iff.mp h).1
  have z : rankN D a + 1 ≤ cnt (hasRk D) 64 0 := by
    unfold rankN
    exact cnt_more (k := a) (Nat.zero_le _) (by have := isAd_lt hb; omega) (above_self D a) h (fun y _ _ q => (above_iff.mp q).1)
  omega
theorem rank_tot {D : DS} {a b : Nat} (ha : hasRk D a = true) (hb : hasRk D b = true) (h : a ≠ b) : above D a b = true ∨ above D b a = true := by
  by_cases c : d_wear D (d_bY D a) < d_wear D (d_bY D b) ∨ (d_wear D (d_bY D b) = d_wear D (d_bY D a) ∧ b < a)
  · exact Or.inl (above_iff.mpr ⟨hb, c⟩)
  · exact Or.inr (above_iff.mpr ⟨ha, by omega⟩)
theorem rank_inj {D : DS} {a b : Nat} (ha : hasRk D a = true) (hb : hasRk D b = true) (h : rankN D a = rankN D b) : a = b := by
  by_cases c : a = b
  · exact c
  · rcases rank_tot ha hb c with q | q
    · have := above_lt q; omega
    · have := above_lt q; omega
theorem rank_all {D : DS} {k : Nat} (hk : k < cnt (hasRk D) 64 0) : ∃ a, hasRk D a = true ∧ rankN D a = k := by
  have hN : cnt (hasRk D) 64 0 ≤ 64 := cnt_le
  cases e : fnd (fun v => hasRk D v && decide (rankN D v = k)) 64 0 with
  | some a =>
    obtain ⟨-, -, h, -⟩ := fnd_some e
    simp only [Bool.and_eq_true, decide_eq_true_eq] at h
    exact ⟨a, h.1, h.2⟩
  | none =>
    have h1 := cnt_map (P := hasRk D) (f := rankN D) (fun v q => by have := rank_lt q; omega) (fun v w q1 q2 e => rank_inj q1 q2 e) (m := 64) (p := 0)
    have h2 : cnt (fun s => (fnd (fun v => hasRk D v && decide (rankN D v = s)) 64 0).isSome) 64 0 + 1 ≤ cnt (fun y => decide (y < 0 + cnt (hasRk D) 64 0)) 64 0 := by
      refine cnt_more (k := k) (Nat.zero_le _) (by omega) (by rw [e]; rfl) (decide_eq_true (by omega)) (fun y _ _ q => ?_)
      cases g : fnd (fun v => hasRk D v && decide (rankN D v = y)) 64 0 with
      | none => rw [g] at q; cases q
      | some a =>
        obtain ⟨-, -, h, -⟩ := fnd_some g
        simp only [Bool.and_eq_true, decide_eq_true_eq] at h
        have := rank_lt h.1
        exact decide_eq_true (by omega)
    rw [cnt_low] at h2
    omega
theorem rankA_some {D : DS} {k : Nat} (hk : k < 2 ^ 31) {a : Nat} (h : fnd (fun a => hasRk D a && decide (nI (rankN D a) = nI k)) 64 0 = some a) : hasRk D a = true ∧ rankN D a = k := by
  obtain ⟨-, -, q, -⟩ := fnd_some h
  simp only [Bool.and_eq_true, decide_eq_true_eq] at q
  have hr : rankN D a ≤ 64 := cnt_le
  exact ⟨q.1, nI_inj (by omega) hk q.2⟩
theorem rankA_none {D : DS} {k : Nat} (h : fnd (fun a => hasRk D a && decide (nI (rankN D a) = nI k)) 64 0 = none) : cnt (hasRk D) 64 0 ≤ k := by
  by_cases c : k < cnt (hasRk D) 64 0
  · obtain ⟨a, h1, h2⟩ := rank_all c
    have z := fnd_none h a (Nat.zero_le _) (by have := isAd_lt (hasRk_iff.mp h1).1; omega)
    simp [h1, h2] at z
  · omega
theorem cnt_split {D : DS} : cnt (isAd (d_sp D)) 64 0 = cnt (lostQ D) 64 0 + cnt (hasRk D) 64 0 := by
  rw [← cnt_or (A := lostQ D) (B := hasRk D) (fun y a b => ?_)]
  · refine cnt_cong (fun y _ _ => ?_)
    unfold lostQ hasRk
    cases isAd (d_sp D) y with
    | false => rfl
    | true =>
      by_cases c : d_bY D y < 64
      · rw [decide_eq_true c, decide_eq_false (by omega)]; rfl
      · rw [decide_eq_false c, decide_eq_true (by omega)]; rfl
  · unfold lostQ at a
    simp only [Bool.and_eq_true, decide_eq_true_eq] at a
    have := (hasRk_iff.mp b).2
    omega
section LW
variable {χ : XS} {D : DS} {n : Nat} {H : Nat → DS}
theorem kL_worst (S : SX χ D n H) {post : Bool → Prop} (hp : post true) : wpL_worst χ 3 post := by
  have B := S.2.1.1
  have fin : ∀ k, k < 64 → fnd (fun a => hasRk D a && decide (nI (rankN D a) = nI k)) 64 0 = none → wpX3_count χ 1 (fun r29 => wpX3_count χ 2 (fun r34 => ((nI k < (r29 - r34) → post false) ∧ (¬ nI k < (r29 - r34) → post true)))) := by
    intro k hk e
    have hN := rankA_none e
    have hA : cnt (isAd (d_sp D)) 64 0 ≤ 64 := cnt_le
    have hs := cnt_split (D := D)
    refine qCount S (by decide) (by decide) ?_
    rw [wholeR_1]
    refine qCount S (by decide) (by decide) ?_
    rw [wholeR_2, pk_sub (by omega)]
    exact pk_lt k (cnt (isAd (d_sp D)) 64 0 - cnt (lostQ D) 64 0) (fun z => absurd z (by omega)) (fun _ => hp)
  have L : ∀ (m k a w : Nat), k + m = 3 → (k = 0 ∧ w = 1000000 ∨ hasRk D a = true ∧ rankN D a + 1 = k ∧ w = d_wear D (d_bY D a)) → ∀ b : Int32, (k = 0 ∨ b = nI a) → wpL_worst_L8 χ 3 post (m + 1) (nI w) b (nI k) := by
    intro m
    induction m with
    | zero =>
      intro k a w e h b hb
      rw [wpL_worst_L8]
      exact pk_le 3 k (fun _ => hp) (fun z => absurd z (by omega))
    | succ m ih =>
      intro k a w e h b hb
      rw [wpL_worst_L8]
      refine pk_le 3 k (fun z => absurd z (by omega)) (fun _ => qWorst S (nI_pos' (by omega)) ?_)
      unfold rankA
      cases ef : fnd (fun a => hasRk D a && decide (nI (rankN D a) = nI k)) 64 0 with
      | none =>
        rw [show co none = -5 from rfl]
        exact ⟨fun z => absurd z (by decide), fun _ => fin k (by omega) ef⟩
      | some c =>
        obtain ⟨c1, c2⟩ := rankA_some (by omega) ef
        obtain ⟨q1, q2⟩ := hasRk_iff.mp c1
        have hcl := isAd_lt q1
        have hw := B.wear _ q2
        have hwl : w < 2 ^ 31 := by
          rcases h with ⟨-, h⟩ | ⟨h1, -, h⟩
          · omega
          · have := B.wear _ (hasRk_iff.mp h1).2; omega
        rw [show co (some c) = nI c from rfl]
        refine ⟨fun _ => qAdY S q1 ?_, fun z => absurd (nI_pos' (by omega)) z⟩
        rw [addrR_1, srv_ad q1 q2, show co (some (d_bY D c)) = nI (d_bY D c) from rfl]
        refine qSec S q2 ?_
        rw [secR_0]
        have J : wpL_worst_J83 (nI k) (nI c) (nI (d_wear D (d_bY D c))) post (wpL_worst_L8 χ 3 post (m + 1)) := by
          unfold wpL_worst_J83
          rw [nI_1]
          exact ih (k + 1) c _ (by omega) (Or.inr ⟨c1, by omega, rfl⟩) _ (Or.inr rfl)
        have ord : hasRk D a = true → rankN D a + 1 = k → ¬ (d_wear D (d_bY D a) < d_wear D (d_bY D c)) ∧ (d_wear D (d_bY D c) = d_wear D (d_bY D a) → a < c) := by
          intro h1 h2
          have no : ¬ above D a c = true := fun z => by have := above_lt z; omega
          refine ⟨fun z => no (above_iff.mpr ⟨c1, Or.inl z⟩), fun z => ?_⟩
          by_cases y : c = a
          · rw [y] at c2; omega
          · by_cases x : a < c
            · exact x
            · exact absurd (above_iff.mpr ⟨c1, Or.inr ⟨z, by omega⟩⟩) no
        refine pk_lt w (d_wear D (d_bY D c)) (fun z => ?_) (fun z => pk_eq (d_wear D (d_bY D c)) w (fun y => ?_) (fun _ => J))
        · rcases h with ⟨-, h⟩ | ⟨h1, h2, h⟩
          · omega
          · exact absurd (h ▸ z) (ord h1 h2).1
        · rcases h with ⟨-, h⟩ | ⟨h1, h2, h⟩
          · omega
          · have hac := (ord h1 h2).2 (y.trans h)
            rcases hb with hb | hb
            · omega
            · rw [hb]
              exact pk_lt a c (fun _ => J) (fun x => absurd x (by omega))
  unfold wpL_worst
  exact ⟨4, L 3 0 0 1000000 rfl (Or.inl ⟨rfl, rfl⟩) _ (Or.inl rfl)⟩
/-! what a state tells, as one number -/
def dg1 (D : DS) : Nat → Nat → Int64 → Int64
  | 0, _, v => v
  | m + 1, w, v => dg1 D m (w + 1) (31 * v + (wholeR D (nI w)).toInt64)
def adrR (D : DS) (k : Nat) (w : Int32) : Int32 := if isAd (d_sp D) k = true then addrR D k w else -1
def dg2 (D : DS) : Nat → Nat → Int64 → Int64
  | 0, _, v => v
  | m + 1, k, v => dg2 D m (k + 1) (31 * (31 * v + 7 * (secR D k 0).toInt64 + (secR D k 3).toInt64) + 49 * (adrR D k 0).toInt64 + 7 * (adrR D k 1).toInt64 + (adrR D k 5).toInt64)
def dg3 (D : DS) : Nat → Nat → Int64 → Int64
  | 0, _, v => v
  | m + 1, k, v => dg3 D m (k + 1) (31 * v + 49 * (headR D k 0).toInt64 + 7 * (headR D k 1).toInt64 + (headR D k 3).toInt64)
def dig (D : DS) : Int64 := dg3 D 4 0 (dg2 D 64 0 (dg1 D 12 0 89))
theorem qAdA (S : SX χ D n H) {k : Nat} (hk : k < 2 ^ 31) {w : Int32} {post : Int32 → Prop} (hp : post (adrR D k w)) : wpX3_address χ (nI k) w post := by
  unfold adrR at hp
  refine qAdr S hk (fun q => ?_) (fun q => ?_)
  · rw [if_pos q] at hp; exact hp
  · rw [if_neg (by rw [q]; decide)] at hp; exact hp
theorem kL_digest (S : SX χ D n H) {post : Int64 → Prop} (hp : post (dig D)) : wpL_digest χ post := by
  have L3 : ∀ (m k : Nat) (v : Int64), k + m = 4 → post (dg3 D m k v) → wpL_digest_L111 χ post (m + 1) v (nI k) := by
    intro m
    induction m with
    | zero =>
      intro k v e hp
      rw [wpL_digest_L111]
      exact pk_le 4 k (fun _ => hp) (fun z => absurd z (by omega))
    | succ m ih =>
      intro k v e hp
      rw [wpL_digest_L111]
      refine pk_le 4 k (fun z => absurd z (by omega)) (fun _ => qHead S (by omega) (qHead S (by omega) (qHead S (by omega) ?_)))
      rw [nI_1]
      exact ih (k + 1) _ (by omega) hp
  have L2 : ∀ (m k : Nat) (v : Int64), k + m = 64 → post (dg3 D 4 0 (dg2 D m k v)) → wpL_digest_L33 χ post (m + 1) v (nI k) := by
    intro m
    induction m with
    | zero =>
      intro k v e hp
      rw [wpL_digest_L33]
      exact pk_le 64 k (fun _ => ⟨5, L3 4 0 v rfl hp⟩) (fun z => absurd z (by omega))
    | succ m ih =>
      intro k v e hp
      rw [wpL_digest_L33]
      refine pk_le 64 k (fun z => absurd z (by omega)) (fun _ => qSec S (by omega) (qSec S (by omega) (qAdA S (by omega) (qAdA S (by omega) (qAdA S (by omega) ?_)))))
      rw [nI_1]
      exact ih (k + 1) _ (by omega) hp
  have L1 : ∀ (m k : Nat) (v : Int64), k + m = 12 → post (dg3 D 4 0 (dg2 D 64 0 (dg1 D m k v))) → wpL_digest_L6 χ post (m + 1) v (nI k) := by
    intro m
    induction m with
    | zero =>
      intro k v e hp
      rw [wpL_digest_L6]
      exact pk_le 12 k (fun _ => ⟨65, L2 64 0 v rfl hp⟩) (fun z => absurd z (by omega))
    | succ m ih =>
      intro k v e hp
      rw [wpL_digest_L6]
      refine pk_le 12 k (fun z => absurd z (by omega)) (fun _ => qCount S (fun z => ?_) (fun z => ?_) ?_)
      · have := nI_inj (b := 12) (by omega) (by omega) z; omega
      · have := nI_inj (b := 13) (by omega) (by omega) z; omega
      · rw [nI_1]
        exact ih (k + 1) _ (by omega) hp
  unfold wpL_digest
  exact ⟨13, L1 12 0 89 rfl hp⟩
end LW
