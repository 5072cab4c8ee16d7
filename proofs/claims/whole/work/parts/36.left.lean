/-! how many reads are left -/
def rl (T ag : Nat) : Nat → Nat → Nat → Nat
  | 0, _, n => n
  | m + 1, w, n => if w + ag < T then rl T ag m (w + ag) (n + 1) else n
def rT (D : DS) (a : Nat) : Nat := if lendD D a = none then 2 * d_lim D else d_lim D
def rE (E : DS) (a : Nat) : DS := d_setReads (wearD (goD E a) (d_bY E a) 1) (d_reads E + 1)
theorem fr_rE {E : DS} (I : Inv E) {a : Nat} (ha : isAd (d_sp E) a = true) (hb : d_bY E a < 64) : fr (rE E a) = fr E := by
  funext s
  by_cases c : s = d_bY E a
  · have h1 : fr E s = false := by
      cases g : fr E s with
      | false => rfl
      | true =>
        have z := cli_none (fr_iff.mp g).2.1 ha
        exact absurd c.symm z
    have h2 : fr (rE E a) s = false := by
      cases g : fr (rE E a) s with
      | false => rfl
      | true =>
        have z := (fr_iff.mp g).2.1
        unfold rE at z
        simp only [a_setReads, a_wear, a_go] at z
        exact absurd c.symm (cli_none z ha)
    rw [h1, h2]
  · unfold fr rE freeS
    simp only [a_setReads, a_wear, a_go]
    rw [up_ne _ _ c]
theorem lend_fr {D E : DS} (h : fr D = fr E) (a : Nat) : lendD D a = lendD E a := by
  have h1 : ∀ k, ffH D k = ffH E k := fun k => by unfold ffH; rw [h]
  have h2 : nFr D = nFr E := funext fun k => by unfold nFr; rw [h]
  unfold lendD
  rw [h1, h2, h1]
theorem rE_T {E : DS} (I : Inv E) {a : Nat} (ha : isAd (d_sp E) a = true) (hb : d_bY E a < 64) : rT (rE E a) a = rT E a := by
  unfold rT
  rw [lend_fr (fr_rE I ha hb) a]
  have e : d_lim (rE E a) = d_lim E := by unfold rE; simp only [a_setReads, a_wear, a_go]
  rw [e]
theorem read_rE {E : DS} {a : Nat} (ha : isAd (d_sp E) a = true) (hb : d_bY E a < 64) : (readR E a).2 = lookD (rE E a) a := by
  unfold readR
  rw [if_pos ha, if_pos hb]
  rfl
theorem rE_f (E : DS) (a : Nat) : d_lim (rE E a) = d_lim E ∧ d_age (rE E a) = d_age E ∧ d_sp (rE E a) = d_sp E ∧ d_bY (rE E a) = d_bY E ∧ d_wear (rE E a) (d_bY E a) = d_wear E (d_bY E a) + d_age E (d_bY E a / 16) := by
  unfold rE
  simp only [a_setReads, a_wear, a_go]
  refine ⟨trivial, trivial, trivial, trivial, ?_⟩
  rw [up_eq, Nat.one_mul]
theorem rE_keep {E : DS} (I : Inv E) {a : Nat} (ha : isAd (d_sp E) a = true) (hb : d_bY E a < 64) (h : d_wear E (d_bY E a) + d_age E (d_bY E a / 16) < rT E a) : (readR E a).2 = rE E a := by
  obtain ⟨f1, f2, f3, f4, f5⟩ := rE_f E a
  rw [read_rE ha hb]
  rw [← rE_T I ha hb] at h
  unfold rT at h
  unfold lookD
  rw [f4, f5, f1]
  rw [f1] at h
  by_cases c : d_wear E (d_bY E a) + d_age E (d_bY E a / 16) < d_lim E
  · rw [if_pos c]
  · rw [if_neg c]
    cases e : lendD (rE E a) a with
    | some x => rw [e] at h; rw [if_neg (by simp)] at h; exact absurd h c
    | none =>
      rw [e, if_pos rfl] at h
      show (if 2 * d_lim E ≤ d_wear E (d_bY E a) + d_age E (d_bY E a / 16) then loseD (rE E a) a else rE E a) = rE E a
      rw [if_neg (by omega)]
theorem rE_change {E : DS} (I : Inv E) {a : Nat} (ha : isAd (d_sp E) a = true) (hb : d_bY E a < 64) (h : ¬ d_wear E (d_bY E a) + d_age E (d_bY E a / 16) < rT E a) : d_bY (readR E a).2 a ≠ d_bY E a := by
  obtain ⟨f1, f2, f3, f4, f5⟩ := rE_f E a
  have hlim := I.1.lim
  rw [read_rE ha hb]
  rw [← rE_T I ha hb] at h
  unfold rT at h
  unfold lookD
  rw [f4, f5, f1]
  rw [f1] at h
  have c : ¬ d_wear E (d_bY E a) + d_age E (d_bY E a / 16) < d_lim E := by
    split at h <;> omega
  rw [if_neg c]
  cases e : lendD (rE E a) a with
  | some x =>
    show d_bY (rescD (rE E a) a x) a ≠ d_bY E a
    simp only [a_resc]
    rw [up_eq]
    obtain ⟨-, g2, -, -, -⟩ := lend_free (isAd_lt ha) e
    have z := g2 a (by rw [f3]; exact ha)
    rw [f4] at z
    exact fun q => z q.symm
  | none =>
    rw [e, if_pos rfl] at h
    show d_bY (if 2 * d_lim E ≤ d_wear E (d_bY E a) + d_age E (d_bY E a / 16) then loseD (rE E a) a else rE E a) a ≠ d_bY E a
    rw [if_pos (by omega)]
    simp only [a_lose]
    rw [up_eq]
    omega
def leftR (D : DS) (a : Nat) : Int32 := if isAd (d_sp D) a = true then (if d_bY D a < 64 then nI (rl (rT D a) (d_age D (d_bY D a / 16)) 2000 (d_wear D (d_bY D a)) 1) else -4) else -1
theorem rT_le {D : DS} (B : Bd D) (a : Nat) : rT D a ≤ 1998 := by
  have := B.lim
  unfold rT; split <;> omega
section RD
variable {D : DS} {σ : HS} {μ : MO}
theorem kC_left (R : RelC D σ) (I : Inv D) {x : Int32} {post : Int32 → Prop} (hp : post (leftR D (adr x))) : wpX1_readsUntilChange σ x post := by
  unfold wpX1_readsUntilChange
  unfold leftR at hp
  refine kC_isAddress R I.1.1 ⟨fun q => ?_, fun q => ?_⟩
  · rw [if_pos q] at hp
    have ex := adr_ad q
    generalize adr x = a at q hp ex
    subst ex
    have hl := isAd_lt q
    refine kC_lostN R q (fun z => ⟨fun _ => ?_, fun w => (by cases w)⟩) (fun z => ⟨fun w => (by cases w), fun _ => ⟨pk_in a 64 hl, ?_⟩⟩)
    · rw [if_neg (by omega)] at hp; exact hp
    · rw [if_pos z] at hp
      have hT := rT_le I.1 a
      have hg := age_le I.1 z
      have hw0 := I.1.wear _ z
      have J : wpX1_readsUntilChange_J51 σ (nI a) post (nI (rT D a)) := by
        have L : ∀ (m n w : Nat), n + m = 2001 → n ≤ w + 1 → (n = 1 ∨ w < rT D a) → w ≤ 2015 → post (nI (rl (rT D a) (d_age D (d_bY D a / 16)) m w n)) → wpX1_readsUntilChange_L63 σ (nI a) (nI (rT D a)) post (m + 1) (nI w) (nI n) := by
          intro m
          induction m with
          | zero => intro n w e h1 h2 h3 hp; omega
          | succ m ih =>
            intro n w e h1 h2 h3 hp
            rw [wpX1_readsUntilChange_L63]
            refine pk_lt 2000 n (fun y => absurd y (by omega)) (fun _ => ?_)
            rw [kC_srv R q z]
            refine kS_headOf (by omega) ⟨pk_in (d_bY D a / 16) 4 (by omega), ?_⟩
            rw [nI_clamp (by omega), R.age _ (by omega), nI_add]
            unfold rl at hp
            refine pk_lt (w + d_age D (d_bY D a / 16)) (rT D a) (fun y => ?_) (fun y => ?_)
            · rw [if_pos y] at hp
              rw [nI_1]
              exact ih (n + 1) _ (by omega) (by omega) (Or.inr y) (by omega) hp
            · rw [if_neg (by omega)] at hp; exact hp
        unfold wpX1_readsUntilChange_J51
        rw [kC_srv R q z]
        refine ⟨pk_in (d_bY D a) 64 z, 2001, ?_⟩
        rw [nI_clamp (by omega), R.wear _ z]
        exact L 2000 1 _ rfl (by omega) (Or.inl rfl) hw0 hp
      rw [R.lim]
      refine kC_lendableTo R I.1.1 hl ?_
      unfold rT at J
      cases e : lendD D a with
      | none =>
        rw [e, if_pos rfl, ← nI_2m] at J
        exact ⟨fun _ => J, fun y => absurd rfl y⟩
      | some b =>
        obtain ⟨g1, -⟩ := lend_free hl e
        rw [e, if_neg (by simp)] at J
        exact ⟨fun y => absurd y (co_ne (by omega)), fun _ => J⟩
  · rw [if_neg (by rw [q]; simp)] at hp; exact hp
theorem kM_left (RM : RelM D (mo_now μ)) (I : Inv D) {x : Int32} {post : Int32 → MO → Prop} (h0 : leftR D (adr x) < 0 → post (leftR D (adr x)) μ) (hp : ∀ gs g', RelM D g' → post (leftR D (adr x)) (mo_setNow (mo_setSpare μ gs) g')) : wpX4_readsLeft μ x post := by
  unfold wpX4_readsLeft
  unfold leftR at hp h0
  refine kM_isAddress RM I.1.1 ⟨fun q => ?_, fun q => ?_⟩
  · rw [if_pos q] at hp h0
    have ex := adr_ad q
    generalize adr x = a at q hp ex h0
    subst ex
    have hl := isAd_lt q
    refine ⟨in148 hl, ?_⟩
    have eb : mo_now μ ((148 : Int32) + nI a).toNatClampNeg = wh (d_bY D a) := by rw [cl148 hl, RM.bY a hl]
    rw [eb]
    refine ⟨fun z => ?_, fun z => ?_⟩
    · have z := wh_pos.mp z
      rw [if_pos z] at hp
      clear h0
      have hT := rT_le I.1 a
      have hg := age_le I.1 z
      have hw0 := I.1.wear _ z
      refine kM_copyD RM (fun gs Rs => ⟨2001, ?_⟩)
      have out : ∀ (n : Nat) (g : Nat → Int32) (E : DS), RelM E g → d_bY E a ≠ d_bY D a → n ≤ 2000 → (∀ g', RelM D g' → post (nI n) (mo_setNow (mo_setSpare μ gs) g')) → wpX4_readsLeft_J75 μ (nI a) (nI n) (mo_setNow (mo_setSpare μ gs) g) post := by
        intro n g E RE hne hn hq
        unfold wpX4_readsLeft_J75
        refine ⟨in148 hl, ?_⟩
        rw [eb, cl148 hl, now_set, RE.bY a hl, wh_lt z]
        refine ⟨fun k => absurd (wh_inj z k) hne, fun _ => ?_⟩
        unfold wpX4_readsLeft_J94
        exact kM_copyD (D := D) Rs (fun g' R' => ⟨fun _ => hq g' R', fun k => (by cases k)⟩)
      have L : ∀ (m n w : Nat) (E : DS) (g : Nat → Int32), n + m = 2000 → n ≤ w → (n = 0 ∨ w < rT D a) → RelM E g → Inv E → isAd (d_sp E) a = true → d_bY E a = d_bY D a → d_wear E (d_bY D a) = w → d_age E (d_bY D a / 16) = d_age D (d_bY D a / 16) → rT E a = rT D a → (∀ g', RelM D g' → post (nI (rl (rT D a) (d_age D (d_bY D a / 16)) m w (n + 1))) (mo_setNow (mo_setSpare μ gs) g')) → wpX4_readsLeft_L41 μ (nI a) post (m + 1) (nI n) (mo_setNow (mo_setSpare μ gs) g) := by
        intro m
        induction m with
        | zero => intro n w E g e h1 h2; omega
        | succ m ih =>
          intro n w E g e h1 h2 RE IE k1 k2 k3 k4 k5 hq
          rw [wpX4_readsLeft_L41]
          refine pk_le 2000 n (fun y => absurd y (by omega)) (fun _ => ⟨in148 hl, ?_⟩)
          rw [eb, cl148 hl, now_set, RE.bY a hl, k2]
          refine ⟨fun _ => ?_, fun y => absurd rfl y⟩
          have zE : d_bY E a < 64 := by rw [k2]; exact z
          refine kM_reads (D := E) (μ := mo_setNow (mo_setSpare μ gs) g) RE IE (fun g2 R2 => ?_)
          rw [rR_adr E (by omega)] at R2
          rw [set_set, nI_1]
          have IR := IE.rR a
          unfold rl at hq
          by_cases y : w + d_age D (d_bY D a / 16) < rT D a
          · have ek := rE_keep IE k1 zE (by rw [k2, k3, k4, k5]; exact y)
            rw [ek] at R2 IR
            obtain ⟨f1, f2, f3, f4, f5⟩ := rE_f E a
            rw [if_pos y] at hq
            refine ih (n + 1) (w + d_age D (d_bY D a / 16)) (rE E a) g2 (by omega) (by omega) (Or.inr y) R2 IR (by rw [f3]; exact k1) (by rw [f4]; exact k2) ?_ (by rw [f2]; exact k4) ((rE_T IE k1 zE).trans k5) hq
            rw [k2] at f5
            rw [f5, k3, k4]
          · have ec := rE_change IE k1 zE (by rw [k2, k3, k4, k5]; exact y)
            rw [k2] at ec
            rw [if_neg y] at hq
            have O := out (n + 1) g2 _ R2 ec (by omega) hq
            rw [wpX4_readsLeft_L41]
            refine ⟨fun _ => O, fun _ => ⟨in148 hl, ?_⟩⟩
            rw [eb, cl148 hl, now_set, R2.bY a hl, wh_lt z]
            exact ⟨fun k => absurd (wh_inj z k) ec, fun _ => O⟩
      exact L 2000 0 _ D (mo_now μ) rfl (by omega) (Or.inl rfl) RM I q rfl rfl rfl rfl (fun g' R' => hp gs g' R')
    · have z : ¬ d_bY D a < 64 := fun k => z (wh_pos.mpr k)
      rw [if_neg z] at h0
      exact h0 (by decide)
  · rw [if_neg (by rw [q]; simp)] at h0
    exact h0 (by decide)
end RD
theorem sim_readsLeft : ok_readsLeft Sim := by
  intro χ μ i hi S x
  obtain ⟨D, n, H, P⟩ := S.pre
  unfold wpX3_readsLeft
  refine kC_left P.1 P.2.2.1.1 (kM_left P.2.1 P.2.2.1.1 (fun _ => ⟨rfl, S.up⟩) (fun gs g' R' => ⟨rfl, ?_⟩))
  exact ⟨⟨D, P.1, R', P.2.2.1.up⟩, S.2.1.up, S.2.2.1.up, S.2.2.2⟩
