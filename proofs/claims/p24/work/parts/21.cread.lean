/-! the class: what only reads -/
def sm (f : Nat → Nat) : Nat → Nat → Nat
  | 0, _ => 0
  | m + 1, p => f p + sm f m (p + 1)
def gradeN (D : DS) (s : Nat) : Nat := if d_wear D s < d_lim D then 0 else if d_wear D s < 2 * d_lim D then 1 else 2
def apart (p s : Nat) : Nat := (if s % 16 ≤ p % 16 then p % 16 - s % 16 else s % 16 - p % 16) + (if p / 16 = s / 16 then 0 else 2)
theorem apart_le (p s : Nat) : apart p s ≤ 17 := by unfold apart; split <;> split <;> omega
def stepsD (D : DS) (a : Nat) : Nat := if d_bY D a = a ∨ d_giv D (a / 16) = true then apart (d_arm D) (d_bY D a) else apart (d_arm D) a + apart a (d_bY D a)
theorem co_ne {x : Nat} (h : x < 2 ^ 31) : ¬ co (some x) = -5 := nI_ne5 h
theorem nI_2m (a : Nat) : 2 * nI a = nI (2 * a) := pk_mul 2 a
theorem kS_isSector {x : Int32} {post : Bool → Prop} (h : post (decide (adr x < 64))) : wpX3_isSector x post := by
  unfold wpX3_isSector
  rcases adr_cases x with ⟨k, hk, rfl, e⟩ | ⟨e, q⟩
  · rw [e, decide_eq_true hk] at h
    refine ⟨fun q => absurd q (nI_lt0 (by omega)), fun _ => ?_⟩
    exact pk_le 64 k (fun q => absurd q (by omega)) (fun _ => h)
  · rw [e] at h
    have h : post false := h
    exact ⟨fun _ => h, fun z => ⟨fun _ => h, fun y => absurd (adr_out q z) y⟩⟩
theorem kS_headOf {k : Nat} (hk : k < 2 ^ 31) {post : Int32 → Prop} (h : post (nI (k / 16))) : wpX3_headOf (nI k) post := by
  unfold wpX3_headOf
  rw [nI_pd hk]
  exact h
theorem kS_placeOf {k : Nat} (hk : k < 2 ^ 31) {post : Int32 → Prop} (h : post (nI (k % 16))) : wpX3_placeOf (nI k) post := by
  unfold wpX3_placeOf
  rw [nI_pm hk]
  exact h
theorem kS_isHead {x : Int32} {post : Bool → Prop} (h : ∀ k, k < 4 → x = nI k → post true) (h2 : (x < 0 ∨ nI 4 ≤ x) → post false) : wpX3_isHead x post := by
  unfold wpX3_isHead
  refine ⟨fun q => h2 (Or.inl q), fun q => ⟨fun z => h2 (Or.inr z), fun z => ?_⟩⟩
  rcases pk_ix x (n := 4) (by omega) with w | w | ⟨k, hk, rfl⟩
  · exact absurd w q
  · exact absurd w z
  · exact h k hk rfl
theorem fb_subI0 {x : Int32} (h : -2147483648 < x.toInt) : (0 - x).toInt = - x.toInt := by
  have z : (0 : Int32).toInt = 0 := by decide
  have hr := Int32.toInt_lt x
  rw [Int32.toInt_sub, z]
  have e : ∀ y : Int, -2147483648 ≤ y → y < 2147483648 → y.bmod (2 ^ 32) = y := fun y h1 h2 => by
    rw [Int.bmod_eq_of_le] <;> omega
  rw [e] <;> omega
theorem abs_nI {a b : Nat} (ha : a < 64) (hb : b < 64) : (if 0 ≤ (nI a - nI b) then (nI a - nI b) else 0 - (nI a - nI b)) = nI (if b ≤ a then a - b else b - a) := by
  by_cases c : b ≤ a
  · rw [if_pos c, pk_sub c, if_pos (nI_pos' (by omega))]
  · have e : (nI a - nI b).toInt = (a : Int) - b := pk_sub_toInt (by omega) (by omega)
    have z : (0 : Int32).toInt = 0 := by decide
    rw [if_neg c, if_neg (by rw [Int32.le_iff_toInt_le, e, z]; omega)]
    apply Int32.toInt_inj.mp
    rw [nI_toInt (by omega), fb_subI0 (by rw [e]; omega), e]
    omega
theorem kS_stepsBetween {a b : Nat} (ha : a < 64) (hb : b < 64) {post : Int32 → Prop} (h : post (nI (apart a b))) : wpX3_stepsBetween (nI a) (nI b) post := by
  unfold wpX3_stepsBetween
  refine kS_placeOf (by omega) (kS_placeOf (by omega) (kS_headOf (by omega) (kS_headOf (by omega) ?_)))
  rw [abs_nI (by omega) (by omega)]
  unfold apart at h
  refine pk_eq (a / 16) (b / 16) (fun q => ?_) (fun q => ?_)
  · rw [if_pos q] at h; exact h
  · rw [if_neg q] at h
    have e : nI (if b % 16 ≤ a % 16 then a % 16 - b % 16 else b % 16 - a % 16) + 2 = nI ((if b % 16 ≤ a % 16 then a % 16 - b % 16 else b % 16 - a % 16) + 2) := nI_add _ 2
    rw [e]; exact h
section KC
variable {D : DS} {σ : HS}
theorem kC_isAddress (R : RelC D σ) (B : Bw D) {x : Int32} {post : Bool → Prop} (h : post (isAd (d_sp D) (adr x))) : wpX1_isAddress σ x post := by
  unfold wpX1_isAddress
  refine kS_isSector ?_
  rcases adr_cases x with ⟨k, hk, rfl, e⟩ | ⟨e, -⟩
  · rw [e] at h ⊢
    refine ⟨fun _ => ?_, fun q => absurd hk (by simpa using q)⟩
    refine kS_placeOf (by omega) (kS_headOf (by omega) ?_)
    have hs := B.sp (k / 16) (by omega)
    refine ⟨pk_in (k / 16) 4 (by omega), ?_⟩
    rw [nI_clamp (by omega), R.sp _ (by omega), show (16 : Int32) - nI (d_sp D (k / 16)) = nI (16 - d_sp D (k / 16)) from pk_sub (a := 16) (by omega)]
    refine pk_le (16 - d_sp D (k / 16)) (k % 16) (fun q => ?_) (fun q => ?_)
    · have z : isAd (d_sp D) k = false := by unfold isAd isSp; simp; omega
      rw [z] at h; exact h
    · have z : isAd (d_sp D) k = true := by unfold isAd isSp; simp; omega
      rw [z] at h; exact h
  · rw [e] at h ⊢
    refine ⟨fun q => absurd q (by decide), fun _ => ?_⟩
    rw [isAd_64 (Nat.le_refl _)] at h
    exact h
theorem kC_isAdN (R : RelC D σ) (B : Bw D) {k : Nat} (hk : k < 2 ^ 31) {post : Bool → Prop} (h : post (isAd (d_sp D) k)) : wpX1_isAddress σ (nI k) post := by
  refine kC_isAddress R B ?_
  rw [adr_nI hk]
  by_cases c : k < 64
  · rw [if_pos c]; exact h
  · rw [if_neg c, isAd_64 (Nat.le_refl _), ← isAd_64 (sp := d_sp D) (Nat.not_lt.mp c)]; exact h
theorem kC_isLost (R : RelC D σ) {a : Nat} (ha : a < 64) {post : Bool → Prop} (h : post (srv (d_sp D) (d_bY D) a).isNone) : wpX1_isLost σ (nI a) post := by
  unfold wpX1_isLost
  refine ⟨pk_in a 64 ha, ?_⟩
  rw [nI_clamp (by omega), R.srv a ha]
  cases e : srv (d_sp D) (d_bY D) a with
  | none => rw [e] at h; exact ⟨fun _ => h, fun q => absurd rfl q⟩
  | some b =>
    have hb : b < 64 := by
      unfold srv at e
      split at e
      · rename_i q; cases e; exact q.2
      · cases e
    rw [e] at h; exact ⟨fun q => absurd q (co_ne (by omega)), fun _ => h⟩
theorem srv_ad {sp bY : Nat → Nat} {a : Nat} (h : isAd sp a = true) (h2 : bY a < 64) : srv sp bY a = some (bY a) := by unfold srv; rw [if_pos ⟨h, h2⟩]
theorem srv_lost {sp bY : Nat → Nat} {a : Nat} (h2 : 64 ≤ bY a) : srv sp bY a = none := by unfold srv; rw [if_neg (by omega)]
theorem srv_sp {sp bY : Nat → Nat} {a : Nat} (h : isAd sp a = false) : srv sp bY a = none := by unfold srv; rw [if_neg (by rw [h]; simp)]
theorem kC_lostN (R : RelC D σ) {a : Nat} (ha : isAd (d_sp D) a = true) {post : Bool → Prop} (h1 : 64 ≤ d_bY D a → post true) (h2 : d_bY D a < 64 → post false) : wpX1_isLost σ (nI a) post := by
  refine kC_isLost R (isAd_lt ha) ?_
  by_cases c : d_bY D a < 64
  · rw [srv_ad ha c]; exact h2 c
  · rw [srv_lost (Nat.not_lt.mp c)]; exact h1 (Nat.not_lt.mp c)
theorem kC_srv (R : RelC D σ) {a : Nat} (ha : isAd (d_sp D) a = true) (hb : d_bY D a < 64) : hs_server σ (nI a).toNatClampNeg = nI (d_bY D a) := by
  have := isAd_lt ha
  rw [nI_clamp (by omega), R.srv a this, srv_ad ha hb]; rfl
theorem kC_isLongWay (R : RelC D σ) {a : Nat} (ha : isAd (d_sp D) a = true) {post : Bool → Prop} (h : post (decide (d_bY D a < 64 ∧ d_bY D a ≠ a))) : wpX1_isLongWay σ (nI a) post := by
  have hl := isAd_lt ha
  unfold wpX1_isLongWay
  refine kC_lostN R ha (fun q => ?_) (fun q => ?_)
  · rw [decide_eq_false (by omega)] at h
    exact ⟨fun _ => h, fun z => (by cases z)⟩
  · refine ⟨fun z => (by cases z), fun _ => ⟨pk_in a 64 hl, ?_⟩⟩
    rw [kC_srv R ha q]
    refine pk_eq (d_bY D a) a (fun z => ?_) (fun z => ?_)
    · rw [decide_eq_false (by omega)] at h; exact h
    · rw [decide_eq_true ⟨q, z⟩] at h; exact h
theorem kC_isGood (R : RelC D σ) (B : Bw D) {s : Nat} (hs : s < 64) {post : Bool → Prop} (h : post (decide (d_wear D s < d_lim D))) : wpX1_isGood σ (nI s) post := by
  unfold wpX1_isGood
  have h1 := B.lim
  have h2 := B.wear s hs
  refine ⟨pk_in s 64 hs, ?_⟩
  rw [nI_clamp (by omega), R.wear s hs, R.lim]
  refine pk_le (d_lim D) (d_wear D s) (fun q => ?_) (fun q => ?_)
  · rw [decide_eq_false (by omega)] at h; exact h
  · rw [decide_eq_true q] at h; exact h
theorem kC_isBad (R : RelC D σ) (B : Bw D) {s : Nat} (hs : s < 64) {post : Bool → Prop} (h : post (decide (2 * d_lim D ≤ d_wear D s))) : wpX1_isBad σ (nI s) post := by
  unfold wpX1_isBad
  have h1 := B.lim
  have h2 := B.wear s hs
  refine ⟨pk_in s 64 hs, ?_⟩
  rw [nI_clamp (by omega), R.wear s hs, R.lim, nI_2m]
  refine pk_lt (d_wear D s) (2 * d_lim D) (fun q => ?_) (fun q => ?_)
  · rw [decide_eq_false (by omega)] at h; exact h
  · rw [decide_eq_true q] at h; exact h
theorem kC_gradeOf (R : RelC D σ) (B : Bw D) {s : Nat} (hs : s < 64) {post : Int32 → Prop} (h : post (nI (gradeN D s))) : wpX1_gradeOf σ (nI s) post := by
  unfold wpX1_gradeOf
  unfold gradeN at h
  refine kC_isGood R B hs ⟨fun q => ?_, fun q => ?_⟩
  · rw [if_pos (of_decide_eq_true q)] at h; exact h
  · rw [if_neg (of_decide_eq_false q)] at h
    refine kC_isBad R B hs ⟨fun z => ?_, fun z => ?_⟩
    · have := of_decide_eq_true z
      rw [if_neg (by omega)] at h; exact h
    · have := of_decide_eq_false z
      rw [if_pos (by omega)] at h; exact h
theorem kC_isFree (R : RelC D σ) (B : Bw D) {s : Nat} (hs : s < 64) {post : Bool → Prop} (h : post (fr D s)) : wpX1_isFree σ (nI s) post := by
  unfold wpX1_isFree
  refine kS_headOf (by omega) (kS_placeOf (by omega) ⟨pk_in (s / 16) 4 (by omega), ?_⟩)
  have h1 := B.sp (s / 16) (by omega)
  have key : ∀ v : Bool, v = isSp (d_sp D) s → wpX1_isFree_J26 σ (nI s) (nI (s / 16)) post v := by
    intro v hv
    unfold wpX1_isFree_J26
    refine ⟨fun e => ⟨pk_in s 64 hs, ?_⟩, fun e => ?_⟩
    · rw [nI_clamp (by omega), R.cli s hs]
      cases ec : cli (d_sp D) (d_bY D) s with
      | some b =>
        have hb := isAd_lt (cli_some ec).1
        refine ⟨fun q => absurd q (co_ne (by omega)), fun _ => ?_⟩
        have z : fr D s = false := by
          cases g : fr D s with
          | false => rfl
          | true => rw [(fr_iff.mp g).2.1] at ec; cases ec
        rw [z] at h; exact h
      | none =>
        refine ⟨fun _ => ?_, fun q => absurd rfl q⟩
        refine kC_isGood R B hs ⟨fun q => ⟨pk_in (s / 16) 4 (by omega), ?_⟩, fun q => ?_⟩
        · rw [nI_clamp (by omega), R.giv _ (by omega)]
          refine ⟨fun w => ?_, fun w => ?_⟩
          · have z : fr D s = true := fr_iff.mpr ⟨hv ▸ e, ec, of_decide_eq_true q, (bi_eq _).mp w⟩
            rw [z] at h; exact h
          · have z : fr D s = false := by
              cases g : fr D s with
              | false => rfl
              | true => exact absurd ((bi_eq _).mpr (fr_iff.mp g).2.2.2) w
            rw [z] at h; exact h
        · have z : fr D s = false := by
            cases g : fr D s with
            | false => rfl
            | true => exact absurd (fr_iff.mp g).2.2.1 (of_decide_eq_false q)
          rw [z] at h; exact h
    · have z : fr D s = false := by
        cases g : fr D s with
        | false => rfl
        | true => exact absurd (fr_iff.mp g).1 (by rw [← hv, e]; simp)
      rw [z] at h; exact h
  rw [nI_clamp (by omega), R.sp _ (by omega), show (16 : Int32) - nI (d_sp D (s / 16)) = nI (16 - d_sp D (s / 16)) from pk_sub (a := 16) (by omega)]
  refine pk_lt (s % 16) (16 - d_sp D (s / 16)) (fun q => key _ ?_) (fun q => key _ ?_)
  · unfold isSp; rw [decide_eq_false (by omega)]
  · unfold isSp; rw [decide_eq_true (by omega)]
theorem kC_freeOf (R : RelC D σ) (B : Bw D) {h : Nat} (hh : h < 4) {post : Int32 → Prop} (hp : post (nI (nFr D h))) : wpX1_freeOf σ (nI h) post := by
  have L : ∀ (m p c : Nat), p + m = 16 → post (nI (c + cnt (fr D) m (16 * h + p))) → wpX1_freeOf_L4 σ (nI h) post (m + 1) (nI c) (nI p) := by
    intro m
    induction m with
    | zero =>
      intro p c e hp
      rw [wpX1_freeOf_L4]
      exact pk_le 16 p (fun _ => hp) (fun q => absurd q (by omega))
    | succ m ih =>
      intro p c e hp
      rw [wpX1_freeOf_L4]
      refine pk_le 16 p (fun q => absurd q (by omega)) (fun _ => ?_)
      rw [nI_hp]
      unfold cnt at hp
      refine kC_isFree R B (by omega) ⟨fun q => ?_, fun q => ?_⟩
      · rw [nI_1, nI_1]
        rw [if_pos q] at hp
        exact ih (p + 1) (c + 1) (by omega) (by rw [show c + 1 + cnt (fr D) m (16 * h + (p + 1)) = c + (1 + cnt (fr D) m (16 * h + p + 1)) by rw [Nat.add_assoc]; rfl]; exact hp)
      · rw [nI_1]
        rw [if_neg (by rw [q]; simp), Nat.zero_add] at hp
        exact ih (p + 1) c (by omega) hp
  unfold wpX1_freeOf
  exact ⟨17, L 16 0 0 rfl (by rw [Nat.zero_add]; exact hp)⟩
theorem kC_firstFreeOf (R : RelC D σ) (B : Bw D) {h : Nat} (hh : h < 4) {post : Int32 → Prop} (hp : post (co (ffH D h))) : wpX1_firstFreeOf σ (nI h) post := by
  have L : ∀ (m p : Nat), p + m = 16 → post (co (fnd (fr D) m (16 * h + p))) → wpX1_firstFreeOf_L2 σ (nI h) post (m + 1) (nI p) := by
    intro m
    induction m with
    | zero =>
      intro p e hp
      rw [wpX1_firstFreeOf_L2]
      exact pk_le 16 p (fun _ => hp) (fun q => absurd q (by omega))
    | succ m ih =>
      intro p e hp
      rw [wpX1_firstFreeOf_L2]
      refine pk_le 16 p (fun q => absurd q (by omega)) (fun _ => ?_)
      rw [nI_hp]
      unfold fnd at hp
      refine kC_isFree R B (by omega) ⟨fun q => ?_, fun q => ?_⟩
      · rw [if_pos q] at hp; exact hp
      · rw [nI_1]
        rw [if_neg (by rw [q]; simp)] at hp
        exact ih (p + 1) (by omega) hp
  unfold wpX1_firstFreeOf
  exact ⟨17, L 16 0 rfl hp⟩
theorem nFr_le (D : DS) (h : Nat) : nFr D h ≤ 16 := cnt_le
theorem ffH_lt {D : DS} {h x : Nat} (hh : h < 4) (e : ffH D h = some x) : x < 64 := by
  obtain ⟨h1, h2, -⟩ := fnd_some e
  omega
theorem kC_lendableTo (R : RelC D σ) (B : Bw D) {a : Nat} (ha : a < 64) {post : Int32 → Prop} (hp : post (co (lendD D a))) : wpX1_lendableTo σ (nI a) post := by
  have L : ∀ (m h b : Nat), b < 4 → h + m = 4 → post (co (ffH D (bestH (nFr D) m h b))) → wpX1_lendableTo_L25 σ post (m + 1) (nI b) (nI (nFr D b)) (nI h) := by
    intro m
    induction m with
    | zero =>
      intro h b hb e hp
      rw [wpX1_lendableTo_L25]
      exact pk_le 4 h (fun _ => kC_firstFreeOf R B hb hp) (fun q => absurd q (by omega))
    | succ m ih =>
      intro h b hb e hp
      rw [wpX1_lendableTo_L25]
      refine pk_le 4 h (fun q => absurd q (by omega)) (fun _ => ?_)
      unfold bestH at hp
      have g1 := nFr_le D h
      have g2 := nFr_le D b
      refine kC_freeOf R B (by omega) (pk_le (nFr D h) (nFr D b) (fun q => ?_) (fun q => ?_))
      · rw [if_neg (by omega)] at hp
        rw [nI_1]
        exact ih (h + 1) b hb (by omega) hp
      · rw [if_pos q] at hp
        rw [nI_1]
        exact ih (h + 1) h (by omega) (by omega) hp
  unfold wpX1_lendableTo
  unfold lendD at hp
  refine kS_headOf (by omega) (kC_firstFreeOf R B (by omega) ?_)
  cases e : ffH D (a / 16) with
  | some x =>
    rw [e] at hp
    have := ffH_lt (by omega) e
    exact ⟨fun q => absurd q (co_ne (by omega)), fun _ => hp⟩
  | none =>
    rw [e] at hp
    refine ⟨fun _ => ⟨5, ?_⟩, fun q => absurd rfl q⟩
    rw [wpX1_lendableTo_L25]
    have g1 := nFr_le D 0
    refine pk_le 4 0 (fun q => absurd q (by omega)) (fun _ => ?_)
    refine kC_freeOf (h := 0) R B (by omega) (pk_le (nFr D 0) 0 (fun q => ?_) (fun q => ?_))
    · have z := L 3 1 0 (by omega) rfl hp
      have e0 : nFr D 0 = 0 := by omega
      rw [e0] at z
      exact z
    · exact L 3 1 0 (by omega) rfl hp
theorem kC_stepsTo (R : RelC D σ) (B : Bw D) {a : Nat} (ha : isAd (d_sp D) a = true) (hb : d_bY D a < 64) {post : Int32 → Prop} (hp : post (nI (stepsD D a))) : wpX1_stepsTo σ (nI a) post := by
  have hl := isAd_lt ha
  have har := B.arm
  unfold stepsD at hp
  have J : (d_bY D a = a ∨ d_giv D (a / 16) = true) → wpX1_stepsTo_J24 σ (nI a) post := by
    intro c
    rw [if_pos c] at hp
    unfold wpX1_stepsTo_J24
    rw [kC_srv R ha hb, R.arm]
    exact kS_stepsBetween har hb hp
  unfold wpX1_stepsTo
  refine ⟨pk_in a 64 hl, ?_⟩
  rw [kC_srv R ha hb]
  refine pk_eq (d_bY D a) a (fun q => J (Or.inl q)) (fun q => ?_)
  refine kS_headOf (by omega) ⟨pk_in (a / 16) 4 (by omega), ?_⟩
  rw [nI_clamp (n := a / 16) (by omega), R.giv _ (by omega)]
  refine ⟨fun w => ?_, fun w => J (Or.inr ((bi_ne _).mp w))⟩
  rw [if_neg (by rw [(bi_eq _).mp w]; simp [q])] at hp
  rw [R.arm]
  refine kS_stepsBetween har hl (kS_stepsBetween hl hb ?_)
  rw [nI_add]
  exact hp
end KC
