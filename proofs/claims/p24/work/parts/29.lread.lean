/-! what is given up stays so -/
theorem Gv.of {D E : DS} (G : Gv D) (h : d_giv E = d_giv D) : Gv E := by
  obtain ⟨k, hk, e⟩ := G
  exact ⟨k, hk, by rw [h]; exact e⟩
theorem look_giv (D : DS) (a : Nat) : d_giv (lookD D a) = d_giv D := by
  unfold lookD
  by_cases c : d_wear D (d_bY D a) < d_lim D
  · rw [if_pos c]
  · rw [if_neg c]
    cases lendD D a with
    | some x => exact (a_resc D a x).2.2.2.2.1
    | none =>
      show d_giv (if 2 * d_lim D ≤ d_wear D (d_bY D a) then loseD D a else D) = d_giv D
      by_cases c2 : 2 * d_lim D ≤ d_wear D (d_bY D a)
      · rw [if_pos c2]; exact (a_lose D a).2.2.2.2.1
      · rw [if_neg c2]
theorem rR_giv (D : DS) (a : Nat) : d_giv (readR D a).2 = d_giv D := by
  unfold readR
  by_cases c : isAd (d_sp D) a = true
  · rw [if_pos c]
    by_cases c2 : d_bY D a < 64
    · rw [if_pos c2]
      show d_giv (readD D a) = d_giv D
      unfold readD
      rw [look_giv]; simp only [a_setReads, a_wear, a_go]
    · rw [if_neg c2]
  · rw [if_neg c]
theorem wrAt_giv {D E : DS} {a : Nat} (h : wrAt D a = some E) : d_giv E = d_giv D := by
  unfold wrAt at h
  by_cases c : d_bY D a < 64
  · rw [if_pos c] at h; cases h; rfl
  · rw [if_neg c] at h
    cases e : lendD D a with
    | none => rw [e] at h; cases h
    | some x => rw [e] at h; cases h; simp only [a_by]
theorem wD_giv (E : DS) (a v : Nat) : d_giv (writeD E a v) = d_giv E := by
  unfold writeD
  rw [look_giv]; simp only [a_setWrites, a_setVal, a_wear, a_go]
theorem wR_giv (D : DS) (a : Nat) (v : Int32) : d_giv (writeR D a v).2 = d_giv D := by
  unfold writeR
  by_cases c : isAd (d_sp D) a = true
  · rw [if_pos c]
    by_cases c2 : 0 ≤ v.toInt ∧ v.toInt ≤ 999
    · rw [if_pos c2]
      cases e : wrAt D a with
      | none => rfl
      | some E =>
        show d_giv (writeD E a v.toInt.toNat) = d_giv D
        rw [wD_giv, wrAt_giv e]
    · rw [if_neg c2]
  · rw [if_neg c]
theorem pair_giv {D E : DS} {f t : Nat} (h : pairD D f t = some E) : d_giv E = d_giv D := by
  obtain ⟨-, -, e⟩ := pair_some h
  rw [e, wR_giv, rR_giv]
theorem cpy_giv : ∀ {m : Nat} {D : DS} {f t : Nat}, d_giv (cpyD m D f t).2 = d_giv D := by
  intro m
  induction m with
  | zero => intro D f t; rfl
  | succ m ih =>
    intro D f t
    unfold cpyD
    cases e : pairD D f t with
    | none => rfl
    | some E =>
      show d_giv (cpyD m E (f + 1) (t + 1)).2 = d_giv D
      rw [ih, pair_giv e]
theorem tst_giv {h : Nat} : ∀ {m p : Nat} {D : DS}, d_giv (tstD h m p D) = d_giv D := by
  intro m
  induction m with
  | zero => intro p D; rfl
  | succ m ih =>
    intro p D
    unfold tstD
    rw [ih, rR_giv]
theorem mv_giv (D : DS) (a : Nat) : d_giv (mvD D a) = d_giv D := by
  unfold mvD
  cases lendD D a with
  | some x =>
    show d_giv (wearD (byD D a x) x 2) = d_giv D
    simp only [a_wear, a_by]
  | none =>
    show d_giv (loseD D a) = d_giv D
    simp only [a_lose]
theorem vacL_giv {h : Nat} : ∀ {m a : Nat} {D : DS}, d_giv (vacL h m a D) = d_giv D := by
  intro m
  induction m with
  | zero => intro a D; rfl
  | succ m ih =>
    intro a D
    unfold vacL
    rw [ih]
    by_cases c : isAd (d_sp D) a = true ∧ d_bY D a < 64 ∧ d_bY D a / 16 = h
    · rw [if_pos c, mv_giv]
    · rw [if_neg c]
/-! numbers of the law -/
theorem and_max (x : Int32) : ∃ y : Nat, y < 2 ^ 31 ∧ x &&& 2147483647 = nI y := by
  have hlt : (x &&& 2147483647).toBitVec.toNat < 2 ^ 31 := by
    rw [Int32.toBitVec_and, BitVec.toNat_and]
    have e : (2147483647 : Int32).toBitVec.toNat = 2147483647 := by decide
    rw [e]
    exact Nat.lt_of_le_of_lt Nat.and_le_right (by decide)
  refine ⟨(x &&& 2147483647).toBitVec.toNat, hlt, ?_⟩
  apply Int32.toInt_inj.mp
  rw [nI_toInt hlt]
  show (x &&& 2147483647).toBitVec.toInt = _
  exact BitVec.toInt_eq_toNat_of_lt (by omega)
theorem kL_low {x : Int32} {m : Nat} (hm : 1 ≤ m) (hm2 : m < 2 ^ 31) {post : Int32 → Prop} (h : ∀ k, k < m → post (nI k)) : wpL_low x (nI m) post := by
  unfold wpL_low
  obtain ⟨y, hy, e⟩ := and_max x
  rw [e, pk_rem hy (by omega) hm2]
  exact ⟨fun z => by have : m = 0 := nI_inj hm2 (by omega) z; omega, h _ (Nat.mod_lt _ (by omega))⟩
theorem kL_apart {x s : Nat} (hx : x < 64) (hs : s < 64) {post : Int32 → Prop} (h : post (nI (apart x s))) : wpL_apart (nI (x % 16)) (nI (x / 16)) (nI s) post := by
  have J : ∀ v : Nat, v = (if s % 16 ≤ x % 16 then x % 16 - s % 16 else s % 16 - x % 16) → wpL_apart_J17 (nI (x / 16)) (nI s) post (nI v) := by
    intro v hv
    unfold wpL_apart_J17
    rw [nI_pd (by omega)]
    unfold apart at h
    rw [← hv] at h
    refine pk_eq (x / 16) (s / 16) (fun q => ?_) (fun q => ?_)
    · rw [if_pos q] at h
      rw [show nI v + 0 = nI (v + 0) from nI_add v 0]; exact h
    · rw [if_neg q] at h
      rw [show nI v + 2 = nI (v + 2) from nI_add v 2]; exact h
  unfold wpL_apart
  rw [nI_pm (by omega)]
  by_cases c : s % 16 ≤ x % 16
  · rw [pk_sub c]
    exact ⟨fun _ => J _ (by rw [if_pos c]), fun z => absurd (nI_pos' (by omega)) z⟩
  · have e : (nI (x % 16) - nI (s % 16)).toInt = ((x % 16 : Nat) : Int) - ((s % 16 : Nat) : Int) := pk_sub_toInt (by omega) (by omega)
    refine ⟨fun z => ?_, fun _ => ?_⟩
    · rw [Int32.le_iff_toInt_le, e, show (0 : Int32).toInt = 0 by decide] at z; omega
    · rw [Int32.neg_sub, pk_sub (by omega)]
      exact J _ (by rw [if_neg c])
theorem cnt_none {P : Nat → Bool} : ∀ {m p : Nat}, cnt P m p = 0 → fnd P m p = none := by
  intro m
  induction m with
  | zero => intro p _; rfl
  | succ m ih =>
    intro p h
    unfold cnt at h
    unfold fnd
    by_cases c : P p = true
    · rw [if_pos c] at h; omega
    · rw [if_neg c]
      exact ih (by omega)
theorem cnt_pos {P : Nat → Bool} {m p : Nat} (h : ¬ cnt P m p = 0) : ∃ x, fnd P m p = some x := by
  cases e : fnd P m p with
  | some x => exact ⟨x, rfl⟩
  | none => exact absurd (cnt_zero (fnd_none e)) h
def lendH (D : DS) (h : Nat) : Option Nat := match ffH D h with
  | some x => some x
  | none => ffH D (bestH (nFr D) 3 1 0)
theorem co_5 {o : Option Nat} (h : ∀ x, o = some x → x < 64) : co o = -5 ↔ o = none := by
  cases o with
  | none => exact ⟨fun _ => rfl, fun _ => rfl⟩
  | some x => exact ⟨fun z => absurd z (co_ne (by have := h x rfl; omega)), fun z => by cases z⟩
theorem secR_5 (D : DS) (s : Nat) : secR D s 5 = -2 := by
  unfold secR; rw [if_neg (by decide), if_neg (by decide), if_neg (by decide), if_neg (by decide), if_neg (by decide)]
theorem grade_0 {D : DS} {s : Nat} : gradeN D s = 0 ↔ d_wear D s < d_lim D := by
  unfold gradeN
  by_cases c : d_wear D s < d_lim D
  · rw [if_pos c]; exact ⟨fun _ => c, fun _ => rfl⟩
  · rw [if_neg c]
    refine ⟨fun z => ?_, fun z => absurd z c⟩
    split at z <;> omega
section LR
variable {χ : XS} {D : DS} {n : Nat} {H : Nat → DS}
theorem kL_steps (S : SX χ D n H) {a : Nat} (ha : isAd (d_sp D) a = true) (hb : d_bY D a < 64) {post : Int32 → Prop} (hp : post (nI (stepsD D a))) : wpL_steps χ (nI a) (nI (d_bY D a)) post := by
  have hl := isAd_lt ha
  have har := S.2.1.1.arm
  unfold wpL_steps
  rw [nI_pm (by omega), nI_pd (by omega)]
  refine qCount S (by decide) (by decide) ?_
  rw [wholeR_5]
  refine qCount S (by decide) (by decide) ?_
  rw [wholeR_6]
  refine qHead S (by omega) ?_
  rw [headR_3]
  unfold stepsD at hp
  cases eg : d_giv D (a / 16) with
  | true =>
    rw [if_pos (Or.inr eg)] at hp
    exact ⟨fun _ => kL_apart har hb hp, fun z => absurd rfl z⟩
  | false =>
    refine ⟨fun z => absurd z (by decide), fun _ => kL_apart har hl ?_⟩
    refine pk_eq (d_bY D a) a (fun q => ?_) (fun q => ?_)
    · rw [if_pos (Or.inl q), q] at hp
      rw [show nI (apart (d_arm D) a) + 0 = nI (apart (d_arm D) a + 0) from nI_add _ 0]; exact hp
    · rw [if_neg (by rw [eg]; simp [q])] at hp
      refine kL_apart hl hb ?_
      rw [nI_add]; exact hp
theorem kL_lends (S : SX χ D n H) {h : Nat} (hh : h < 4) {post : Int32 → Prop} (hp : post (co (lendH D h))) : wpL_lends χ (nI h) post := by
  have L2 : ∀ (m p b : Nat), b < 4 → p + m = 16 → post (co (fnd (fr D) m (16 * b + p))) → wpL_lends_L49 χ post (m + 1) (nI b) (nI p) := by
    intro m
    induction m with
    | zero =>
      intro p b hb e hp
      rw [wpL_lends_L49]
      exact pk_le 16 p (fun _ => hp) (fun q => absurd q (by omega))
    | succ m ih =>
      intro p b hb e hp
      rw [wpL_lends_L49]
      refine pk_le 16 p (fun q => absurd q (by omega)) (fun _ => ?_)
      rw [nI_ph]
      refine qSec S (by omega) ?_
      rw [secR_4]
      unfold fnd at hp
      by_cases c : fr D (16 * b + p) = true
      · rw [if_pos c] at hp ⊢
        exact ⟨fun _ => hp, fun z => absurd rfl z⟩
      · rw [if_neg c] at hp ⊢
        refine ⟨fun z => absurd z (by decide), fun _ => ?_⟩
        rw [nI_1]
        exact ih (p + 1) b hb (by omega) hp
  have L1 : ∀ (m q b : Nat), b < 4 → q + m = 4 → post (co (ffH D (bestH (nFr D) m q b))) → wpL_lends_L15 χ post (m + 1) (nI b) (nI q) := by
    intro m
    induction m with
    | zero =>
      intro q b hb e hp
      rw [wpL_lends_L15]
      exact pk_le 4 q (fun _ => ⟨17, L2 16 0 b hb rfl hp⟩) (fun z => absurd z (by omega))
    | succ m ih =>
      intro q b hb e hp
      rw [wpL_lends_L15]
      refine pk_le 4 q (fun z => absurd z (by omega)) (fun _ => qHead S (by omega) ?_)
      rw [headR_2]
      refine qHead S hb ?_
      rw [headR_2, nI_1]
      have g1 := nFr_le D q
      have g2 := nFr_le D b
      unfold bestH at hp
      refine pk_le (nFr D q) (nFr D b) (fun z => ?_) (fun z => ?_)
      · rw [if_neg (by omega)] at hp; exact ih (q + 1) b hb (by omega) hp
      · rw [if_pos z] at hp; exact ih (q + 1) q (by omega) (by omega) hp
  unfold wpL_lends
  refine qHead S hh ?_
  rw [headR_2]
  have g := nFr_le D h
  unfold lendH at hp
  refine pk_eq (nFr D h) 0 (fun q => ⟨4, ?_⟩) (fun q => ⟨17, ?_⟩)
  · rw [show ffH D h = none from cnt_none q] at hp
    exact L1 3 1 0 (by omega) rfl hp
  · obtain ⟨x, e⟩ := cnt_pos q
    have e : ffH D h = some x := e
    rw [e] at hp
    refine L2 16 0 h hh rfl ?_
    show post (co (ffH D h))
    rw [e]; exact hp
theorem kL_sectors (S : SX χ D n H) {post : Bool → Prop} (hp : post true) : wpL_sectors χ post := by
  have B := S.2.1.1
  have hlim := B.lim
  have L : ∀ (m p c : Nat), p + m = 64 → c + cnt (fr D) m p = cnt (fr D) 64 0 → wpL_sectors_L10 χ (nI (d_lim D)) post (m + 1) (nI c) (nI p) := by
    intro m
    induction m with
    | zero =>
      intro p c e hc
      rw [wpL_sectors_L10]
      refine pk_le 64 p (fun _ => qCount S (by decide) (by decide) ?_) (fun q => absurd q (by omega))
      have hc : c = cnt (fr D) 64 0 := hc
      rw [wholeR_4, ← hc]
      refine ⟨fun _ => qSec64 ⟨fun _ => qSec S (k := 0) (by omega) ?_, fun z => absurd rfl z⟩, fun z => absurd rfl z⟩
      rw [secR_5]
      exact ⟨fun _ => hp, fun z => absurd rfl z⟩
    | succ m ih =>
      intro p c e hc
      rw [wpL_sectors_L10]
      have hl : p < 64 := by omega
      have hw := B.wear p hl
      have hsp := B.sp (p / 16) (by omega)
      have hx : ∀ x, cli (d_sp D) (d_bY D) p = some x → x < 64 := fun x q => isAd_lt (cli_some q).1
      have c5 := co_5 hx
      have hfr := fr_iff (D := D) (s := p)
      have hcn : cnt (fr D) (m + 1) p = (if fr D p = true then 1 else 0) + cnt (fr D) m (p + 1) := rfl
      rw [hcn] at hc
      have hserve : ∀ a, cli (d_sp D) (d_bY D) p = some a → d_giv D (p / 16) = false ∧ (a = p ∨ isSp (d_sp D) p = true) := by
        intro a q
        obtain ⟨q1, q2⟩ := cli_some q
        obtain ⟨s1, s2⟩ := B.ser a q1 (by omega)
        rw [q2] at s1 s2
        exact ⟨s1, s2.imp (fun w => w.symm) id⟩
      refine pk_le 64 p (fun q => absurd q (by omega)) (fun _ => qSec S hl ?_)
      rw [secR_0]
      have K : ∀ g, g = gradeN D p → wpL_sectors_J53 χ (nI c) (nI p) post (wpL_sectors_L10 χ (nI (d_lim D)) post (m + 1)) (nI g) := by
        intro g hg
        have hg2 := gradeN_le D p
        unfold wpL_sectors_J53
        refine qSec S hl ?_
        rw [secR_3, nI_pm (by omega), nI_pd (by omega)]
        refine qHead S (by omega) ?_
        rw [headR_1, show (16 : Int32) - nI (d_sp D (p / 16)) = nI (16 - d_sp D (p / 16)) from pk_sub (a := 16) (by omega)]
        have J85 : ∀ v, v = isSp (d_sp D) p → wpL_sectors_J85 χ (nI c) (nI p) (nI g) (co (cli (d_sp D) (d_bY D) p)) post (wpL_sectors_L10 χ (nI (d_lim D)) post (m + 1)) v := by
          intro v hv
          have J119 : ∀ b, b = fr D p → wpL_sectors_J119 χ (nI c) (nI p) (nI g) (co (cli (d_sp D) (d_bY D) p)) v post (wpL_sectors_L10 χ (nI (d_lim D)) post (m + 1)) b := by
            intro b hb
            have J228 : wpL_sectors_J228 (nI c) (nI p) b post (wpL_sectors_L10 χ (nI (d_lim D)) post (m + 1)) := by
              unfold wpL_sectors_J228 wpL_sectors_J239
              refine ⟨fun z => ?_, fun z => ?_⟩
              · rw [hb] at z
                rw [if_pos z] at hc
                rw [bi_t, nI_1, nI_1]
                exact ih (p + 1) (c + 1) (by omega) (by omega)
              · rw [hb] at z
                rw [if_neg (by rw [z]; simp)] at hc
                rw [bi_f, Int32.add_zero, nI_1]
                exact ih (p + 1) c (by omega) (by omega)
            have J208 : wpL_sectors_J208 χ (nI c) (nI p) (co (cli (d_sp D) (d_bY D) p)) b post (wpL_sectors_L10 χ (nI (d_lim D)) post (m + 1)) := by
              unfold wpL_sectors_J208
              rw [nI_pd (by omega)]
              refine qHead S (by omega) ?_
              rw [headR_3]
              refine ⟨fun z => ⟨fun _ => J228, fun y => ?_⟩, fun _ => J228⟩
              cases ec : cli (d_sp D) (d_bY D) p with
              | none => exact absurd (c5.mpr ec) y
              | some a =>
                rw [(hserve a ec).1] at z
                exact absurd z (by decide)
            have J190 : wpL_sectors_J190 χ (nI c) (nI p) (co (cli (d_sp D) (d_bY D) p)) v b post (wpL_sectors_L10 χ (nI (d_lim D)) post (m + 1)) := by
              unfold wpL_sectors_J190
              refine ⟨fun _ => J208, fun e => ⟨fun _ => J208, fun z => ⟨fun _ => J208, fun y => ?_⟩⟩⟩
              cases ec : cli (d_sp D) (d_bY D) p with
              | none => exact absurd (c5.mpr ec) z
              | some a =>
                rcases (hserve a ec).2 with q | q
                · rw [ec, q] at y; exact absurd rfl y
                · rw [← hv, e] at q; cases q
            have J167 : ∀ u, u = b → wpL_sectors_J167 χ (nI c) (nI p) (co (cli (d_sp D) (d_bY D) p)) v b post (wpL_sectors_L10 χ (nI (d_lim D)) post (m + 1)) u := by
              intro u hu
              unfold wpL_sectors_J167
              rw [hu]
              refine ⟨fun _ => ⟨fun _ => J190, fun z => ?_⟩, fun z => absurd rfl z⟩
              cases ec : cli (d_sp D) (d_bY D) p with
              | none => exact absurd (c5.mpr ec) z
              | some a =>
                obtain ⟨q1, q2⟩ := cli_some ec
                rw [ec] at J190
                show wpX3_address χ (nI a) 1 _
                refine qAdY S q1 ?_
                rw [addrR_1, srv_ad q1 (by omega), q2]
                exact ⟨fun _ => J190, fun z => absurd rfl z⟩
            have J147 : ∀ u, u = v → wpL_sectors_J147 χ (nI c) (nI p) (co (cli (d_sp D) (d_bY D) p)) v b post (wpL_sectors_L10 χ (nI (d_lim D)) post (m + 1)) u := by
              intro u hu
              unfold wpL_sectors_J147
              rw [hu]
              refine ⟨fun _ => qSec S hl ?_, fun z => absurd rfl z⟩
              rw [secR_4]
              by_cases q : fr D p = true
              · rw [if_pos q]
                exact ⟨fun _ => J167 true (by rw [hb, q]), fun z => absurd rfl z⟩
              · rw [if_neg q]
                exact ⟨fun z => absurd z (by decide), fun _ => J167 false (by rw [hb]; simpa using q)⟩
            unfold wpL_sectors_J119
            refine qSec S hl ?_
            rw [secR_1]
            refine pk_eq (gradeN D p) g (fun _ => qSec S hl ?_) (fun z => absurd hg.symm z)
            rw [secR_2]
            by_cases q : isAd (d_sp D) p = true
            · rw [if_pos q]
              exact ⟨fun z => absurd z (by decide), fun _ => J147 false (by rw [hv, isAd_sp q])⟩
            · rw [if_neg q]
              refine ⟨fun _ => J147 true ?_, fun z => absurd rfl z⟩
              rw [hv]
              cases w : isSp (d_sp D) p with
              | true => rfl
              | false => exact absurd (isAd_of hl w) q
          have frF : (¬ (isSp (d_sp D) p = true ∧ cli (d_sp D) (d_bY D) p = none ∧ d_wear D p < d_lim D ∧ d_giv D (p / 16) = false)) → false = fr D p := fun z => by
            cases w : fr D p with
            | false => rfl
            | true => exact absurd (hfr.mp w) z
          have JF : (¬ (isSp (d_sp D) p = true ∧ cli (d_sp D) (d_bY D) p = none ∧ d_wear D p < d_lim D ∧ d_giv D (p / 16) = false)) → wpL_sectors_J118 χ (nI c) (nI p) (nI g) (co (cli (d_sp D) (d_bY D) p)) v post (wpL_sectors_L10 χ (nI (d_lim D)) post (m + 1)) := fun z => by
            unfold wpL_sectors_J118
            exact J119 false (frF z)
          unfold wpL_sectors_J85
          rw [nI_pd (by omega)]
          refine ⟨fun e => ?_, fun e => JF (fun w => ?_)⟩
          · refine ⟨fun z => ?_, fun z => JF (fun w => z (c5.mpr w.2.1))⟩
            refine pk_eq g 0 (fun gz => ?_) (fun gz => JF (fun w => gz ?_))
            · refine qHead S (by omega) ?_
              rw [headR_3]
              refine ⟨fun y => J119 true ?_, fun y => JF (fun w => y ((bi_eq _).mpr w.2.2.2))⟩
              exact (hfr.mpr ⟨by rw [← hv, e], c5.mp z, grade_0.mp (by rw [← hg]; exact gz), (bi_eq _).mp y⟩).symm
            · rw [hg]; exact grade_0.mpr w.2.2.1
          · rw [← hv, e] at w; cases w.1
        refine pk_lt (p % 16) (16 - d_sp D (p / 16)) (fun q => J85 false ?_) (fun q => J85 true ?_)
        · unfold isSp; rw [decide_eq_false (by omega)]
        · unfold isSp; rw [decide_eq_true (by omega)]
      refine pk_le (d_lim D) (d_wear D p) (fun q => ?_) (fun q => K 0 (by unfold gradeN; rw [if_pos q]))
      rw [nI_2m]
      refine pk_le (2 * d_lim D) (d_wear D p) (fun z => K 2 ?_) (fun z => K 1 ?_)
      · unfold gradeN; rw [if_neg (by omega), if_neg (by omega)]
      · unfold gradeN; rw [if_neg (by omega), if_pos z]
  unfold wpL_sectors
  refine qCount S (by decide) (by decide) ?_
  rw [wholeR_0]
  exact ⟨65, L 64 0 0 rfl (Nat.zero_add _)⟩
end LR
