/-! the law's acts: giving up, testing, the limit, copying -/
theorem oth_all {giv : Nat → Bool} {h : Nat} : ∀ {m o : Nat}, othG giv h m o = true → ∀ k, o ≤ k → k < o + m → k ≠ h → giv k = true := by
  intro m
  induction m with
  | zero => intro o _ k h1 h2; omega
  | succ m ih =>
    intro o e k h1 h2 hk
    unfold othG at e
    by_cases c : o = h
    · rw [if_pos c] at e
      exact ih e k (by omega) (by omega) hk
    · rw [if_neg c] at e
      by_cases c2 : giv o = true
      · rw [if_pos c2] at e
        by_cases c3 : k = o
        · rw [c3]; exact c2
        · exact ih e k (by omega) (by omega) hk
      · rw [if_neg c2] at e; cases e
theorem oth_no {giv : Nat → Bool} {h : Nat} : ∀ {m o : Nat}, othG giv h m o = false → ∃ k, o ≤ k ∧ k < o + m ∧ k ≠ h ∧ giv k = false := by
  intro m
  induction m with
  | zero => intro o e; cases e
  | succ m ih =>
    intro o e
    unfold othG at e
    by_cases c : o = h
    · rw [if_pos c] at e
      obtain ⟨k, h1, h2, h3⟩ := ih e
      exact ⟨k, by omega, by omega, h3⟩
    · rw [if_neg c] at e
      by_cases c2 : giv o = true
      · rw [if_pos c2] at e
        obtain ⟨k, h1, h2, h3⟩ := ih e
        exact ⟨k, by omega, by omega, h3⟩
      · exact ⟨o, Nat.le_refl _, by omega, c, by simpa using c2⟩
theorem vacD_giv (D : DS) (h : Nat) : d_giv (vacD D h) = va_up (d_giv D) h true := by
  unfold vacD
  rw [vacL_giv]
  simp only [a_setGiv]
theorem mv_steps (D : DS) (a : Nat) : d_steps (mvD D a) = d_steps D := by
  unfold mvD
  cases lendD D a with
  | some x =>
    show d_steps (wearD (byD D a x) x 2) = d_steps D
    simp only [a_wear, a_by]
  | none =>
    show d_steps (loseD D a) = d_steps D
    simp only [a_lose]
theorem vacL_steps {h : Nat} : ∀ {m a : Nat} {D : DS}, d_steps (vacL h m a D) = d_steps D := by
  intro m
  induction m with
  | zero => intro a D; rfl
  | succ m ih =>
    intro a D
    unfold vacL
    rw [ih]
    by_cases c : isAd (d_sp D) a = true ∧ d_bY D a < 64 ∧ d_bY D a / 16 = h
    · rw [if_pos c, mv_steps]
    · rw [if_neg c]
theorem vacD_steps (D : DS) (h : Nat) : d_steps (vacD D h) = d_steps D := by
  unfold vacD
  rw [vacL_steps]
  simp only [a_setGiv]
theorem mv_lost {D : DS} {a : Nat} (ha : isAd (d_sp D) a = true) (hb : d_bY D a < 64) : cnt (lostQ (mvD D a)) 64 0 = cnt (lostQ D) 64 0 + (if lendD D a = none then 1 else 0) := by
  have hl := isAd_lt ha
  unfold mvD
  cases e : lendD D a with
  | some x =>
    show cnt (lostQ (wearD (byD D a x) x 2)) 64 0 = cnt (lostQ D) 64 0 + 0
    have hx := (lend_free hl e).1
    rw [Nat.add_zero]
    refine cnt_cong (fun y _ _ => ?_)
    unfold lostQ
    simp only [a_wear, a_by]
    by_cases c : y = a
    · rw [c, up_eq, decide_eq_false (by omega), decide_eq_false (by omega)]
    · rw [up_ne _ _ c]
  | none =>
    show cnt (lostQ (loseD D a)) 64 0 = cnt (lostQ D) 64 0 + 1
    have e1 := cnt_or (A := lostQ D) (B := fun y => decide (a = y)) (m := 64) (p := 0) (fun y h1 h2 => by
      have h2 := of_decide_eq_true h2
      rw [← h2] at h1
      unfold lostQ at h1
      simp only [Bool.and_eq_true, decide_eq_true_eq] at h1
      omega)
    rw [cnt_one (Nat.zero_le _) (by omega)] at e1
    rw [← e1]
    refine cnt_cong (fun y _ _ => ?_)
    unfold lostQ
    simp only [a_lose]
    by_cases c : a = y
    · rw [← c, up_eq, ha, decide_eq_true (Nat.le_refl 64), decide_eq_true (p := a = a) rfl, Bool.or_true]; rfl
    · rw [up_ne _ _ (fun z => c z.symm), decide_eq_false c, Bool.or_false]
theorem vacL_lost {h : Nat} : ∀ {m a : Nat} {D : DS}, cnt (lostQ (vacL h m a D)) 64 0 = cnt (lostQ D) 64 0 + vacN h m a D := by
  intro m
  induction m with
  | zero => intro a D; exact (Nat.add_zero _).symm
  | succ m ih =>
    intro a D
    unfold vacL vacN
    by_cases c : isAd (d_sp D) a = true ∧ d_bY D a < 64 ∧ d_bY D a / 16 = h
    · rw [if_pos c, if_pos c, ih, mv_lost c.1 c.2.1, Nat.add_assoc]
    · rw [if_neg c, if_neg c, ih, Nat.zero_add]
theorem vacD_lost (D : DS) (h : Nat) : cnt (lostQ (vacD D h)) 64 0 = cnt (lostQ D) 64 0 + vacC D h := by
  unfold vacD vacC
  rw [vacL_lost]
  congr 1
theorem free_giv {D : DS} {h : Nat} (hg : d_giv D h = true) : nFr D h = 0 := by
  unfold nFr
  refine cnt_zero (fun y h1 h2 => ?_)
  cases e : fr D y with
  | false => rfl
  | true =>
    have z := (fr_iff.mp e).2.2.2
    rw [show y / 16 = h by omega, hg] at z; cases z
theorem pair_cnt {D E : DS} (B : Bw D) {f t : Nat} (h : pairD D f t = some E) : d_writes E = d_writes D + 1 ∧ d_reads E = d_reads D + 1 := by
  obtain ⟨h1, h2, e⟩ := pair_some h
  have r1 : d_writes (readR D f).2 = d_writes D ∧ d_reads (readR D f).2 = d_reads D + 1 := by
    unfold readR at h1 ⊢
    by_cases c : isAd (d_sp D) f = true
    · rw [if_pos c] at h1 ⊢
      by_cases c2 : d_bY D f < 64
      · rw [if_pos c2]
        show d_writes (readD D f) = _ ∧ d_reads (readD D f) = _
        unfold readD
        rw [look_writes, look_reads]
        simp only [a_setReads, a_wear, a_go]
        exact ⟨trivial, trivial⟩
      · rw [if_neg c2] at h1; exact absurd (show (-4 : Int32) < 0 by decide) h1
    · rw [if_neg c] at h1; exact absurd (show (-1 : Int32) < 0 by decide) h1
  generalize (readR D f).2 = F at e r1 h2
  generalize (readR D f).1 = v at e h2
  have r2 : d_writes (writeR F t v).2 = d_writes F + 1 ∧ d_reads (writeR F t v).2 = d_reads F := by
    unfold writeR at h2 ⊢
    by_cases c : isAd (d_sp F) t = true
    · rw [if_pos c] at h2 ⊢
      by_cases c2 : 0 ≤ v.toInt ∧ v.toInt ≤ 999
      · rw [if_pos c2] at h2 ⊢
        cases e0 : wrAt F t with
        | none => rw [e0] at h2; exact absurd (show (-4 : Int32) < 0 by decide) h2
        | some G =>
          show d_writes (writeD G t v.toInt.toNat) = _ ∧ d_reads (writeD G t v.toInt.toNat) = _
          have f : d_writes G = d_writes F ∧ d_reads G = d_reads F := by
            unfold wrAt at e0
            by_cases c3 : d_bY F t < 64
            · rw [if_pos c3] at e0; cases e0; exact ⟨rfl, rfl⟩
            · rw [if_neg c3] at e0
              cases el : lendD F t with
              | none => rw [el] at e0; cases e0
              | some x => rw [el] at e0; cases e0; simp only [a_by]; exact ⟨trivial, trivial⟩
          unfold writeD
          rw [look_writes, look_reads]
          simp only [a_setWrites, a_setVal, a_wear, a_go]
          rw [f.1, f.2]
          exact ⟨rfl, rfl⟩
      · rw [if_neg c2] at h2; exact absurd (show (-2 : Int32) < 0 by decide) h2
    · rw [if_neg c] at h2; exact absurd (show (-1 : Int32) < 0 by decide) h2
  rw [e, r2.1, r2.2, r1.1, r1.2]
  exact ⟨rfl, rfl⟩
theorem cpy_cnt : ∀ {m : Nat} {D : DS} {f t : Nat}, Inv D → d_writes (cpyD m D f t).2 = d_writes D + nI (cpyD m D f t).1 ∧ d_reads (cpyD m D f t).2 = d_reads D + nI (cpyD m D f t).1 := by
  intro m
  induction m with
  | zero => intro D f t _; exact ⟨(Int32.add_zero _).symm, (Int32.add_zero _).symm⟩
  | succ m ih =>
    intro D f t I
    unfold cpyD
    cases e : pairD D f t with
    | none => exact ⟨(Int32.add_zero _).symm, (Int32.add_zero _).symm⟩
    | some E =>
      obtain ⟨h1, h2⟩ := ih (f := f + 1) (t := t + 1) (I.pair e)
      obtain ⟨g1, g2⟩ := pair_cnt I.1.1 e
      show d_writes (cpyD m E (f + 1) (t + 1)).2 = d_writes D + nI ((cpyD m E (f + 1) (t + 1)).1 + 1) ∧ d_reads (cpyD m E (f + 1) (t + 1)).2 = d_reads D + nI ((cpyD m E (f + 1) (t + 1)).1 + 1)
      have e1 : ∀ (x : Int32) (k : Nat), x + 1 + nI k = x + nI (k + 1) := fun x k => by
        rw [Int32.add_assoc, show (1 : Int32) + nI k = nI (1 + k) from nI_add 1 k, Nat.add_comm]
      rw [h1, h2, g1, g2, e1, e1]
      exact ⟨rfl, rfl⟩
section LD
variable {χ : XS} {D : DS} {n : Nat} {H : Nat → DS}
theorem kL_drops (S : SX χ D n H) {h : Nat} (hh : h < 4) {post : Bool → XS → Prop} (K : Kp D n H post) : wpL_drops χ (nI h) post := by
  have heq := oth_eq (giv := d_giv D) hh
  have hvc : vacC D h ≤ 64 := vacN_le
  have hlo : cnt (lostQ D) 64 0 ≤ 64 := cnt_le
  have body : ∀ (χ2 : XS) (r2 : Int32), SX χ2 D n H → (d_giv D h = true → r2 = -5) → (d_giv D h = false → r2 = nI (vacC D h)) → wpX3_count χ2 2 (fun r8 => wpX3_count χ2 7 (fun r15 => wpX3_head χ2 0 3 (fun r23 => wpX3_head χ2 1 3 (fun r29 => wpX3_head χ2 2 3 (fun r36 => wpX3_head χ2 3 3 (fun r43 => wpX3_head χ2 (nI h) 3 (fun r52 => ((r52 = 1 → wpL_drops_J64 (nI h) χ2 r2 r8 r15 r23 r29 r36 r43 post true) ∧ (¬ r52 = 1 → wpL_drops_J64 (nI h) χ2 r2 r8 r15 r23 r29 r36 r43 post false)))))))))  := by
    intro χ2 r2 S2 hr1 hr2
    refine qCount S2 (by decide) (by decide) ?_
    rw [wholeR_2]
    refine qCount S2 (by decide) (by decide) ?_
    rw [wholeR_7]
    refine qHead S2 (h := 0) (by omega) (qHead S2 (h := 1) (by omega) (qHead S2 (h := 2) (by omega) (qHead S2 (h := 3) (by omega) (qHead S2 hh ?_))))
    rw [headR_3, headR_3, headR_3, headR_3, headR_3]
    have J64 : ∀ v, v = d_giv D h → wpL_drops_J64 (nI h) χ2 r2 (nI (cnt (lostQ D) 64 0)) (d_steps D) (bi (d_giv D 0)) (bi (d_giv D 1)) (bi (d_giv D 2)) (bi (d_giv D 3)) post v := by
      intro v hv
      unfold wpL_drops_J64
      refine qGiveUp S2 hh (fun o => ?_) (fun o w => ?_) (fun o w => ?_)
      · have w : d_giv D h = false := by
          cases e : d_giv D h with
          | false => rfl
          | true =>
            obtain ⟨k, hk, hg⟩ := S.2.2.1
            by_cases c : k = h
            · rw [c, e] at hg; cases hg
            · rw [oth_all o k (Nat.zero_le _) (by omega) c] at hg; cases hg
        have h3 := heq.mpr o
        rw [w, bi_f, Int32.sub_zero] at h3
        rw [hv, w]
        refine ⟨fun z => (by cases z), fun _ => ⟨fun _ => ⟨fun _ => qHead S2 hh ?_, fun z => absurd rfl z⟩, fun z => absurd h3 z⟩⟩
        rw [headR_3, w]
        exact ⟨fun _ => K.stay S2, fun z => absurd rfl z⟩
      · rw [hv, w, hr1 w]
        exact ⟨fun _ => ⟨fun _ => ⟨fun _ => K.stay S2, fun z => absurd rfl z⟩, fun z => absurd rfl z⟩, fun z => (by cases z)⟩
      · have h3 : ¬ bi (d_giv D 0) + bi (d_giv D 1) + bi (d_giv D 2) + bi (d_giv D 3) = 3 := fun z => by
          have z2 := heq.mp (by rw [w, bi_f, Int32.sub_zero]; exact z)
          rw [o] at z2; cases z2
        have I' := S.2.1.vac h
        have e1 := vacD_giv D h
        have e2 := vacD_steps D h
        have e3 := vacD_lost D h
        generalize vacD D h = E at I' e1 e2 e3 ⊢
        generalize vacC D h = cc at hvc e3 hr2 ⊢
        have G' : Gv E := by
          obtain ⟨k, h1, h2, h4, h5⟩ := oth_no o
          exact ⟨k, by omega, by rw [e1, up_ne _ _ h4]; exact h5⟩
        refine qAct S2 (r := (nI cc, E)) (fun _ => ⟨I', G'⟩) (fun z => absurd z (nI_pos (show cc < 2 ^ 31 by omega))) (fun _ χ' S' => ?_)
        have S' : SX χ' E (recN n) (recH n H D) := S'
        have fin : post true χ' := K.go S'
        show (v = true → _) ∧ (v = false → _)
        rw [hv, w]
        refine ⟨fun z => (by cases z), fun _ => ⟨fun z => absurd z h3, fun _ => ?_⟩⟩
        rw [hr2 w]
        have eg : d_giv E h = true := by rw [e1, up_eq]
        refine ⟨fun _ => qHead S' hh ?_, fun z => absurd rfl z⟩
        rw [headR_3, eg]
        refine ⟨fun _ => qHead S' hh ?_, fun z => absurd rfl z⟩
        rw [headR_2, free_giv eg]
        refine ⟨fun _ => qCount S' (by decide) (by decide) ?_, fun z => absurd rfl z⟩
        rw [wholeR_2, e3, nI_add]
        refine ⟨fun _ => qCount S' (by decide) (by decide) ?_, fun z => absurd rfl z⟩
        rw [wholeR_7, e2]
        exact ⟨fun _ => fin, fun z => absurd rfl z⟩
    cases e : d_giv D h with
    | true => rw [e] at J64; exact ⟨fun _ => J64 true rfl, fun z => absurd rfl z⟩
    | false => rw [e] at J64; exact ⟨fun z => absurd z (by decide), fun _ => J64 false rfl⟩
  unfold wpL_drops
  exact qWould S hh (fun w => body χ (-5) S (fun _ => rfl) (fun z => by rw [w] at z; cases z)) (fun w χ2 S2 => body χ2 _ S2 (fun z => by rw [w] at z; cases z) (fun _ => rfl))
theorem kL_test (S : SX χ D n H) {h : Nat} (hh : h < 4) {post : Bool → XS → Prop} (K : Kp D n H post) : wpX3_count χ 8 (fun r57 => wpX3_head χ (nI h) 6 (fun r67 => wpX3_head χ (nI h) 1 (fun r76 => ((r67 = (16 - r76) → wpL_does_J88 χ (nI h) r57 post true) ∧ (¬ r67 = (16 - r76) → wpL_does_J88 χ (nI h) r57 post false))))) := by
  have hsp := S.2.1.1.sp h hh
  have hlo : lostH D h ≤ 16 := cnt_le
  refine qCount S (by decide) (by decide) ?_
  rw [wholeR_8]
  refine qHead S hh (qHead S hh ?_)
  rw [headR_6, headR_1, show (16 : Int32) - nI (d_sp D h) = nI (16 - d_sp D h) from pk_sub (a := 16) (by omega)]
  refine pk_eq (lostH D h) (16 - d_sp D h) (fun c => ?_) (fun c => ?_)
  · have er : testR D h = (-5, D) := by unfold testR; rw [if_pos c]
    unfold wpL_does_J88
    refine qTest S hh ?_
    rw [er]
    refine qAct S (fun z => absurd (show (-5 : Int32) < 0 by decide) z) (fun _ χ' S' => ?_) (fun z => absurd (show (-5 : Int32) < 0 by decide) z)
    unfold wpL_does_J119
    exact ⟨fun _ => ⟨fun _ => K.stay S', fun z => absurd rfl z⟩, fun z => (by cases z)⟩
  · have er : testR D h = (d_resc (tstD h 16 0 D) - d_resc D, tstD h 16 0 D) := by unfold testR; rw [if_neg c]
    have hn : ¬ (testR D h).1 < 0 := fun z => c (testR_neg z)
    unfold wpL_does_J88
    refine qTest S hh (qAct S (fun _ => ?_) (fun z => absurd z hn) (fun _ χ' S' => ?_))
    · rw [er]; exact ⟨S.2.1.tst, S.2.2.1.of tst_giv⟩
    · rw [er] at S' ⊢
      refine ⟨fun z => (by cases z), fun _ => qCount S' (by decide) (by decide) ?_⟩
      rw [wholeR_8]
      unfold wpL_does_J119
      exact ⟨fun _ => K.go S', fun z => absurd rfl z⟩
theorem kL_limit (S : SX χ D n H) {k : Nat} (hk : k < 40) {post : Bool → XS → Prop} (K : Kp D n H post) : wpX3_count χ 0 (fun r175 => wpX3_setLimit χ (1 + nI k) (fun r183 χ183 => ((r175 = (1 + nI k) → wpL_does_J200 (nI k) χ183 r183 post (-5)) ∧ (¬ r175 = (1 + nI k) → wpL_does_J200 (nI k) χ183 r183 post r175)))) := by
  have hlim := S.2.1.1.lim
  have e1 : (1 : Int32) + nI k = nI (1 + k) := nI_add 1 k
  have ei : (nI (1 + k)).toInt = ((1 + k : Nat) : Int) := nI_toInt (by omega)
  have en : (nI (1 + k)).toInt.toNat = 1 + k := by rw [ei]; rfl
  refine qCount S (by decide) (by decide) ?_
  rw [wholeR_0, e1]
  have J200 : ∀ (χ' : XS) (E : DS) (m : Nat) (G : Nat → DS) (r : Int32), SX χ' E m G → d_lim E = 1 + k → post true χ' → wpL_does_J200 (nI k) χ' r post r := by
    intro χ' E m G r S' h1 fin
    unfold wpL_does_J200
    rw [e1]
    refine ⟨fun _ => qCount S' (by decide) (by decide) ?_, fun z => absurd rfl z⟩
    rw [wholeR_0, h1]
    exact ⟨fun _ => fin, fun z => absurd rfl z⟩
  by_cases c : nI (1 + k) = nI (d_lim D)
  · have er : limR D (nI (1 + k)) = (-5, D) := by unfold limR; rw [if_pos (by rw [ei]; omega), if_pos c]
    refine qSetLimit S ?_
    rw [er]
    refine qAct S (fun z => absurd (show (-5 : Int32) < 0 by decide) z) (fun _ χ' S' => ?_) (fun z => absurd (show (-5 : Int32) < 0 by decide) z)
    exact ⟨fun _ => J200 χ' D n H _ S' (nI_inj (by omega) (by omega) c.symm) (K.stay S'), fun z => absurd c.symm z⟩
  · have er : limR D (nI (1 + k)) = (nI (d_lim D), d_setLim D (1 + k)) := by unfold limR; rw [if_pos (by rw [ei]; omega), if_neg c, en]
    refine qSetLimit S ?_
    rw [er]
    refine qAct S (fun _ => ⟨S.2.1.setLim (by omega), S.2.2.1⟩) (fun z => absurd z (nI_pos (show d_lim D < 2 ^ 31 by omega))) (fun _ χ' S' => ?_)
    exact ⟨fun z => absurd z.symm c, fun _ => J200 χ' _ _ _ _ S' rfl (K.go S')⟩
theorem kL_copy (S : SX χ D n H) {a t k : Nat} (ha : a < 64) (ht : t < 64) (hk : k < 16) {post : Bool → XS → Prop} (K : Kp D n H post) : wpX3_sector χ (nI a) 2 (fun r244 => ((r244 = 0 → wpX3_sector χ (nI t) 2 (fun r254 => ((r254 = 0 → wpL_does_J265 χ (nI a) (nI k) (nI t) post true) ∧ (¬ r254 = 0 → wpL_does_J264 χ (nI a) (nI k) (nI t) post )))) ∧ (¬ r244 = 0 → wpL_does_J264 χ (nI a) (nI k) (nI t) post ))) := by
  have e1 : (1 : Int32) + nI k = nI (1 + k) := nI_add 1 k
  have J264 : isAd (d_sp D) a = false ∨ isAd (d_sp D) t = false → wpL_does_J264 χ (nI a) (nI k) (nI t) post := by
    intro h
    unfold wpL_does_J264 wpL_does_J265
    refine qCount S (by decide) (by decide) (qCount S (by decide) (by decide) (qCopyN S ?_ ?_))
    · rw [adr_lt ha, adr_lt ht]; exact h
    · exact ⟨fun z => (by cases z), fun _ => ⟨fun _ => K.stay S, fun z => absurd rfl z⟩⟩
  refine qSec S ha ?_
  rw [secR_2]
  by_cases q : isAd (d_sp D) a = true
  · rw [if_pos q]
    refine ⟨fun _ => qSec S ht ?_, fun z => absurd rfl z⟩
    rw [secR_2]
    by_cases q2 : isAd (d_sp D) t = true
    · rw [if_pos q2]
      refine ⟨fun _ => ?_, fun z => absurd rfl z⟩
      unfold wpL_does_J265
      refine qCount S (by decide) (by decide) ?_
      rw [wholeR_11]
      refine qCount S (by decide) (by decide) ?_
      rw [wholeR_10, e1]
      refine qCopy S q q2 (by omega) ?_
      have hc : (cpyD (1 + k) D a t).1 ≤ 1 + k := cpy_le
      by_cases c : (cpyD (1 + k) D a t).1 = 0
      · have er : copR D a t (1 + k) = (-5, D) := by unfold copR; rw [if_pos c]
        rw [er]
        refine qAct S (fun z => absurd (show (-5 : Int32) < 0 by decide) z) (fun _ χ' S' => ?_) (fun z => absurd (show (-5 : Int32) < 0 by decide) z)
        refine ⟨fun _ => ⟨fun _ => qCount S' (by decide) (by decide) ?_, fun z => absurd rfl z⟩, fun z => (by cases z)⟩
        rw [wholeR_11]
        exact ⟨fun _ => K.stay S', fun z => absurd rfl z⟩
      · have er : copR D a t (1 + k) = (nI (cpyD (1 + k) D a t).1, (cpyD (1 + k) D a t).2) := by unfold copR; rw [if_neg c]
        obtain ⟨w1, w2⟩ := cpy_cnt (m := 1 + k) (f := a) (t := t) S.2.1
        have I' := S.2.1.cpy (m := 1 + k) (f := a) (t := t)
        have G' : Gv (cpyD (1 + k) D a t).2 := S.2.2.1.of cpy_giv
        rw [er]
        generalize (cpyD (1 + k) D a t).1 = cc at hc c w1 w2
        generalize (cpyD (1 + k) D a t).2 = E at w1 w2 I' G'
        refine qAct S (fun _ => ⟨I', G'⟩) (fun z => absurd z (nI_pos (show cc < 2 ^ 31 by omega))) (fun _ χ' S' => ?_)
        have S' : SX χ' E (recN n) (recH n H D) := S'
        refine ⟨fun _ => ⟨fun z => absurd z (nI_ne5 (by omega)), fun _ => pk_le cc 0 (fun z => absurd z (by omega)) (fun _ => pk_lt (1 + k) cc (fun z => absurd z (by omega)) (fun _ => qCount S' (by decide) (by decide) ?_))⟩, fun z => (by cases z)⟩
        rw [wholeR_11, w1]
        refine ⟨fun _ => qCount S' (by decide) (by decide) ?_, fun z => absurd rfl z⟩
        rw [wholeR_10, w2]
        exact ⟨fun _ => K.go S', fun z => absurd rfl z⟩
    · rw [if_neg q2]
      exact ⟨fun z => absurd z (by decide), fun _ => J264 (Or.inr (by simpa using q2))⟩
  · rw [if_neg q]
    exact ⟨fun z => absurd z (by decide), fun _ => J264 (Or.inl (by simpa using q))⟩
theorem kL_does (S : SX χ D n H) {s : Nat} (hs : s < 12) {g h : Int32} {post : Bool → XS → Prop} (K : Kp D n H post) : wpL_does χ (nI s) g h post := by
  unfold wpL_does
  refine kL_low (m := 64) (by omega) (by omega) (fun a ha => ?_)
  refine pk_le 4 s (fun c4 => ?_) (fun c4 => kL_reads S ha K)
  refine pk_le 7 s (fun c7 => ?_) (fun c7 => kL_low (m := 1000) (by omega) (by omega) (fun v hv => kL_writes S ha hv K))
  refine pk_eq s 7 (fun _ => kL_low (m := 4) (by omega) (by omega) (fun k hk => kL_test S hk K)) (fun d7 => ?_)
  refine pk_eq s 8 (fun _ => kL_gives S ha K) (fun d8 => ?_)
  refine pk_eq s 9 (fun _ => kL_low (m := 4) (by omega) (by omega) (fun k hk => kL_drops S hk K)) (fun d9 => ?_)
  refine pk_eq s 10 (fun _ => kL_low (m := 40) (by omega) (by omega) (fun k hk => kL_limit S hk K)) (fun d10 => ?_)
  exact kL_low (m := 16) (by omega) (by omega) (fun k hk => kL_low (m := 64) (by omega) (by omega) (fun t ht => kL_copy S ha ht hk K))
end LD
