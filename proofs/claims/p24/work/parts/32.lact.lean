/-! the law's acts: reading, writing, giving back -/
theorem ne_succ (x : Int32) : ¬ x = x + 1 := fun h => by
  have e : x + 1 - x = x - x := by rw [← h]
  rw [add_sub_i, Int32.sub_self] at e
  exact absurd e (by decide)
def Kp (D : DS) (n : Nat) (H : Nat → DS) (post : Bool → XS → Prop) : Prop := ∀ (χ' : XS) (E : DS) (m : Nat) (G : Nat → DS), SX χ' E m G → StpL D n H E m G → post true χ'
theorem Kp.stay {D : DS} {n : Nat} {H : Nat → DS} {post : Bool → XS → Prop} (K : Kp D n H post) {χ' : XS} (S : SX χ' D n H) : post true χ' := K χ' D n H S (Or.inl ⟨rfl, rfl, rfl⟩)
theorem Kp.go {D E : DS} {n : Nat} {H : Nat → DS} {post : Bool → XS → Prop} (K : Kp D n H post) {χ' : XS} (S : SX χ' E (recN n) (recH n H D)) : post true χ' := K χ' E _ _ S (Or.inr ⟨rfl, rfl⟩)
theorem cli_gone {sp bY : Nat → Nat} {a x : Nat} (hinj : ∀ x y, isAd sp x = true → isAd sp y = true → bY x = bY y → bY x < 64 → x = y) (ha : isAd sp a = true) (hb : bY a < 64) (hx : x ≠ bY a) : cli sp (va_up bY a x) (bY a) = none := by
  refine cli_no (fun y hy e => ?_)
  by_cases c : y = a
  · rw [c, up_eq] at e; exact hx e
  · rw [up_ne _ _ c] at e; exact c (hinj y a hy ha e (by omega))
theorem look_writes (D : DS) (a : Nat) : d_writes (lookD D a) = d_writes D := by
  unfold lookD
  by_cases c : d_wear D (d_bY D a) < d_lim D
  · rw [if_pos c]
  · rw [if_neg c]
    cases lendD D a with
    | some x => exact (a_resc D a x).2.2.2.2.2.2.2.2.2.2.2.2.2
    | none =>
      show d_writes (if 2 * d_lim D ≤ d_wear D (d_bY D a) then loseD D a else D) = d_writes D
      by_cases c2 : 2 * d_lim D ≤ d_wear D (d_bY D a)
      · rw [if_pos c2]; exact (a_lose D a).2.2.2.2.2.2.2.2.2.2.2.2.2
      · rw [if_neg c2]
theorem look_reads (D : DS) (a : Nat) : d_reads (lookD D a) = d_reads D := by
  unfold lookD
  by_cases c : d_wear D (d_bY D a) < d_lim D
  · rw [if_pos c]
  · rw [if_neg c]
    cases lendD D a with
    | some x => exact (a_resc D a x).2.2.2.2.2.2.2.2.2.2.2.2.1
    | none =>
      show d_reads (if 2 * d_lim D ≤ d_wear D (d_bY D a) then loseD D a else D) = d_reads D
      by_cases c2 : 2 * d_lim D ≤ d_wear D (d_bY D a)
      · rw [if_pos c2]; exact (a_lose D a).2.2.2.2.2.2.2.2.2.2.2.2.1
      · rw [if_neg c2]
theorem rl_ge {T ag : Nat} : ∀ {m w k : Nat}, k ≤ rl T ag m w k ∧ rl T ag m w k ≤ k + m := by
  intro m
  induction m with
  | zero => intro w k; exact ⟨Nat.le_refl _, Nat.le_refl _⟩
  | succ m ih =>
    intro w k
    unfold rl
    by_cases c : w + ag < T
    · rw [if_pos c]
      have := ih (w := w + ag) (k := k + 1)
      omega
    · rw [if_neg c]; omega
theorem rl_one {T ag w : Nat} : rl T ag 2000 w 1 = 1 ↔ ¬ w + ag < T := by
  have e : rl T ag 2000 w 1 = if w + ag < T then rl T ag 1999 (w + ag) 2 else 1 := by rw [rl]
  rw [e]
  by_cases c : w + ag < T
  · rw [if_pos c]
    have := rl_ge (T := T) (ag := ag) (m := 1999) (w := w + ag) (k := 2)
    exact ⟨fun z => by omega, fun z => absurd c z⟩
  · rw [if_neg c]
    exact ⟨fun _ => c, fun _ => rfl⟩
/-- what a read of an address comes to -/
theorem read_out {D : DS} (I : Inv D) {a : Nat} (ha : isAd (d_sp D) a = true) (hb : d_bY D a < 64) : d_sp (readD D a) = d_sp D ∧
    ((d_bY (readD D a) a = d_bY D a ∧ d_resc (readD D a) = d_resc D ∧ d_steps (readD D a) = d_steps D + nI (stepsD D a) ∧ d_wear D (d_bY D a) + d_age D (d_bY D a / 16) < rT D a ∧ (gradeN (readD D a) (d_bY D a) = 0 ∨ lendD D a = none ∧ gradeN (readD D a) (d_bY D a) = 1)) ∨
    (∃ x, lendD D a = some x ∧ d_bY (readD D a) a = x ∧ x ≠ d_bY D a ∧ x < 64 ∧ d_resc (readD D a) = d_resc D + 1 ∧ d_arm (readD D a) = x ∧ ¬ d_wear D (d_bY D a) + d_age D (d_bY D a / 16) < rT D a ∧ cli (d_sp D) (d_bY (readD D a)) (d_bY D a) = none) ∨
    (d_bY (readD D a) a = 64 ∧ d_resc (readD D a) = d_resc D ∧ d_steps (readD D a) = d_steps D + nI (stepsD D a) ∧ ¬ d_wear D (d_bY D a) + d_age D (d_bY D a / 16) < rT D a ∧ cli (d_sp D) (d_bY (readD D a)) (d_bY D a) = none)) := by
  have hlim := I.1.lim
  obtain ⟨f1, f2, f3, f4, f5⟩ := rE_f D a
  have hle := lend_fr (fr_rE I ha hb) a
  have g1 : d_resc (rE D a) = d_resc D := by unfold rE; simp only [a_setReads, a_wear, a_go]
  have g2 : d_steps (rE D a) = d_steps D + nI (stepsD D a) := by unfold rE; simp only [a_setReads, a_wear, a_go]
  have er : readD D a = lookD (rE D a) a := rfl
  rw [er]
  refine ⟨(look_sp _ _).trans f3, ?_⟩
  unfold rT
  have stay : lookD (rE D a) a = rE D a → d_wear D (d_bY D a) + d_age D (d_bY D a / 16) < (if lendD D a = none then 2 * d_lim D else d_lim D) → (d_wear D (d_bY D a) + d_age D (d_bY D a / 16) < d_lim D ∨ lendD D a = none ∧ ¬ d_wear D (d_bY D a) + d_age D (d_bY D a / 16) < d_lim D ∧ d_wear D (d_bY D a) + d_age D (d_bY D a / 16) < 2 * d_lim D) →
      (d_bY (lookD (rE D a) a) a = d_bY D a ∧ d_resc (lookD (rE D a) a) = d_resc D ∧ d_steps (lookD (rE D a) a) = d_steps D + nI (stepsD D a) ∧ d_wear D (d_bY D a) + d_age D (d_bY D a / 16) < (if lendD D a = none then 2 * d_lim D else d_lim D) ∧ (gradeN (lookD (rE D a) a) (d_bY D a) = 0 ∨ lendD D a = none ∧ gradeN (lookD (rE D a) a) (d_bY D a) = 1)) := by
    intro e h1 h2
    rw [e]
    refine ⟨by rw [f4], g1, g2, h1, ?_⟩
    unfold gradeN
    rw [f5, f1]
    rcases h2 with h2 | ⟨h2, h3, h4⟩
    · rw [if_pos h2]; exact Or.inl rfl
    · rw [if_neg h3, if_pos h4]; exact Or.inr ⟨h2, rfl⟩
  by_cases c : d_wear D (d_bY D a) + d_age D (d_bY D a / 16) < d_lim D
  · refine Or.inl (stay ?_ ?_ (Or.inl c))
    · unfold lookD; rw [f4, f5, f1, if_pos c]
    · split <;> omega
  · cases el : lendD D a with
    | some x =>
      refine Or.inr (Or.inl ⟨x, rfl, ?_⟩)
      obtain ⟨k1, k2, -, -, -⟩ := lend_free (isAd_lt ha) el
      have e : lookD (rE D a) a = rescD (rE D a) a x := by
        unfold lookD; rw [f4, f5, f1, if_neg c, hle, el]
      have hx : x ≠ d_bY D a := fun z => k2 a ha z.symm
      rw [e]
      simp only [a_resc]
      rw [f4, up_eq, g1]
      refine ⟨rfl, hx, k1, rfl, trivial, ?_, cli_gone I.1.inj ha hb hx⟩
      rw [if_neg (by simp)]; exact c
    | none =>
      rw [if_pos rfl]
      by_cases c2 : 2 * d_lim D ≤ d_wear D (d_bY D a) + d_age D (d_bY D a / 16)
      · have e : lookD (rE D a) a = loseD (rE D a) a := by
          unfold lookD; rw [f4, f5, f1, if_neg c, hle, el]
          show (if 2 * d_lim D ≤ d_wear D (d_bY D a) + d_age D (d_bY D a / 16) then loseD (rE D a) a else rE D a) = _
          rw [if_pos c2]
        refine Or.inr (Or.inr ?_)
        rw [e]
        simp only [a_lose]
        rw [f4, up_eq]
        exact ⟨rfl, g1, g2, by omega, cli_gone I.1.inj ha hb (by omega)⟩
      · have e : lookD (rE D a) a = rE D a := by
          unfold lookD; rw [f4, f5, f1, if_neg c, hle, el]
          show (if 2 * d_lim D ≤ d_wear D (d_bY D a) + d_age D (d_bY D a / 16) then loseD (rE D a) a else rE D a) = _
          rw [if_neg c2]
        have z := stay e (by rw [el, if_pos rfl]; omega) (Or.inr ⟨el, c, by omega⟩)
        rw [el, if_pos rfl] at z
        exact Or.inl z
section LB
variable {χ : XS} {D : DS} {n : Nat} {H : Nat → DS}
theorem qReadA (S : SX χ D n H) {a : Nat} (ha : a < 64) {post : Int32 → XS → Prop} (h1 : (readR D a).1 < 0 → ∀ χ', SX χ' D n H → post (readR D a).1 χ') (h2 : ¬ (readR D a).1 < 0 → ∀ χ', SX χ' (readR D a).2 (recN n) (recH n H D) → post (readR D a).1 χ') : wpX3_read χ (nI a) post := by
  refine qRead S ?_
  rw [adr_lt ha]
  exact qAct S (fun _ => ⟨S.2.1.rR a, S.2.2.1.of (rR_giv D a)⟩) h1 h2
theorem qWriteA (S : SX χ D n H) {a : Nat} (ha : a < 64) {v : Int32} {post : Int32 → XS → Prop} (h1 : (writeR D a v).1 < 0 → ∀ χ', SX χ' D n H → post (writeR D a v).1 χ') (h2 : ¬ (writeR D a v).1 < 0 → ∀ χ', SX χ' (writeR D a v).2 (recN n) (recH n H D) → post (writeR D a v).1 χ') : wpX3_write χ (nI a) v post := by
  refine qWrite S ?_
  rw [adr_lt ha]
  exact qAct S (fun _ => ⟨S.2.1.wR a v, S.2.2.1.of (wR_giv D a v)⟩) h1 h2
theorem back_giv (D : DS) (a : Nat) : d_giv (backR D a).2 = d_giv D := by
  unfold backR
  by_cases c : isAd (d_sp D) a = true
  · rw [if_pos c]
    by_cases c2 : d_bY D a < 64 ∧ d_bY D a ≠ a
    · rw [if_pos c2]
      by_cases c3 : d_wear D a < d_lim D ∧ d_giv D (a / 16) = false
      · rw [if_pos c3]
        show d_giv (byD (wearD (moveD (goD D a) a) a 2) a a) = d_giv D
        simp only [a_by, a_wear, a_move, a_go]
      · rw [if_neg c3]
    · rw [if_neg c2]
  · rw [if_neg c]
theorem qBackA (S : SX χ D n H) {a : Nat} (ha : a < 64) {post : Int32 → XS → Prop} (h1 : (backR D a).1 < 0 → ∀ χ', SX χ' D n H → post (backR D a).1 χ') (h2 : ¬ (backR D a).1 < 0 → ∀ χ', SX χ' (backR D a).2 (recN n) (recH n H D) → post (backR D a).1 χ') : wpX3_giveBack χ (nI a) post := by
  refine qGiveBack S ?_
  rw [adr_lt ha]
  exact qAct S (fun _ => ⟨S.2.1.back a, S.2.2.1.of (back_giv D a)⟩) h1 h2
theorem kL_reads (S : SX χ D n H) {a : Nat} (ha : a < 64) {g : Int32} {post : Bool → XS → Prop} (K : Kp D n H post) : wpL_reads χ (nI a) g post := by
  have B := S.2.1.1
  have hv := B.val a ha
  by_cases q : isAd (d_sp D) a = true
  · by_cases c : d_bY D a < 64
    · have er : readR D a = (nI (d_val D a), readD D a) := by unfold readR; rw [if_pos q, if_pos c]
      have hag := age_le B c
      have hwb := B.wear _ c
      have J77 : ∀ (v61 : Bool) (v77 : Int32), (v61 = true → v77 = nI (rl (rT D a) (d_age D (d_bY D a / 16)) 2000 (d_wear D (d_bY D a)) 1)) → wpL_reads_J77 χ (nI a) (nI (d_bY D a)) (nI (d_val D a)) (nI (stepsD D a)) (d_steps D) (co (lendD D a)) (d_resc D) v61 post v77 := by
        intro v61 v77 h77
        unfold wpL_reads_J77
        refine qReadA S ha (fun z => ?_) (fun _ χ' S' => ?_)
        · rw [er] at z; exact absurd z (nI_pos (by omega))
        rw [er] at S' ⊢
        refine ⟨fun z => absurd z (nI_m1 (by omega)), fun _ => ⟨fun z => absurd z (nI_ne5 (by omega)), fun _ => ?_⟩⟩
        have fin : post true χ' := K.go S'
        obtain ⟨esp, ho⟩ := read_out S.2.1 q c
        have S' : SX χ' (readD D a) (recN n) (recH n H D) := S'
        generalize readD D a = E at S' esp ho
        have q' : isAd (d_sp E) a = true := by rw [esp]; exact q
        have hrl := rl_ge (T := rT D a) (ag := d_age D (d_bY D a / 16)) (m := 2000) (w := d_wear D (d_bY D a)) (k := 1)
        have hr1 := rl_one (T := rT D a) (ag := d_age D (d_bY D a / 16)) (w := d_wear D (d_bY D a))
        generalize rl (rT D a) (d_age D (d_bY D a / 16)) 2000 (d_wear D (d_bY D a)) 1 = R at h77 hrl hr1
        refine qAdY S' q' ?_
        rw [addrR_1]
        refine qCount S' (by decide) (by decide) ?_
        rw [wholeR_8]
        rcases ho with ⟨h1, h2, h3, h4, h5⟩ | ⟨x, hx, h1, h2, h3, h4, h5, h6, h7⟩ | ⟨h1, h2, h3, h4, h5⟩
        · rw [srv_ad q' (by rw [h1]; exact c), h1, h2, show co (some (d_bY D a)) = nI (d_bY D a) from rfl]
          refine ⟨fun z => absurd z (ne_succ _), fun _ => ?_⟩
          have J265 : wpL_reads_J265 (nI (d_bY D a)) (nI (d_val D a)) (co (lendD D a)) χ' (nI (d_val D a)) (nI (d_bY D a)) post := by
            unfold wpL_reads_J265
            refine ⟨fun _ => ⟨fun _ => qSec S' c ?_, fun z => absurd rfl z⟩, fun z => absurd rfl z⟩
            rw [secR_1]
            rcases h5 with h5 | ⟨h5, h6⟩
            · rw [h5]; exact ⟨fun _ => fin, fun z => absurd rfl z⟩
            · rw [h5, h6]
              refine ⟨fun z => absurd z (by decide), fun _ => ⟨fun _ => qSec S' c ?_, fun z => absurd rfl z⟩⟩
              rw [secR_1, h6]
              exact ⟨fun _ => fin, fun z => absurd rfl z⟩
          have J194 : wpL_reads_J194 (nI (d_bY D a)) (nI (d_val D a)) (nI (stepsD D a)) (d_steps D) (co (lendD D a)) χ' (nI (d_val D a)) (nI (d_bY D a)) false post := by
            unfold wpL_reads_J194 wpL_reads_J249
            refine ⟨fun z => (by cases z), fun _ => ⟨fun _ => qCount S' (by decide) (by decide) ?_, fun z => absurd rfl z⟩⟩
            rw [wholeR_7, h3]
            exact ⟨fun _ => J265, fun z => absurd rfl z⟩
          unfold wpL_reads_J160
          refine ⟨fun e => ?_, fun _ => J194⟩
          rw [h77 e]
          refine pk_eq R 1 (fun z => absurd h4 (hr1.mp z)) (fun _ => ?_)
          unfold wpL_reads_J178 wpL_reads_J189
          exact ⟨fun _ => ⟨fun _ => J194, fun z => absurd rfl z⟩, fun z => absurd rfl z⟩
        · rw [srv_ad q' (by rw [h1]; exact h3), h1, h4, hx, show co (some x) = nI x from rfl]
          refine ⟨fun _ => ?_, fun z => absurd rfl z⟩
          have hne : ¬ nI x = nI (d_bY D a) := fun z => h2 (nI_inj (by omega) (by omega) z)
          have J265 : wpL_reads_J265 (nI (d_bY D a)) (nI (d_val D a)) (nI x) χ' (nI (d_val D a)) (nI x) post := by
            unfold wpL_reads_J265
            refine ⟨fun _ => ⟨fun z => absurd z hne, fun _ => qSec S' c ?_⟩, fun z => absurd rfl z⟩
            rw [secR_3, esp, h7]
            exact ⟨fun _ => fin, fun z => absurd rfl z⟩
          have J194 : wpL_reads_J194 (nI (d_bY D a)) (nI (d_val D a)) (nI (stepsD D a)) (d_steps D) (nI x) χ' (nI (d_val D a)) (nI x) true post := by
            unfold wpL_reads_J194
            rw [nI_pm (by omega), nI_pd (by omega)]
            refine ⟨fun _ => ⟨fun _ => qCount S' (by decide) (by decide) ?_, fun z => absurd rfl z⟩, fun z => (by cases z)⟩
            rw [wholeR_5, h5]
            refine ⟨fun _ => qCount S' (by decide) (by decide) ?_, fun z => absurd rfl z⟩
            rw [wholeR_6, h5]
            exact ⟨fun _ => J265, fun z => absurd rfl z⟩
          unfold wpL_reads_J160
          refine ⟨fun e => ?_, fun _ => J194⟩
          rw [h77 e]
          refine pk_eq R 1 (fun _ => ?_) (fun z => absurd (hr1.mpr h6) z)
          unfold wpL_reads_J178 wpL_reads_J189
          exact ⟨fun z => absurd z hne, fun _ => ⟨fun _ => J194, fun z => absurd rfl z⟩⟩
        · rw [srv_lost (by rw [h1]; omega), h2, show co none = -5 from rfl]
          refine ⟨fun z => absurd z (ne_succ _), fun _ => ?_⟩
          have hne : ¬ (-5 : Int32) = nI (d_bY D a) := fun z => nI_ne5 (by omega) z.symm
          have J265 : wpL_reads_J265 (nI (d_bY D a)) (nI (d_val D a)) (co (lendD D a)) χ' (nI (d_val D a)) (-5) post := by
            unfold wpL_reads_J265
            refine ⟨fun _ => ⟨fun z => absurd z hne, fun _ => qSec S' c ?_⟩, fun z => absurd rfl z⟩
            rw [secR_3, esp, h5]
            exact ⟨fun _ => fin, fun z => absurd rfl z⟩
          have J194 : wpL_reads_J194 (nI (d_bY D a)) (nI (d_val D a)) (nI (stepsD D a)) (d_steps D) (co (lendD D a)) χ' (nI (d_val D a)) (-5) false post := by
            unfold wpL_reads_J194 wpL_reads_J249
            refine ⟨fun z => (by cases z), fun _ => ⟨fun z => absurd z hne, fun _ => ⟨fun _ => qCount S' (by decide) (by decide) ?_, fun z => absurd rfl z⟩⟩⟩
            rw [wholeR_7, h3]
            exact ⟨fun _ => J265, fun z => absurd rfl z⟩
          unfold wpL_reads_J160
          refine ⟨fun e => ?_, fun _ => J194⟩
          rw [h77 e]
          refine pk_eq R 1 (fun _ => ?_) (fun z => absurd (hr1.mpr h4) z)
          unfold wpL_reads_J178 wpL_reads_J189
          exact ⟨fun z => absurd z hne, fun _ => ⟨fun _ => J194, fun z => absurd rfl z⟩⟩
      have J61 : ∀ v : Bool, wpL_reads_J61 χ (nI a) (nI (d_bY D a)) (nI (d_val D a)) (nI (stepsD D a)) (d_steps D) (co (lendD D a)) (d_resc D) post v := by
        intro v
        unfold wpL_reads_J61
        refine ⟨fun e => qLeft S ?_, fun e => J77 v 0 (fun z => by rw [e] at z; cases z)⟩
        rw [adr_lt ha]
        unfold leftR
        rw [if_pos q, if_pos c]
        exact J77 v _ (fun _ => rfl)
      unfold wpL_reads
      refine qAdY S q ?_
      rw [addrR_1, srv_ad q c, show co (some (d_bY D a)) = nI (d_bY D a) from rfl]
      refine qAdY S q ?_
      rw [addrR_0, if_pos c]
      refine qAdY S q ?_
      rw [addrR_4, if_pos c]
      refine qCount S (by decide) (by decide) ?_
      rw [wholeR_7]
      refine qAdY S q ?_
      rw [addrR_3]
      refine qCount S (by decide) (by decide) ?_
      rw [wholeR_8]
      exact kL_low (m := 7) (by omega) (by omega) (fun k hk => pk_eq k 0 (fun _ => J61 true) (fun _ => J61 false))
    · have er : readR D a = (-4, D) := by unfold readR; rw [if_pos q, if_neg c]
      have J77 : ∀ (v61 : Bool) (v77 r10 r18 r26 r34 r42 : Int32), (v61 = true → v77 = -4) → wpL_reads_J77 χ (nI a) (-5) r10 r18 r26 r34 r42 v61 post v77 := by
        intro v61 v77 r10 r18 r26 r34 r42 h77
        unfold wpL_reads_J77
        refine qReadA S ha (fun _ χ' S' => ?_) (fun z => ?_)
        · rw [er]
          refine ⟨fun z => absurd z (by decide), fun _ => ⟨fun _ => ⟨fun _ => ⟨fun e => ?_, fun _ => K.stay S'⟩, fun z => absurd rfl z⟩, fun z => absurd rfl z⟩⟩
          rw [h77 e]
          exact ⟨fun _ => K.stay S', fun z => absurd rfl z⟩
        · rw [er] at z; exact absurd (show (-4 : Int32) < 0 by decide) z
      unfold wpL_reads
      refine qAdY S q ?_
      rw [addrR_1, srv_lost (Nat.not_lt.mp c), show co none = -5 from rfl]
      refine qAdY S q (qAdY S q (qCount S (by decide) (by decide) (qAdY S q (qCount S (by decide) (by decide) (kL_low (m := 7) (by omega) (by omega) (fun k hk => ?_))))))
      have J61 : ∀ (v : Bool) (r10 r18 r26 r34 r42 : Int32), wpL_reads_J61 χ (nI a) (-5) r10 r18 r26 r34 r42 post v := by
        intro v r10 r18 r26 r34 r42
        unfold wpL_reads_J61
        refine ⟨fun e => qLeft S ?_, fun e => J77 v 0 _ _ _ _ _ (fun z => by rw [e] at z; cases z)⟩
        rw [adr_lt ha]
        unfold leftR
        rw [if_pos q, if_neg c]
        exact J77 v _ _ _ _ _ _ (fun _ => rfl)
      exact ⟨fun _ => J61 true _ _ _ _ _, fun _ => J61 false _ _ _ _ _⟩
  · have q : isAd (d_sp D) a = false := by simpa using q
    have er : readR D a = (-1, D) := by unfold readR; rw [if_neg (by rw [q]; decide)]
    have J77 : ∀ (v61 : Bool) (v77 r10 r18 r26 r34 r42 : Int32), wpL_reads_J77 χ (nI a) (-1) r10 r18 r26 r34 r42 v61 post v77 := by
      intro v61 v77 r10 r18 r26 r34 r42
      unfold wpL_reads_J77
      refine qReadA S ha (fun _ χ' S' => ?_) (fun z => ?_)
      · rw [er]
        exact ⟨fun _ => ⟨fun _ => K.stay S', fun z => absurd rfl z⟩, fun z => absurd rfl z⟩
      · rw [er] at z; exact absurd (show (-1 : Int32) < 0 by decide) z
    have J61 : ∀ (v : Bool) (r10 r18 r26 r34 r42 : Int32), wpL_reads_J61 χ (nI a) (-1) r10 r18 r26 r34 r42 post v := by
      intro v r10 r18 r26 r34 r42
      unfold wpL_reads_J61
      exact ⟨fun e => qLeft S (J77 v _ _ _ _ _ _), fun e => J77 v 0 _ _ _ _ _⟩
    have hk : a < 2 ^ 31 := by omega
    unfold wpL_reads
    exact qAdN S hk q (qAdN S hk q (qAdN S hk q (qCount S (by decide) (by decide) (qAdN S hk q (qCount S (by decide) (by decide) (kL_low (m := 7) (by omega) (by omega) (fun k _ => ⟨fun _ => J61 true _ _ _ _ _, fun _ => J61 false _ _ _ _ _⟩)))))))
theorem kL_writes (S : SX χ D n H) {a v : Nat} (ha : a < 64) (hv : v < 1000) {post : Bool → XS → Prop} (K : Kp D n H post) : wpL_writes χ (nI a) (nI v) post := by
  have B := S.2.1.1
  have evi : (nI v).toInt = (v : Int) := nI_toInt (by omega)
  have hrange : 0 ≤ (nI v).toInt ∧ (nI v).toInt ≤ 999 := by rw [evi]; omega
  have evn : (nI v).toInt.toNat = v := by rw [evi]; rfl
  by_cases q : isAd (d_sp D) a = true
  · have J85 : ∀ E0, wrAt D a = some E0 → ∀ χ', SX χ' (writeD E0 a v) (recN n) (recH n H D) → wpL_writes_J85 (nI a) (nI v) (d_writes D) χ' (whoD (writeD E0 a v) a) post := by
      intro E0 h0 χ' S'
      have fin : post true χ' := K.go S'
      have f : d_sp E0 = d_sp D ∧ d_writes E0 = d_writes D := by
        unfold wrAt at h0
        by_cases c : d_bY D a < 64
        · rw [if_pos c] at h0; cases h0; exact ⟨rfl, rfl⟩
        · rw [if_neg c] at h0
          cases e : lendD D a with
          | none => rw [e] at h0; cases h0
          | some x => rw [e] at h0; cases h0; simp only [a_by]; exact ⟨trivial, trivial⟩
      have esp : d_sp (writeD E0 a v) = d_sp D := by
        unfold writeD; rw [look_sp]; simp only [a_setWrites, a_setVal, a_wear, a_go]; exact f.1
      have ewr : d_writes (writeD E0 a v) = d_writes D + 1 := by
        unfold writeD; rw [look_writes]; simp only [a_setWrites]; rw [f.2]
      have eva : d_val (writeD E0 a v) a = v := by
        unfold writeD; rw [look_val]; simp only [a_setWrites, a_setVal]; exact up_eq _ _ _
      generalize writeD E0 a v = E at S' esp ewr eva
      have q' : isAd (d_sp E) a = true := by rw [esp]; exact q
      unfold wpL_writes_J85
      refine qAdY S' q' ?_
      rw [addrR_1]
      refine qCount S' (by decide) (by decide) ?_
      rw [wholeR_11, ewr]
      refine ⟨fun _ => ?_, fun z => absurd rfl z⟩
      unfold whoD
      by_cases c : d_bY E a < 64
      · rw [srv_ad q' c, if_pos c, show co (some (d_bY E a)) = nI (d_bY E a) from rfl]
        refine ⟨fun _ => ⟨fun _ => qAdY S' q' ?_, fun z => absurd rfl z⟩, fun z => absurd (nI_pos' (by omega)) z⟩
        rw [addrR_0, if_pos c, eva]
        exact ⟨fun _ => fin, fun z => absurd rfl z⟩
      · rw [srv_lost (Nat.not_lt.mp c), if_neg c, show co none = -5 from rfl]
        exact ⟨fun z => absurd z (by decide), fun _ => ⟨fun _ => fin, fun z => absurd rfl z⟩⟩
    unfold wpL_writes
    refine qAdY S q ?_
    rw [addrR_1]
    refine qAdY S q ?_
    rw [addrR_3]
    refine qCount S (by decide) (by decide) ?_
    rw [wholeR_11]
    have er : writeR D a (nI v) = (match wrAt D a with
        | some E => (whoD (writeD E a v) a, writeD E a v)
        | none => (-4, D)) := by
      unfold writeR; rw [if_pos q, if_pos hrange, evn]
      cases wrAt D a <;> rfl
    cases e0 : wrAt D a with
    | some E0 =>
      rw [e0] at er
      have er : writeR D a (nI v) = (whoD (writeD E0 a v) a, writeD E0 a v) := er
      refine qWriteA S ha (fun z => ?_) (fun _ χ' S' => ?_)
      · rw [er] at z; exact absurd z (who_pos _ _)
      rw [er] at S' ⊢
      have J := J85 E0 e0 χ' S'
      by_cases c : d_bY D a < 64
      · rw [srv_ad q c, show co (some (d_bY D a)) = nI (d_bY D a) from rfl]
        exact ⟨fun z => absurd z (nI_m1 (by omega)), fun _ => ⟨fun z => absurd z (nI_ne5 (by omega)), fun _ => J⟩⟩
      · rw [srv_lost (Nat.not_lt.mp c), show co none = -5 from rfl]
        refine ⟨fun z => absurd z (by decide), fun _ => ⟨fun _ => ⟨fun z => ?_, fun _ => J⟩, fun z => absurd rfl z⟩⟩
        unfold wrAt at e0
        rw [if_neg c] at e0
        cases el : lendD D a with
        | none => rw [el] at e0; cases e0
        | some x =>
          rw [el] at z
          exact absurd z (co_ne (by have := (lend_free ha el).1; omega))
    | none =>
      rw [e0] at er
      have er : writeR D a (nI v) = (-4, D) := er
      have hl : ¬ d_bY D a < 64 ∧ lendD D a = none := by
        unfold wrAt at e0
        by_cases c : d_bY D a < 64
        · rw [if_pos c] at e0; cases e0
        · rw [if_neg c] at e0
          refine ⟨c, ?_⟩
          cases el : lendD D a with
          | none => rfl
          | some x => rw [el] at e0; cases e0
      refine qWriteA S ha (fun _ χ' S' => ?_) (fun z => ?_)
      · rw [er, srv_lost (Nat.not_lt.mp hl.1), hl.2, show co none = -5 from rfl]
        refine ⟨fun z => absurd z (by decide), fun _ => ⟨fun _ => ⟨fun _ => ⟨fun _ => qCount S' (by decide) (by decide) ?_, fun z => absurd rfl z⟩, fun z => absurd rfl z⟩, fun z => absurd rfl z⟩⟩
        rw [wholeR_11]
        exact ⟨fun _ => K.stay S', fun z => absurd rfl z⟩
      · rw [er] at z; exact absurd (show (-4 : Int32) < 0 by decide) z
  · have q : isAd (d_sp D) a = false := by simpa using q
    have er : writeR D a (nI v) = (-1, D) := by unfold writeR; rw [if_neg (by rw [q]; decide)]
    have hk : a < 2 ^ 31 := by omega
    unfold wpL_writes
    refine qAdN S hk q (qAdN S hk q (qCount S (by decide) (by decide) (qWriteA S ha (fun _ χ' S' => ?_) (fun z => ?_))))
    · rw [er]
      exact ⟨fun _ => ⟨fun _ => K.stay S', fun z => absurd rfl z⟩, fun z => absurd rfl z⟩
    · rw [er] at z; exact absurd (show (-1 : Int32) < 0 by decide) z
theorem kL_gives (S : SX χ D n H) {a : Nat} (ha : a < 64) {post : Bool → XS → Prop} (K : Kp D n H post) : wpL_gives χ (nI a) post := by
  have B := S.2.1.1
  have p5 : ¬ (0 : Int32) ≤ -5 := by decide
  by_cases q : isAd (d_sp D) a = true
  · unfold wpL_gives
    refine qAdY S q ?_
    rw [addrR_1]
    by_cases c : d_bY D a < 64
    · rw [srv_ad q c, show co (some (d_bY D a)) = nI (d_bY D a) from rfl]
      by_cases c1 : d_bY D a = a
      · have er : backR D a = (-5, D) := by unfold backR; rw [if_pos q, if_neg (fun z => z.2 c1)]
        refine qBackA S ha (fun _ χ' S' => ?_) (fun z => ?_)
        · rw [er, c1]
          exact ⟨fun _ => ⟨fun _ => ⟨fun _ => K.stay S', fun z => absurd rfl z⟩, fun z => absurd rfl z⟩, fun z => absurd (nI_pos' (by omega)) z⟩
        · rw [er] at z; exact absurd (show (-5 : Int32) < 0 by decide) z
      · have hne : ¬ nI (d_bY D a) = nI a := fun z => c1 (nI_inj (by omega) (by omega) z)
        by_cases c2 : d_wear D a < d_lim D ∧ d_giv D (a / 16) = false
        · have er : backR D a = (nI (d_bY D a), byD (wearD (moveD (goD D a) a) a 2) a a) := by unfold backR; rw [if_pos q, if_pos ⟨c, c1⟩, if_pos c2]
          refine qBackA S ha (fun z => ?_) (fun _ χ' S' => ?_)
          · rw [er] at z; exact absurd z (nI_pos (by omega))
          rw [er] at S' ⊢
          have fin : post true χ' := K.go S'
          have S' : SX χ' (byD (wearD (moveD (goD D a) a) a 2) a a) (recN n) (recH n H D) := S'
          have f : d_sp (byD (wearD (moveD (goD D a) a) a 2) a a) = d_sp D ∧ d_bY (byD (wearD (moveD (goD D a) a) a 2) a a) = va_up (d_bY D) a a ∧ d_arm (byD (wearD (moveD (goD D a) a) a 2) a a) = a := by
            simp only [a_by, a_wear, a_move, a_go]
            exact ⟨trivial, trivial, trivial⟩
          generalize byD (wearD (moveD (goD D a) a) a 2) a a = E at S' f
          obtain ⟨f1, f2, f3⟩ := f
          have q' : isAd (d_sp E) a = true := by rw [f1]; exact q
          rw [nI_pm (k := a) (by omega), nI_pd (k := a) (by omega)]
          refine ⟨fun _ => ⟨fun z => absurd z hne, fun _ => ⟨fun _ => qAdY S' q' ?_, fun z => absurd rfl z⟩⟩, fun z => absurd (nI_pos' (by omega)) z⟩
          rw [addrR_1, srv_ad q' (by rw [f2, up_eq]; exact ha), f2, up_eq]
          refine ⟨fun _ => qSec S' c ?_, fun z => absurd rfl z⟩
          rw [secR_3, f1, f2, cli_gone B.inj q c (fun z => c1 z.symm)]
          refine ⟨fun _ => qCount S' (by decide) (by decide) ?_, fun z => absurd rfl z⟩
          rw [wholeR_5, f3]
          refine ⟨fun _ => qCount S' (by decide) (by decide) ?_, fun z => absurd rfl z⟩
          rw [wholeR_6, f3]
          exact ⟨fun _ => fin, fun z => absurd rfl z⟩
        · have er : backR D a = (-4, D) := by unfold backR; rw [if_pos q, if_pos ⟨c, c1⟩, if_neg c2]
          refine qBackA S ha (fun _ χ' S' => ?_) (fun z => ?_)
          · have n4 : ¬ (-4 : Int32) = nI (d_bY D a) := fun z => nI_nn (by omega) (show (-4 : Int32) < 0 by decide) z.symm
            rw [er, nI_pd (k := a) (by omega)]
            refine ⟨fun _ => ⟨fun z => absurd z hne, fun _ => ⟨fun z => absurd z n4, fun _ => ⟨fun _ => qSec S' ha ?_, fun z => absurd rfl z⟩⟩⟩, fun z => absurd (nI_pos' (by omega)) z⟩
            rw [secR_1]
            have hg := gradeN_le D a
            refine pk_lt 0 (gradeN D a) (fun _ => K.stay S') (fun z => qHead S' (by omega) ?_)
            rw [headR_3]
            have e : d_giv D (a / 16) = true := by
              cases w : d_giv D (a / 16) with
              | true => rfl
              | false => exact absurd ⟨grade_0.mp (by omega), w⟩ c2
            rw [e]
            exact ⟨fun _ => K.stay S', fun z => absurd rfl z⟩
          · rw [er] at z; exact absurd (show (-4 : Int32) < 0 by decide) z
    · have er : backR D a = (-5, D) := by unfold backR; rw [if_pos q, if_neg (fun z => c z.1)]
      rw [srv_lost (Nat.not_lt.mp c), show co none = -5 from rfl]
      refine qBackA S ha (fun _ χ' S' => ?_) (fun z => ?_)
      · rw [er]
        unfold wpL_gives_J29
        exact ⟨fun z => absurd z p5, fun _ => ⟨fun z => absurd z (by decide), fun _ => ⟨fun _ => K.stay S', fun z => absurd rfl z⟩⟩⟩
      · rw [er] at z; exact absurd (show (-5 : Int32) < 0 by decide) z
  · have q : isAd (d_sp D) a = false := by simpa using q
    have er : backR D a = (-1, D) := by unfold backR; rw [if_neg (by rw [q]; decide)]
    unfold wpL_gives
    refine qAdN S (by omega) q (qBackA S ha (fun _ χ' S' => ?_) (fun z => ?_))
    · rw [er]
      unfold wpL_gives_J29
      exact ⟨fun z => absurd z (by decide), fun _ => ⟨fun _ => ⟨fun _ => K.stay S', fun z => absurd rfl z⟩, fun z => absurd rfl z⟩⟩
    · rw [er] at z; exact absurd (show (-1 : Int32) < 0 by decide) z
end LB
