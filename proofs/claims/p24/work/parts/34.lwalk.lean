/-! the law, from its first call to its end -/
theorem qRestore0 {χ : XS} (h : xs_hasKept χ = 0) {post : Int32 → XS → Prop} (hp : post (-5) χ) : wpX3_restore χ post := by
  unfold wpX3_restore
  exact ⟨fun _ => hp, fun z => absurd h z⟩
theorem x0_peek {τ : CT} (h1 : ct_length τ = 0) (h2 : ct_at τ = 0) {post : Int32 → Prop} (hp : post (-1)) : wpX0_peek τ post := by
  unfold wpX0_peek
  rw [h1, h2]
  exact ⟨fun _ => hp, fun z => absurd (by decide) z⟩
theorem x0_take {τ : CT} (h1 : ct_length τ = 0) (h2 : ct_at τ = 0) {p0 : Int32} (hn : ¬ (-1 : Int32) = p0) {post : Bool → CT → Prop} (hp : post false τ) : wpX0_take τ p0 post := by
  unfold wpX0_take
  exact x0_peek h1 h2 ⟨fun z => absurd z hn, fun _ => hp⟩
theorem x0_parse {τ : CT} (h1 : ct_length τ = 0) {post : Int32 → CT → Prop} (hp : ∀ τ', post 0 τ') : wpX0_parse τ post := by
  unfold wpX0_parse
  refine ⟨1, ?_⟩
  rw [wpX0_parse_L12]
  refine ⟨fun z => absurd z (by decide), fun _ => ?_⟩
  have e1 : ct_length (ct_setCommands (ct_setAt τ 0) 0) = 0 := h1
  have e2 : ct_at (ct_setCommands (ct_setAt τ 0) 0) = 0 := rfl
  generalize ct_setCommands (ct_setAt τ 0) 0 = τ1 at e1 e2
  unfold wpX0_takeCommand
  refine x0_take e1 e2 (by decide) ⟨fun z => (by cases z), fun _ => ?_⟩
  refine x0_take e1 e2 (by decide) ⟨fun z => (by cases z), fun _ => ⟨fun z => (by cases z), fun _ => ?_⟩⟩
  rw [e2]
  exact hp _
theorem qPerform0 {χ : XS} (h : ct_length (xs_text χ) = 0) {post : Int32 → XS → Prop} (hp : ∀ τ', post (-100) (xs_setText χ τ')) : wpX3_perform χ post := by
  unfold wpX3_perform
  exact x0_parse h (fun τ' => ⟨fun z => absurd z (by decide), fun _ => hp τ'⟩)
theorem kL_cell {L : Nat} (hL : L ≤ 260) {xs : Nat → Int32} {k : Nat} (hk : k < 2 ^ 31) {post : Int32 → Prop} (h : ∀ v, post v) : wpL_cell L xs (nI k) post := by
  unfold wpL_cell
  exact pk_le (x := Int32.ofNat L) (y := nI k) L k (fun _ => h _) (fun c => ⟨pk_in k L c, h _⟩)
theorem D0_free : cnt (fr D0) 64 0 = 16 := by decide +kernel
theorem D0_ad12 : isAd (d_sp D0) 12 = false := by decide +kernel
theorem D0_rk : cnt (hasRk D0) 64 0 = 48 := by decide +kernel
theorem D0_rank : rankA D0 (nI 48) = -5 := by
  unfold rankA
  rw [fnd_no (fun y _ _ => ?_)]
  · rfl
  · cases e : hasRk D0 y with
    | false => rfl
    | true =>
      have h := rank_lt e
      rw [D0_rk] at h
      rw [decide_eq_false (fun z => by have := nI_inj (by omega) (by omega) z; omega)]; rfl
theorem recH_n {n : Nat} (h : n < 4) {H : Nat → DS} {D : DS} : recH n H D n = D := by
  unfold recH
  rw [if_neg (by omega)]
  exact if_pos rfl
theorem lg_same (x : Int64) : lg_cmp x x = 0 := by simp [lg_cmp]
theorem law_rounds {L : Nat} (hL : L ≤ 260) {xs : Nat → Int32} : ∀ (m e : Nat) (χ : XS) (D : DS) (n : Nat) (H : Nat → DS), 1 ≤ e → e + m = 22 → SX χ D n H → wpL_law_L112 L xs (fun r => r = true) (m + 1) (nI e) χ := by
  intro m
  induction m with
  | zero =>
    intro e χ D n H h1 he S
    rw [wpL_law_L112]
    exact pk_le 22 e (fun _ => rfl) (fun z => absurd z (by omega))
  | succ m ih =>
    intro e χ D n H h1 he S
    have hn := S.2.2.2.1
    rw [wpL_law_L112]
    refine pk_le 22 e (fun z => absurd z (by omega)) (fun _ => ?_)
    rw [nI_2m, show nI (2 * e) - 1 = nI (2 * e - 1) from pk_sub (b := 1) (by omega)]
    refine kL_cell hL (by omega) (fun r124 => kL_cell hL (by omega) (fun r132 => kL_low (m := 12) (by omega) (by omega) (fun s hs => qStates S ?_)))
    have J190 : ∀ (v : Bool) (d : Int64), (v = true → n < 4 ∧ d = dig D) → wpL_law_J190 (nI e) χ r124 r132 (nI s) (nI n) v (fun r => r = true) (wpL_law_L112 L xs (fun r => r = true) (m + 1)) d := by
      intro v d hv
      unfold wpL_law_J190
      refine kL_does S hs (fun χ' E n' G S' st => ?_)
      have go : ∀ (χ2 : XS) (D2 : DS) (n2 : Nat) (H2 : Nat → DS), SX χ2 D2 n2 H2 → wpL_law_L112 L xs (fun r => r = true) (m + 1) (nI e + 1) χ2 := fun χ2 D2 n2 H2 S2 => by
        rw [nI_1]; exact ih (e + 1) χ2 D2 n2 H2 (by omega) (by omega) S2
      refine ⟨fun _ => kL_sectors S' ⟨fun _ => kL_addresses S' ⟨fun _ => kL_worst S' ⟨fun _ => ⟨fun hv1 => ?_, fun _ => go χ' E n' G S'⟩, fun z => (by cases z)⟩, fun z => (by cases z)⟩, fun z => (by cases z)⟩, fun z => (by cases z)⟩
      obtain ⟨hn4, hd⟩ := hv hv1
      have hn' := S'.2.2.2.1
      refine qStates S' (pk_eq n' n (fun _ => go χ' E n' G S') (fun hne => ?_))
      rcases st with ⟨-, st, -⟩ | ⟨st1, st2⟩
      · exact absurd st hne
      · have e1 : n' = n + 1 := by rw [st1]; unfold recN; rw [if_neg (by omega)]
        subst e1
        have eG : G n = D := by rw [st2]; exact recH_n hn4
        refine qUndo S' (by rw [eG]; exact S.2.1) (by rw [eG]; exact S.2.2.1) (fun χ'' S'' => ⟨fun _ => kL_digest S'' ?_, fun z => absurd rfl z⟩)
        rw [eG, hd, lg_same]
        exact ⟨fun _ => go χ'' _ _ _ S'', fun z => absurd rfl z⟩
    have J175 : ∀ v : Bool, (v = true → n < 4) → wpL_law_J175 (nI e) χ r124 r132 (nI s) (nI n) (fun r => r = true) (wpL_law_L112 L xs (fun r => r = true) (m + 1)) v := by
      intro v hv
      unfold wpL_law_J175
      exact ⟨fun z => kL_digest S (J190 v _ (fun _ => ⟨hv z, rfl⟩)), fun z => J190 v 0 (fun y => by rw [z] at y; cases y)⟩
    have J174 : wpL_law_J174 (nI e) χ r124 r132 (nI s) (nI n) (fun r => r = true) (wpL_law_L112 L xs (fun r => r = true) (m + 1)) := by
      unfold wpL_law_J174
      exact J175 false (fun z => by cases z)
    exact ⟨fun _ => pk_le 4 n (fun _ => J174) (fun z => J175 true (fun _ => z)), fun _ => J174⟩
theorem law_first {L : Nat} (hL : L ≤ 260) {xs : Nat → Int32} {χ : XS} {H : Nat → DS} (S : SX χ D0 0 H) (h1 : xs_hasKept χ = 0) (h2 : ct_length (xs_text χ) = 0) : wpL_law L xs χ (fun r => r = true) := by
  unfold wpL_law
  refine qUndo0 S ⟨fun _ => qRestore0 h1 ⟨fun _ => qPerform0 h2 (fun τ' => ⟨fun _ => ?_, fun z => absurd rfl z⟩), fun z => absurd rfl z⟩, fun z => absurd rfl z⟩
  have S : SX (xs_setText χ τ') D0 0 H := S
  generalize xs_setText χ τ' = χ1 at S ⊢
  refine qCount S (by decide) (by decide) ?_
  rw [wholeR_4, D0_free]
  refine ⟨fun _ => qAdN S (k := 12) (by omega) D0_ad12 ⟨fun _ => qWorstN (by decide) ⟨fun _ => qWorst S (r := nI 48) (by decide) ?_, fun z => absurd rfl z⟩, fun z => absurd rfl z⟩, fun z => absurd rfl z⟩
  rw [D0_rank]
  refine ⟨fun _ => qHead4 ⟨fun _ => kL_cell hL (k := 0) (by omega) (fun r91 => kL_low (m := 9) (by omega) (by omega) (fun k hk => ?_)), fun z => absurd rfl z⟩, fun z => absurd rfl z⟩
  have e1 : (3 : Int32) + nI k = nI (3 + k) := nI_add 3 k
  have ei : (nI (3 + k)).toInt = ((3 + k : Nat) : Int) := nI_toInt (by omega)
  have en : (nI (3 + k)).toInt.toNat = 3 + k := by rw [ei]; rfl
  have er : limR D0 (nI (3 + k)) = (nI 30, d_setLim D0 (3 + k)) := by
    unfold limR
    rw [if_pos (by rw [ei]; omega), if_neg (fun z => by have := nI_inj (a := 3 + k) (b := 30) (by omega) (by omega) z; omega), en]
    rfl
  rw [e1]
  refine qSetLimit S ?_
  rw [er]
  refine qAct S (fun _ => ⟨D0_inv.setLim (by omega), S.2.2.1⟩) (fun z => absurd z (nI_pos (show 30 < 2 ^ 31 by omega))) (fun _ χ' S' => ?_)
  exact ⟨fun _ => ⟨22, law_rounds hL 21 1 χ' _ _ _ (by omega) rfl S'⟩, fun z => absurd rfl z⟩
theorem law_init {L : Nat} (hL : L ≤ 260) {xs : Nat → Int32} : wpX3_init (fun χ => wpL_law L xs χ (fun r => r = true)) := by
  unfold wpX3_init wpX2_init wpX0_init
  refine kC_init (fun σ0 R0 => kC_init (fun σ1 R1 => kC_init (fun σ2 R2 => kC_init (fun σ3 R3 => kC_init (fun σ4 R4 => kC_init (fun σ5 R5 => kC_init (fun σ6 R6 => ?_)))))))
  exact law_first hL (H := fun _ => D0) ⟨R0, D0_inv, ⟨0, by omega, rfl⟩, by omega, rfl, 0, by omega, rfl, fun j hj => absurd hj (by omega)⟩ rfl rfl
