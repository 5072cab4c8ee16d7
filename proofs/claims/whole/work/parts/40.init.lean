/-! the first state -/
def D0 : DS := (30, 0, fun h => h + 1, fun _ => 4, fun _ => false, fun _ => 0, fun _ => 0, fun s => s, fun _ => 0, 0, 0, 0, 0, 0)
theorem D0_f : d_lim D0 = 30 ∧ d_arm D0 = 0 ∧ d_age D0 = (fun h => h + 1) ∧ d_sp D0 = (fun _ => 4) ∧ d_giv D0 = (fun _ => false) ∧ d_wear D0 = (fun _ => 0) ∧ d_val D0 = (fun _ => 0) ∧ d_bY D0 = (fun s => s) ∧ d_rof D0 = (fun _ => 0) ∧ d_steps D0 = 0 ∧ d_resc D0 = 0 ∧ d_loss D0 = 0 ∧ d_reads D0 = 0 ∧ d_writes D0 = 0 := ⟨rfl, rfl, rfl, rfl, rfl, rfl, rfl, rfl, rfl, rfl, rfl, rfl, rfl, rfl⟩
theorem D0_inv : Inv D0 := by
  unfold Inv Bd Tg Bw
  simp only [D0_f]
  refine ⟨⟨⟨by omega, by omega, fun h hh => by omega, fun h hh => by omega, fun s hs => by omega, fun s hs => by omega, fun x y _ _ e _ => e⟩, fun a _ _ => ⟨trivial, Or.inl trivial⟩⟩, fun a _ _ => ⟨by omega, Or.inl trivial⟩, fun s _ => Or.inl trivial⟩
theorem isAd4 {s : Nat} (hs : s < 64) : isAd (fun _ => 4) s = decide (s % 16 < 12) := by
  show (decide (s < 64) && !decide (16 ≤ s % 16 + 4)) = _
  rw [decide_eq_true hs]
  by_cases c : s % 16 < 12
  · rw [decide_eq_true c, decide_eq_false (by omega)]; rfl
  · rw [decide_eq_false c, decide_eq_true (by omega)]; rfl
def own (s : Nat) : Option Nat := if s % 16 < 12 then some s else none
theorem srv0 {s : Nat} (hs : s < 64) : srv (fun _ => 4) (fun s => s) s = own s := by
  unfold srv own
  rw [isAd4 hs]
  by_cases c : s % 16 < 12
  · rw [decide_eq_true c, if_pos ⟨rfl, hs⟩, if_pos c]
  · rw [decide_eq_false c, if_neg (by simp), if_neg c]
theorem cli0 {s : Nat} (hs : s < 64) : cli (fun _ => 4) (fun s => s) s = own s := by
  unfold own
  by_cases c : s % 16 < 12
  · rw [if_pos c]
    exact cli_eq (by rw [isAd4 hs, decide_eq_true c]) rfl (fun b _ e => e)
  · rw [if_neg c]
    refine cli_no (fun a ha e => ?_)
    have e : a = s := e
    rw [e, isAd4 hs, decide_eq_false c] at ha
    cases ha
def II (v : Nat) (σ : HS) : Prop := hs_limit σ = nI 30 ∧ hs_arm σ = nI 0 ∧ (∀ j, j < 4 → j < v → hs_ageing σ j = nI (j + 1)) ∧ (∀ j, j < 4 → hs_spares σ j = nI (if j < v then 4 else 0)) ∧ (∀ j, j < 4 → hs_givenUp σ j = bi false) ∧ (∀ s, s < 64 → hs_wear σ s = nI 0) ∧ (∀ s, s < 64 → hs_value σ s = nI 0) ∧ (∀ s, s < 64 → hs_rescuesOf σ s = 0) ∧ (∀ s, s < 64 → s / 16 < v → hs_server σ s = co (own s)) ∧ (∀ s, s < 64 → s / 16 < v → hs_client σ s = co (own s)) ∧ hs_steps σ = 0 ∧ hs_rescues σ = 0 ∧ hs_losses σ = 0 ∧ hs_reads σ = 0 ∧ hs_writes σ = 0
theorem II_D0 {σ : HS} (h : II 4 σ) : RelC D0 σ := by
  obtain ⟨h1, h2, h3, h4, h5, h6, h7, h8, h9, h10, h11⟩ := h
  unfold RelC
  simp only [D0_f]
  refine ⟨h1, h2, fun j hj => h3 j hj hj, fun j hj => ?_, h5, h6, h7, h8, fun s hs => ?_, fun s hs => ?_, h11⟩
  · rw [h4 j hj, if_pos hj]
  · rw [srv0 hs]; exact h9 s hs (by omega)
  · rw [cli0 hs]; exact h10 s hs (by omega)
theorem kC_init {post : HS → Prop} (h : ∀ σ, RelC D0 σ → post σ) : wpX1_init post := by
  have L : ∀ (m v : Nat) (σ : HS), v + m = 4 → II v σ → wpX1_init_L103 post (m + 1) (nI v) σ := by
    intro m
    induction m with
    | zero =>
      intro v σ e I
      rw [wpX1_init_L103]
      have e : v = 4 := e
      rw [e] at I ⊢
      exact pk_le 4 4 (fun _ => h σ (II_D0 I)) (fun q => absurd q (by omega))
    | succ m ih =>
      intro v σ e I
      rw [wpX1_init_L103]
      obtain ⟨h1, h2, h3, h4, h5, h6, h7, h8, h9, h10, h11⟩ := I
      refine pk_le 4 v (fun q => absurd q (by omega)) (fun _ => ⟨pk_in v 4 (by omega), ?_⟩)
      rw [nI_clamp (by omega), nI_1]
      refine kC_divide (σ := hs_setAgeing σ (upd (hs_ageing σ) v (nI (v + 1)))) (sp := fun j => if j < v then 4 else 0) (n := 4) (by omega) (by omega) h4 (fun j hj => by show (if j < v then 4 else 0) ≤ 16; split <;> omega) (fun g0 g1 g2 k0 k1 k2 => ?_)
      have eown : ∀ s, s < 64 → s / 16 = v → (if isAd (va_up (fun j => if j < v then 4 else 0) v 4) s = true then some s else none) = own s := by
        intro s hs hv
        have ea : isAd (va_up (fun j => if j < v then 4 else 0) v 4) s = decide (s % 16 < 12) := by
          unfold isAd isSp
          rw [hv, up_eq, decide_eq_true hs]
          by_cases c : s % 16 < 12
          · rw [decide_eq_true c, decide_eq_false (by omega)]; rfl
          · rw [decide_eq_false c, decide_eq_true (by omega)]; rfl
        rw [ea]
        unfold own
        by_cases c : s % 16 < 12
        · rw [decide_eq_true c, if_pos rfl, if_pos c]
        · rw [decide_eq_false c, if_neg (by simp), if_neg c]
      refine ih (v + 1) _ (by omega) ⟨h1, h2, fun j hj hv => ?_, fun j hj => ?_, h5, h6, h7, h8, fun s hs hv => ?_, fun s hs hv => ?_, h11⟩
      · show upd (hs_ageing σ) v (nI (v + 1)) j = nI (j + 1)
        by_cases c : j = v
        · rw [c, upd_eq]
        · rw [upd_ne _ _ c]; exact h3 j hj (by omega)
      · show g0 j = _
        rw [k0 j hj]
        by_cases c : j = v
        · rw [c, up_eq, if_pos (by omega)]
        · rw [up_ne _ _ c]
          by_cases c2 : j < v
          · rw [if_pos c2, if_pos (by omega)]
          · rw [if_neg c2, if_neg (by omega)]
      · show g1 s = _
        rw [k1 s hs]
        by_cases c : s / 16 = v
        · rw [if_pos c, eown s hs c]
        · rw [if_neg c]; exact h9 s hs (by omega)
      · show g2 s = _
        rw [k2 s hs]
        by_cases c : s / 16 = v
        · rw [if_pos c, eown s hs c]
        · rw [if_neg c]; exact h10 s hs (by omega)
  unfold wpX1_init
  refine ⟨5, L 4 0 _ rfl ⟨rfl, rfl, fun j _ hj => absurd hj (by omega), fun j _ => ?_, fun j _ => rfl, fun s _ => rfl, fun s _ => rfl, fun s _ => rfl, fun s _ hs => absurd hs (by omega), fun s _ hs => absurd hs (by omega), rfl, rfl, rfl, rfl, rfl⟩⟩
  rw [if_neg (by omega)]; rfl
def E0 (v i : Nat) : Int32 := if i = 0 then nI 30 else if 8 ≤ i ∧ i < 8 + v then nI (i - 8 + 1) else if 12 ≤ i ∧ i < 12 + v then nI 4 else 0
theorem kM_init {post : MO → Prop} (h : ∀ g, RelM D0 g → post (mo_setNow mo_0 g)) : wpX4_init post := by
  have L2 : ∀ (m v : Nat) (g : Nat → Int32), v + m = 64 → (∀ i, i < 276 → g i = if 148 ≤ i ∧ i < 148 + v then nI (i - 148) else E0 4 i) → wpX4_init_L102 post (m + 1) (nI v) (mo_setNow mo_0 g) := by
    intro m
    induction m with
    | zero =>
      intro v g e hg
      rw [wpX4_init_L102]
      have e : v = 64 := e
      subst e
      refine pk_le 64 64 (fun _ => h g ?_) (fun q => absurd q (by omega))
      have out : ∀ i, i < 276 → (i < 148 ∨ 212 ≤ i) → g i = E0 4 i := fun i hi ho => by rw [hg i hi, if_neg (by omega)]
      have zero : ∀ i, i < 276 → (i < 148 ∨ 212 ≤ i) → 1 ≤ i → ¬ (8 ≤ i ∧ i < 16) → g i = 0 := fun i hi ho h1 h2 => by
        rw [out i hi ho]; unfold E0; rw [if_neg (by omega), if_neg (by omega), if_neg (by omega)]
      unfold RelM
      simp only [D0_f]
      refine ⟨?_, zero 1 (by omega) (by omega) (by omega) (by omega), zero 2 (by omega) (by omega) (by omega) (by omega), zero 3 (by omega) (by omega) (by omega) (by omega), zero 4 (by omega) (by omega) (by omega) (by omega), zero 5 (by omega) (by omega) (by omega) (by omega), zero 6 (by omega) (by omega) (by omega) (by omega), zero 7 (by omega) (by omega) (by omega) (by omega), fun s hs => ?_, fun s hs => ?_, fun s hs => zero (16 + s) (by omega) (by omega) (by omega) (by omega), fun s hs => zero (20 + s) (by omega) (by omega) (by omega) (by omega), fun s hs => zero (84 + s) (by omega) (by omega) (by omega) (by omega), fun s hs => ?_, fun s hs => zero (212 + s) (by omega) (by omega) (by omega) (by omega)⟩
      · rw [out 0 (by omega) (by omega)]; unfold E0; rw [if_pos rfl]
      · rw [out (8 + s) (by omega) (by omega)]; unfold E0
        rw [if_neg (by omega), if_pos (by omega), show 8 + s - 8 + 1 = s + 1 by omega]
      · rw [out (12 + s) (by omega) (by omega)]; unfold E0
        rw [if_neg (by omega), if_neg (by omega), if_pos (by omega)]
      · rw [hg (148 + s) (by omega), if_pos (by omega), show 148 + s - 148 = s by omega, wh_lt hs]
    | succ m ih =>
      intro v g e hg
      rw [wpX4_init_L102]
      refine pk_le 64 v (fun q => absurd q (by omega)) (fun _ => ⟨in148 (by omega), ?_⟩)
      rw [cl148 (by omega), now_set, set_set, nI_1]
      refine ih (v + 1) _ (by omega) (fun i hi => ?_)
      by_cases c : i = 148 + v
      · rw [c, upd_eq, if_pos (by omega), show 148 + v - 148 = v by omega]
      · rw [upd_ne _ _ c, hg i hi]
        by_cases c2 : 148 ≤ i ∧ i < 148 + v
        · rw [if_pos c2, if_pos (by omega)]
        · rw [if_neg c2, if_neg (by omega)]
  have L : ∀ (m v : Nat) (g : Nat → Int32), v + m = 4 → (∀ i, i < 276 → g i = E0 v i) → wpX4_init_L67 post (m + 1) (nI v) (mo_setNow mo_0 g) := by
    intro m
    induction m with
    | zero =>
      intro v g e hg
      rw [wpX4_init_L67]
      have e : v = 4 := e
      subst e
      exact pk_le 4 4 (fun _ => ⟨65, L2 64 0 g rfl (fun i hi => by rw [if_neg (by omega)]; exact hg i hi)⟩) (fun q => absurd q (by omega))
    | succ m ih =>
      intro v g e hg
      rw [wpX4_init_L67]
      refine pk_le 4 v (fun q => absurd q (by omega)) (fun _ => ⟨in8 (by omega), in12 (by omega), ?_⟩)
      rw [cl8 (by omega), cl12 (by omega), now_set, set_set, set_set, nI_1]
      refine ih (v + 1) _ (by omega) (fun i hi => ?_)
      by_cases c : i = 12 + v
      · rw [c, upd_eq]; unfold E0
        rw [if_neg (by omega), if_neg (by omega), if_pos (by omega)]; rfl
      · rw [upd_ne _ _ c]
        by_cases c2 : i = 8 + v
        · rw [c2, upd_eq]; unfold E0
          rw [if_neg (by omega), if_pos (by omega), show 8 + v - 8 + 1 = v + 1 by omega]
        · rw [upd_ne _ _ c2, hg i hi]
          unfold E0
          by_cases q0 : i = 0
          · rw [if_pos q0, if_pos q0]
          · rw [if_neg q0, if_neg q0]
            by_cases q1 : 8 ≤ i ∧ i < 8 + v
            · rw [if_pos q1, if_pos (by omega)]
            · rw [if_neg q1, if_neg (show ¬ (8 ≤ i ∧ i < 8 + (v + 1)) by omega)]
              by_cases q2 : 12 ≤ i ∧ i < 12 + v
              · rw [if_pos q2, if_pos (by omega)]
              · rw [if_neg q2, if_neg (by omega)]
  unfold wpX4_init
  refine ⟨in_0, 5, L 4 0 _ rfl (fun i hi => ?_)⟩
  rw [c_0]
  unfold E0
  by_cases c : i = 0
  · rw [c, upd_eq, if_pos rfl]; rfl
  · rw [upd_ne _ _ c, if_neg c, if_neg (by omega), if_neg (by omega)]; rfl
theorem sim_init : wpX3_init (fun χ => wpX4_init (fun μ => Sim χ μ 0)) := by
  unfold wpX3_init wpX2_init wpX0_init
  refine kC_init (fun σ0 R0 => kC_init (fun σ1 R1 => kC_init (fun σ2 R2 => kC_init (fun σ3 R3 => kC_init (fun σ4 R4 => kC_init (fun σ5 R5 => kC_init (fun σ6 R6 => kM_init (fun g Rg => ?_))))))))
  refine ⟨⟨D0, R0, Rg, D0_inv, 0, rfl, Nat.zero_le _⟩, ⟨0, fun _ => D0, by omega, ⟨rfl, 0, by omega, rfl, fun j hj => absurd hj (by omega)⟩, ⟨rfl, fun j hj => absurd hj (by omega)⟩, fun j hj => absurd hj (by omega)⟩, ⟨false, rfl, rfl, fun z => (by cases z)⟩, 0, by omega, rfl, rfl, fun j hj => absurd hj (by omega)⟩
theorem sim_law : LawOK Sim := ⟨sim_init, fun _ _ _ S => S.up, sim_setLimit, sim_setHead, sim_read, sim_write, sim_copy, sim_test, sim_perform, sim_giveBack, sim_giveUp, sim_type, sim_clearText, sim_undo, sim_keep, sim_restore, sim_address, sim_sector, sim_head, sim_readsLeft, sim_wouldLose, sim_worst, sim_count⟩
