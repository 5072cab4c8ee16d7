/-! an act, as both sides do it: what r says is answered, and r.2 is what comes if it isn't an error -/
def mS (μ : MO) (gs gp g' : Nat → Int32) : MO := (g', gs, gp, mo_slot μ, mo_history μ, mo_text μ, mo_kept μ, mo_length μ, mo_isFilled μ, mo_at μ)
def mR (μ : MO) (gs gp g' : Nat → Int32) (ρ : RK) : MO := (g', gs, gp, mo_slot μ, rk_history ρ, mo_text μ, rk_kept ρ, mo_length μ, mo_isFilled μ, mo_at μ)
def MAct (μ : MO) (D : DS) (n : Nat) (H : Nat → DS) (r : Int32 × DS) (post : Int32 → MO → Prop) : Prop := (r.1 < 0 → ∀ gs gp g', RelM D g' → post r.1 (mS μ gs gp g')) ∧ (¬ r.1 < 0 → ∀ gs gp g' ρ, RelM r.2 g' → HistM (rk_history ρ) (rk_kept ρ) (recN n) (recH n H D) → post r.1 (mR μ gs gp g' ρ))
def cR (χ : XS) (σt σ' : HS) (η' : HI) : XS := (σ', σt, xs_kept χ, η', xs_text χ, xs_hasKept χ)
def CAct (χ : XS) (D : DS) (n : Nat) (H : Nat → DS) (r : Int32 × DS) (post : Int32 → XS → Prop) : Prop := (r.1 < 0 → ∀ σt, post r.1 (xs_setTrial χ σt)) ∧ (¬ r.1 < 0 → ∀ σt σ' η', RelC r.2 σ' → HistC η' (recN n) (recH n H D) → post r.1 (cR χ σt σ' η'))
def Pre (χ : XS) (μ : MO) (i : Nat) (D : DS) (n : Nat) (H : Nat → DS) : Prop := RelC D (xs_now χ) ∧ RelM D (mo_now μ) ∧ Ok i D ∧ n ≤ 4 ∧ HistC (xs_history χ) n H ∧ HistM (mo_history μ) (mo_kept μ) n H ∧ (∀ j, j < n → Ok i (H j)) ∧ SimK i (xs_hasKept χ) (xs_kept χ) (mo_isFilled μ) (mo_slot μ) ∧ SimT (xs_text χ) (mo_text μ) (mo_length μ)
theorem Sim.pre {χ : XS} {μ : MO} {i : Nat} (S : Sim χ μ i) : ∃ D n H, Pre χ μ i D n H := by
  obtain ⟨⟨D, a, b, c⟩, ⟨n, H, d, e, f, g⟩, h, k⟩ := S
  exact ⟨D, n, H, a, b, c, d, e, f, g, h, k⟩
theorem Pre.act {χ : XS} {μ : MO} {i : Nat} {D : DS} {n : Nat} {H : Nat → DS} (P : Pre χ μ i D n H) {r : Int32 × DS} (oE : ¬ r.1 < 0 → Ok (i + 1) r.2) {W : (Int32 → MO → Prop) → Prop} (hM : ∀ post, MAct μ D n H r post → W post) : CAct χ D n H r (fun a χ' => W (fun a' μ' => a = a' ∧ Sim χ' μ' (i + 1))) := by
  obtain ⟨RC, RM, O, hn, HC, HM, hH, K, T⟩ := P
  refine ⟨fun q σt => hM _ ⟨fun _ gs gp g' R' => ⟨rfl, ?_⟩, fun z => absurd q z⟩, fun q σt σ' η' R' Q' => hM _ ⟨fun z => absurd z q, fun _ gs gp g' ρ R2 Q2 => ⟨rfl, ?_⟩⟩⟩
  · exact ⟨⟨D, RC, R', O.up⟩, ⟨n, H, hn, HC, HM, fun j hj => (hH j hj).up⟩, K.up, T⟩
  · exact ⟨⟨r.2, R', R2, oE q⟩, ⟨recN n, recH n H D, recN_le hn, Q', Q2, recH_all hn (fun j hj => (hH j hj).up) O.up⟩, K.up, T⟩
section AC
variable {χ : XS} {D : DS} {n : Nat} {H : Nat → DS}
theorem kC_end (hn : n ≤ 4) (HC : HistC (xs_history χ) n H) (RC : RelC D (xs_now χ)) {r : Int32 × DS} {post : Int32 → XS → Prop} (h : CAct χ D n H r post) {σt σ2 : HS} (R2 : ¬ r.1 < 0 → RelC r.2 σ2) : wpX3_settle (xs_setTrial (xs_setTrial χ σt) σ2) r.1 post := by
  refine kC_settle (χ := xs_setTrial (xs_setTrial χ σt) σ2) (E := r.2) hn HC RC (fun q => h.1 q σ2) R2 (fun q η' σ' Q' R' => h.2 q σ2 σ' η' R' Q')
end AC
/-! how far the arm has come -/
def Gr (k : Nat) (D E : DS) : Prop := ∃ d, d ≤ k ∧ d_steps E = d_steps D + nI d
theorem Gr.rfl {D : DS} {k : Nat} : Gr k D D := ⟨0, Nat.zero_le _, (Int32.add_zero _).symm⟩
theorem Gr.of {D E : DS} {k d : Nat} (h : d ≤ k) (e : d_steps E = d_steps D + nI d) : Gr k D E := ⟨d, h, e⟩
theorem Gr.same {D E : DS} {k : Nat} (e : d_steps E = d_steps D) : Gr k D E := ⟨0, Nat.zero_le _, e.trans (Int32.add_zero _).symm⟩
theorem Gr.trans {D E F : DS} {k l : Nat} (h1 : Gr k D E) (h2 : Gr l E F) : Gr (k + l) D F := by
  obtain ⟨a, ha, e1⟩ := h1
  obtain ⟨b, hb, e2⟩ := h2
  exact ⟨a + b, by omega, by rw [e2, e1, Int32.add_assoc, nI_add]⟩
theorem Gr.le {D E : DS} {k l : Nat} (h : Gr k D E) (hl : k ≤ l) : Gr l D E := by
  obtain ⟨d, hd, e⟩ := h
  exact ⟨d, by omega, e⟩
theorem Ok.to {i : Nat} {D E : DS} (O : Ok i D) (I : Inv E) {k : Nat} (g : Gr k D E) (hk : k ≤ 2000) : Ok (i + 1) E := by
  obtain ⟨-, st, e, l⟩ := O
  obtain ⟨d, hd, e2⟩ := g
  exact ⟨I, st + d, by rw [e2, e, nI_add], by omega⟩
theorem stepsD_le (D : DS) (a : Nat) : stepsD D a ≤ 34 := by
  unfold stepsD
  have h1 := apart_le (d_arm D) (d_bY D a)
  have h2 := apart_le (d_arm D) a
  have h3 := apart_le a (d_bY D a)
  split <;> omega
theorem gr_look (D : DS) (a : Nat) : Gr 17 D (lookD D a) := by
  unfold lookD
  by_cases c : d_wear D (d_bY D a) < d_lim D
  · rw [if_pos c]; exact Gr.rfl
  · rw [if_neg c]
    cases lendD D a with
    | some x => exact Gr.of (apart_le (d_arm D) x) (by simp only [a_resc])
    | none =>
      show Gr 17 D (if 2 * d_lim D ≤ d_wear D (d_bY D a) then loseD D a else D)
      by_cases c2 : 2 * d_lim D ≤ d_wear D (d_bY D a)
      · rw [if_pos c2]; exact Gr.same (by simp only [a_lose])
      · rw [if_neg c2]; exact Gr.rfl
theorem gr_go (D : DS) (a : Nat) : Gr 34 D (goD D a) := Gr.of (stepsD_le D a) (by simp only [a_go])
theorem gr_read (D : DS) (a : Nat) : Gr 51 D (readR D a).2 := by
  unfold readR
  by_cases c : isAd (d_sp D) a = true
  · rw [if_pos c]
    by_cases c2 : d_bY D a < 64
    · rw [if_pos c2]
      show Gr 51 D (readD D a)
      unfold readD
      refine Gr.trans (k := 34) (l := 17) (E := d_setReads (wearD (goD D a) (d_bY D a) 1) (d_reads D + 1)) ?_ (gr_look _ a)
      exact Gr.of (stepsD_le D a) (by simp only [a_setReads, a_wear, a_go])
    · rw [if_neg c2]; exact Gr.rfl
  · rw [if_neg c]; exact Gr.rfl
theorem gr_wr {D : DS} {a n : Nat} : Gr 51 D (writeD D a n) := by
  unfold writeD
  refine Gr.trans (k := 34) (l := 17) (E := d_setWrites (d_setVal (wearD (goD D a) (d_bY D a) 2) (va_up (d_val D) a n)) (d_writes D + 1)) ?_ (gr_look _ a)
  exact Gr.of (stepsD_le D a) (by simp only [a_setWrites, a_setVal, a_wear, a_go])
theorem gr_write (D : DS) (a : Nat) (v : Int32) : Gr 51 D (writeR D a v).2 := by
  unfold writeR
  by_cases c : isAd (d_sp D) a = true
  · rw [if_pos c]
    by_cases c2 : 0 ≤ v.toInt ∧ v.toInt ≤ 999
    · rw [if_pos c2]
      cases e : wrAt D a with
      | none => exact Gr.rfl
      | some E =>
        show Gr 51 D (writeD E a v.toInt.toNat)
        have g : Gr 0 D E := by
          unfold wrAt at e
          by_cases c3 : d_bY D a < 64
          · rw [if_pos c3] at e; cases e; exact Gr.rfl
          · rw [if_neg c3] at e
            cases e2 : lendD D a with
            | none => rw [e2] at e; cases e
            | some x => rw [e2] at e; cases e; exact Gr.same (by simp only [a_by])
        exact (g.trans gr_wr).le (by omega)
    · rw [if_neg c2]; exact Gr.rfl
  · rw [if_neg c]; exact Gr.rfl
theorem gr_pair {D E : DS} {f t : Nat} (h : pairD D f t = some E) : Gr 102 D E := by
  obtain ⟨-, -, e⟩ := pair_some h
  rw [e]
  exact ((gr_read D f).trans (gr_write _ t _)).le (by omega)
theorem gr_cpy : ∀ {m : Nat} {D : DS} {f t : Nat}, Gr (102 * m) D (cpyD m D f t).2 := by
  intro m
  induction m with
  | zero => intro D f t; exact Gr.rfl
  | succ m ih =>
    intro D f t
    unfold cpyD
    cases e : pairD D f t with
    | none => exact Gr.rfl
    | some E => exact ((gr_pair e).trans ih).le (by omega)
theorem gr_tst {h : Nat} : ∀ {m p : Nat} {D : DS}, Gr (51 * m) D (tstD h m p D) := by
  intro m
  induction m with
  | zero => intro p D; exact Gr.rfl
  | succ m ih => intro p D; exact ((gr_read D _).trans ih).le (by omega)
theorem gr_mv (D : DS) (a : Nat) : Gr 0 D (mvD D a) := by
  unfold mvD
  cases lendD D a with
  | some x => exact Gr.same (by show d_steps (wearD (byD D a x) x 2) = _; simp only [a_wear, a_by])
  | none => exact Gr.same (by show d_steps (loseD D a) = _; simp only [a_lose])
theorem gr_vac {h : Nat} : ∀ {m a : Nat} {D : DS}, Gr 0 D (vacL h m a D) := by
  intro m
  induction m with
  | zero => intro a D; exact Gr.rfl
  | succ m ih =>
    intro a D
    unfold vacL
    by_cases c : isAd (d_sp D) a = true ∧ d_bY D a < 64 ∧ d_bY D a / 16 = h
    · rw [if_pos c]; exact (gr_mv D a).trans ih
    · rw [if_neg c]; exact ih
/-! reading and writing -/
theorem lt_neg {v : Nat} (h : v < 2 ^ 31) : ¬ nI v < 0 := nI_lt0 h
theorem rR_neg {D : DS} (B : Bw D) {a : Nat} (h : (readR D a).1 < 0) : (readR D a).2 = D := by
  unfold readR at h ⊢
  by_cases c : isAd (d_sp D) a = true
  · rw [if_pos c] at h ⊢
    by_cases c2 : d_bY D a < 64
    · rw [if_pos c2] at h
      have := B.val a (isAd_lt c)
      exact absurd h (lt_neg (by omega))
    · rw [if_neg c2]
  · rw [if_neg c]
theorem who_pos (D : DS) (a : Nat) : ¬ whoD D a < 0 := by
  unfold whoD
  by_cases c : d_bY D a < 64
  · rw [if_pos c]; exact lt_neg (by omega)
  · rw [if_neg c]; decide
theorem wR_neg {D : DS} {a : Nat} {v : Int32} (h : (writeR D a v).1 < 0) : (writeR D a v).2 = D := by
  unfold writeR at h ⊢
  by_cases c : isAd (d_sp D) a = true
  · rw [if_pos c] at h ⊢
    by_cases c2 : 0 ≤ v.toInt ∧ v.toInt ≤ 999
    · rw [if_pos c2] at h ⊢
      cases e : wrAt D a with
      | none => rfl
      | some E => rw [e] at h; exact absurd h (who_pos _ _)
    · rw [if_neg c2]
  · rw [if_neg c]
section MA
variable {μ : MO} {D : DS} {n : Nat} {H : Nat → DS}
theorem kM_read (RM : RelM D (mo_now μ)) (I : Inv D) (hn : n ≤ 4) (HM : HistM (mo_history μ) (mo_kept μ) n H) {x : Int32} {post : Int32 → MO → Prop} (h : MAct μ D n H (readR D (adr x)) post) : wpX4_read μ x post := by
  unfold wpX4_read
  refine kM_copyD RM (fun gs Rs => kM_reads (D := D) (μ := mo_setSpare μ gs) RM I (fun g' R' => ⟨fun q => ?_, fun q => ?_⟩))
  · have e := rR_neg I.1.1 q
    rw [e] at R'
    exact h.1 q gs (mo_pair μ) g' R'
  · exact kM_record (f := gs) (hist := mo_history μ) (kept := mo_kept μ) hn HM Rs (fun ρ Q => h.2 q gs (mo_pair μ) g' ρ R' Q)
theorem kM_write (RM : RelM D (mo_now μ)) (I : Inv D) (hn : n ≤ 4) (HM : HistM (mo_history μ) (mo_kept μ) n H) {x v : Int32} {post : Int32 → MO → Prop} (h : MAct μ D n H (writeR D (adr x) v) post) : wpX4_write μ x v post := by
  unfold wpX4_write
  refine kM_copyD RM (fun gs Rs => kM_writes (D := D) (μ := mo_setSpare μ gs) RM I (fun g' R' => ⟨fun q => ?_, fun q => ?_⟩))
  · have e := wR_neg q
    rw [e] at R'
    exact h.1 q gs (mo_pair μ) g' R'
  · exact kM_record (f := gs) (hist := mo_history μ) (kept := mo_kept μ) hn HM Rs (fun ρ Q => h.2 q gs (mo_pair μ) g' ρ R' Q)
end MA
theorem sim_read : ok_read Sim := by
  intro χ μ i hi S x
  obtain ⟨D, n, H, P⟩ := S.pre
  have A := P.act (r := readR D (adr x)) (fun _ => P.2.2.1.to (P.2.2.1.1.rR _) (gr_read D _) (by omega)) (W := fun post => wpX4_read μ x post) (fun post h => kM_read P.2.1 P.2.2.1.1 P.2.2.2.1 P.2.2.2.2.2.1 h)
  unfold wpX3_read
  exact kC_startTrial P.1 (fun σt Rt => kC_readAt (D := D) Rt P.2.2.1.1 (fun σ2 R2 => kC_end P.2.2.2.1 P.2.2.2.2.1 P.1 A (fun _ => R2)))
theorem sim_write : ok_write Sim := by
  intro χ μ i hi S x v
  obtain ⟨D, n, H, P⟩ := S.pre
  have A := P.act (r := writeR D (adr x) v) (fun _ => P.2.2.1.to (P.2.2.1.1.wR _ _) (gr_write D _ _) (by omega)) (W := fun post => wpX4_write μ x v post) (fun post h => kM_write P.2.1 P.2.2.1.1 P.2.2.2.1 P.2.2.2.2.2.1 h)
  unfold wpX3_write
  exact kC_startTrial P.1 (fun σt Rt => kC_writeAt (D := D) Rt P.2.2.1.1 (fun σ2 R2 => kC_end P.2.2.2.1 P.2.2.2.2.1 P.1 A (fun _ => R2)))
