/-! copies and histories -/
theorem relM_cong {D : DS} {f g : Nat → Int32} (R : RelM D f) (h : ∀ i, i < 276 → g i = f i) : RelM D g :=
  ⟨(h 0 (by omega)).trans R.lim, (h 1 (by omega)).trans R.a1, (h 2 (by omega)).trans R.a2, (h 3 (by omega)).trans R.steps, (h 4 (by omega)).trans R.resc, (h 5 (by omega)).trans R.loss, (h 6 (by omega)).trans R.reads, (h 7 (by omega)).trans R.writes, fun s hs => (h (8 + s) (by omega)).trans (R.age s hs), fun s hs => (h (12 + s) (by omega)).trans (R.sp s hs), fun s hs => (h (16 + s) (by omega)).trans (R.giv s hs), fun s hs => (h (20 + s) (by omega)).trans (R.wear s hs), fun s hs => (h (84 + s) (by omega)).trans (R.val s hs), fun s hs => (h (148 + s) (by omega)).trans (R.bY s hs), fun s hs => (h (212 + s) (by omega)).trans (R.rof s hs)⟩
theorem kM_copies {f g : Nat → Int32} {post : (Nat → Int32) → Prop} (h : ∀ g', (∀ i, i < 276 → g' i = f i) → post g') : wpX4_copies f g post := by
  have L : ∀ (m i : Nat) (g1 : Nat → Int32), i + m = 276 → (∀ j, j < i → g1 j = f j) → wpX4_copies_L2 f post (m + 1) (nI i) g1 := by
    intro m
    induction m with
    | zero =>
      intro i g1 e hg
      rw [wpX4_copies_L2]
      exact pk_le 276 i (fun _ => h g1 (fun j hj => hg j (by omega))) (fun q => absurd q (by omega))
    | succ m ih =>
      intro i g1 e hg
      rw [wpX4_copies_L2]
      refine pk_le 276 i (fun q => absurd q (by omega)) (fun _ => ⟨pk_in i 276 (by omega), ?_⟩)
      rw [nI_clamp (by omega), nI_1]
      refine ih (i + 1) _ (by omega) (fun j hj => ?_)
      by_cases c : j = i
      · rw [c, upd_eq]
      · rw [upd_ne _ _ c]; exact hg j (by omega)
  unfold wpX4_copies
  exact ⟨277, L 276 0 g rfl (fun j hj => absurd hj (by omega))⟩
theorem kM_copyD {D : DS} {f g : Nat → Int32} (R : RelM D f) {post : (Nat → Int32) → Prop} (h : ∀ g', RelM D g' → post g') : wpX4_copies f g post := kM_copies (fun g' hg => h g' (relM_cong R hg))
def recN (n : Nat) : Nat := if n = 4 then 4 else n + 1
def recH (n : Nat) (H : Nat → DS) (D : DS) : Nat → DS := if n = 4 then (fun j => if j < 3 then H (j + 1) else D) else (fun j => if j = n then D else H j)
def HistC (η : HI) (n : Nat) (H : Nat → DS) : Prop := hi_many η = nI n ∧ ∃ o, o < 4 ∧ hi_oldest η = nI o ∧ ∀ j, j < n → RelC (H j) (hi_rooms η ((o + j) % 4))
def HistM (hist : Nat → Int32) (kept : Int32) (n : Nat) (H : Nat → DS) : Prop := kept = nI n ∧ ∀ j, j < n → RelM (H j) (fun x => hist (276 * j + x))
theorem nI_m4 {k : Nat} (h : k < 2 ^ 31) : nI k - nI k / 4 * 4 = nI (k % 4) := pk_rem (d := 4) h (by omega) (by omega)
theorem kC_record {η : HI} {σ : HS} {n : Nat} {H : Nat → DS} {D : DS} (hn : n ≤ 4) (E : HistC η n H) (R : RelC D σ) {post : HI → Prop} (h : ∀ η', HistC η' (recN n) (recH n H D) → post η') : wpX2_record η σ post := by
  obtain ⟨e1, o, ho, e2, e3⟩ := E
  have J : ∀ (η1 : HI) (o1 m : Nat) (H1 : Nat → DS), o1 < 4 → m < 4 → hi_many η1 = nI m → hi_oldest η1 = nI o1 → (∀ j, j < m → RelC (H1 j) (hi_rooms η1 ((o1 + j) % 4))) → (∀ η', HistC η' (m + 1) (fun j => if j = m then D else H1 j) → post η') → wpX2_record_J30 σ post η1 := by
    intro η1 o1 m H1 ho1 hm f1 f2 f3 hp
    unfold wpX2_record_J30
    rw [f1, f2, nI_add, nI_m4 (by omega)]
    refine ⟨pk_in ((o1 + m) % 4) 4 (by omega), kC_takeOver R (fun σ' R' => hp _ ⟨?_, o1, ho1, f2, fun j hj => ?_⟩)⟩
    · show nI m + 1 = nI (m + 1); exact nI_1 m
    · show RelC (if j = m then D else H1 j) (va_up (hi_rooms η1) (nI ((o1 + m) % 4)).toNatClampNeg σ' ((o1 + j) % 4))
      rw [nI_clamp (by omega)]
      by_cases c : j = m
      · rw [if_pos c, c, up_eq]; exact R'
      · rw [if_neg c, up_ne _ _ (by omega)]; exact f3 j (by omega)
  unfold wpX2_record
  rw [e1]
  refine pk_eq n 4 (fun q => ?_) (fun q => ?_)
  · have f1 : hi_many (hi_setMany (hi_setOldest η (nI ((o + 1) % 4))) (nI n - 1)) = nI 3 := by
      show nI n - 1 = nI 3
      rw [q]; decide
    rw [e2, nI_1, nI_m4 (by omega)]
    refine J _ ((o + 1) % 4) 3 (fun j => H (j + 1)) (by omega) (by omega) f1 rfl (fun j hj => ?_) (fun η' Q => h η' ?_)
    · have z := e3 (j + 1) (by omega)
      show RelC (H (j + 1)) (hi_rooms η (((o + 1) % 4 + j) % 4))
      rw [show ((o + 1) % 4 + j) % 4 = (o + (j + 1)) % 4 by omega]
      exact z
    · unfold recN recH
      rw [if_pos q, if_pos q]
      obtain ⟨k1, o', k2, k3, k4⟩ := Q
      refine ⟨k1, o', k2, k3, fun j hj => ?_⟩
      have z : RelC (if j = 3 then D else H (j + 1)) _ := k4 j hj
      by_cases c : j < 3
      · rw [if_neg (by omega)] at z
        show RelC (if j < 3 then H (j + 1) else D) _
        rw [if_pos c]; exact z
      · rw [if_pos (by omega)] at z
        show RelC (if j < 3 then H (j + 1) else D) _
        rw [if_neg c]; exact z
  · refine J η o n H ho (by omega) e1 e2 e3 (fun η' Q => h η' ?_)
    unfold recN recH
    rw [if_neg q, if_neg q]
    exact Q
theorem kM_record {f hist : Nat → Int32} {kept : Int32} {n : Nat} {H : Nat → DS} {D : DS} (hn : n ≤ 4) (E : HistM hist kept n H) (R : RelM D f) {post : RK → Prop} (h : ∀ η', HistM (rk_history η') (rk_kept η') (recN n) (recH n H D) → post η') : wpX4_record f (hist, kept) post := by
  obtain ⟨e1, e3⟩ := E
  have L51 : ∀ (m i k : Nat) (H1 : Nat → DS) (h1 : Nat → Int32), i + m = 276 → k < 4 → (∀ j, j < k → RelM (H1 j) (fun x => h1 (276 * j + x))) → (∀ x, x < i → h1 (276 * k + x) = f x) → (∀ η', HistM (rk_history η') (rk_kept η') (k + 1) (fun j => if j = k then D else H1 j) → post η') → wpX4_record_L51 f post (m + 1) (nI i) (h1, nI k) := by
    intro m
    induction m with
    | zero =>
      intro i k H1 h1 e hk g1 g2 hp
      rw [wpX4_record_L51]
      refine pk_le 276 i (fun _ => hp _ ⟨?_, fun j hj => ?_⟩) (fun q => absurd q (by omega))
      · show nI k + 1 = nI (k + 1); exact nI_1 k
      · show RelM (if j = k then D else H1 j) (fun x => h1 (276 * j + x))
        by_cases c : j = k
        · rw [if_pos c, c]; exact relM_cong R (fun x hx => g2 x (by omega))
        · rw [if_neg c]; exact g1 j (by omega)
    | succ m ih =>
      intro i k H1 h1 e hk g1 g2 hp
      rw [wpX4_record_L51]
      refine pk_le 276 i (fun q => absurd q (by omega)) (fun _ => ⟨pk_in i 276 (by omega), ?_⟩)
      have ei : (276 : Int32) * rk_kept (h1, nI k) + nI i = nI (276 * k + i) := by
        show (276 : Int32) * nI k + nI i = _
        rw [show (276 : Int32) * nI k = nI (276 * k) from pk_mul 276 k, nI_add]
      rw [ei, nI_clamp (n := i) (by omega), nI_clamp (n := 276 * k + i) (by omega), nI_1]
      refine ⟨pk_in (276 * k + i) 1104 (by omega), ih (i + 1) k H1 (upd h1 (276 * k + i) (f i)) (by omega) hk (fun j hj => ?_) (fun x hx => ?_) hp⟩
      · exact relM_cong (g1 j hj) (fun x hx => upd_ne _ _ (by omega))
      · by_cases c : x = i
        · rw [c, upd_eq]
        · rw [upd_ne _ _ (by omega)]; exact g2 x (by omega)
  have L10 : ∀ (m i : Nat) (h1 : Nat → Int32), i + m = 828 → n = 4 → (∀ x, x < i → h1 x = hist (x + 276)) → (∀ x, i ≤ x → h1 x = hist x) → wpX4_record_L10 f post (m + 1) (nI i) (h1, nI 4) := by
    intro m
    induction m with
    | zero =>
      intro i h1 e hn4 g1 g2
      rw [wpX4_record_L10]
      refine pk_le 828 i (fun _ => ⟨277, ?_⟩) (fun q => absurd q (by omega))
      have ek : rk_setKept (h1, nI 4) (rk_kept (h1, nI 4) - 1) = (h1, nI 3) := by
        show (h1, nI 4 - 1) = (h1, nI 3)
        rw [show nI 4 - 1 = nI 3 by decide]
      rw [ek]
      refine L51 276 0 3 (fun j => H (j + 1)) h1 rfl (by omega) (fun j hj => ?_) (fun x hx => absurd hx (by omega)) (fun η' Q => h η' ?_)
      · refine relM_cong (e3 (j + 1) (by omega)) (fun x hx => ?_)
        show h1 (276 * j + x) = hist (276 * (j + 1) + x)
        rw [g1 _ (by omega)]
        rw [show 276 * j + x + 276 = 276 * (j + 1) + x by omega]
      · unfold recN recH
        rw [if_pos hn4, if_pos hn4]
        refine ⟨Q.1, fun j hj => ?_⟩
        have z : RelM (if j = 3 then D else H (j + 1)) _ := Q.2 j hj
        by_cases c : j < 3
        · rw [if_neg (by omega)] at z
          show RelM (if j < 3 then H (j + 1) else D) _
          rw [if_pos c]; exact z
        · rw [if_pos (by omega)] at z
          show RelM (if j < 3 then H (j + 1) else D) _
          rw [if_neg c]; exact z
    | succ m ih =>
      intro i h1 e hn4 g1 g2
      rw [wpX4_record_L10]
      refine pk_le 828 i (fun q => absurd q (by omega)) (fun _ => ?_)
      rw [show nI i + 276 = nI (i + 276) from nI_add i 276, nI_clamp (n := i) (by omega), nI_clamp (n := i + 276) (by omega), nI_1]
      refine ⟨pk_in (i + 276) 1104 (by omega), pk_in i 1104 (by omega), ih (i + 1) (upd h1 i (h1 (i + 276))) (by omega) hn4 (fun x hx => ?_) (fun x hx => ?_)⟩
      · by_cases c : x = i
        · rw [c, upd_eq, g2 _ (by omega)]
        · rw [upd_ne _ _ c]; exact g1 x (by omega)
      · rw [upd_ne _ _ (by omega)]; exact g2 x (by omega)
  unfold wpX4_record
  show ((kept = 4 → _) ∧ (¬ kept = 4 → _))
  rw [e1]
  refine pk_eq n 4 (fun q => ⟨829, ?_⟩) (fun q => ⟨277, ?_⟩)
  · rw [q]
    exact L10 828 0 hist rfl q (fun x hx => absurd hx (by omega)) (fun x _ => rfl)
  · refine L51 276 0 n H hist rfl (by omega) e3 (fun x hx => absurd hx (by omega)) (fun η' Q => h η' ?_)
    unfold recN recH
    rw [if_neg q, if_neg q]
    exact Q
theorem recN_le {n : Nat} (h : n ≤ 4) : recN n ≤ 4 := by unfold recN; split <;> omega
theorem recH_all {P : DS → Prop} {n : Nat} {H : Nat → DS} {D : DS} (hn : n ≤ 4) (h : ∀ j, j < n → P (H j)) (hd : P D) : ∀ j, j < recN n → P (recH n H D j) := by
  intro j hj
  unfold recN at hj
  unfold recH
  by_cases c : n = 4
  · rw [if_pos c] at hj ⊢
    by_cases c2 : j < 3
    · show P (if j < 3 then H (j + 1) else D)
      rw [if_pos c2]; exact h _ (by omega)
    · show P (if j < 3 then H (j + 1) else D)
      rw [if_neg c2]; exact hd
  · rw [if_neg c] at hj ⊢
    by_cases c2 : j = n
    · show P (if j = n then D else H j)
      rw [if_pos c2]; exact hd
    · show P (if j = n then D else H j)
      rw [if_neg c2]; exact h _ (by omega)
/-! the two machines together -/
def Sb (i : Nat) (D : DS) : Prop := ∃ st, d_steps D = nI st ∧ st ≤ 2000 * i
def Ok (i : Nat) (D : DS) : Prop := Inv D ∧ Sb i D
theorem Ok.up {i : Nat} {D : DS} (h : Ok i D) : Ok (i + 1) D := ⟨h.1, let ⟨st, e, l⟩ := h.2; ⟨st, e, by omega⟩⟩
def SimN (i : Nat) (σ : HS) (g : Nat → Int32) : Prop := ∃ D, RelC D σ ∧ RelM D g ∧ Ok i D
def SimH (i : Nat) (η : HI) (hist : Nat → Int32) (kept : Int32) : Prop := ∃ n H, n ≤ 4 ∧ HistC η n H ∧ HistM hist kept n H ∧ ∀ j, j < n → Ok i (H j)
def SimK (i : Nat) (has : Int32) (σ : HS) (fil : Int32) (slot : Nat → Int32) : Prop := ∃ b, has = bi b ∧ fil = bi b ∧ (b = true → SimN i σ slot)
def SimT (τ : CT) (text : Nat → Int32) (len : Int32) : Prop := ∃ n, n ≤ 60 ∧ ct_length τ = nI n ∧ len = nI n ∧ ∀ j, j < n → ct_codes τ j = text j ∧ 0 ≤ ct_codes τ j
def Sim (χ : XS) (μ : MO) (i : Nat) : Prop := SimN i (xs_now χ) (mo_now μ) ∧ SimH i (xs_history χ) (mo_history μ) (mo_kept μ) ∧ SimK i (xs_hasKept χ) (xs_kept χ) (mo_isFilled μ) (mo_slot μ) ∧ SimT (xs_text χ) (mo_text μ) (mo_length μ)
theorem SimN.up {i : Nat} {σ : HS} {g : Nat → Int32} (h : SimN i σ g) : SimN (i + 1) σ g := let ⟨D, a, b, c⟩ := h; ⟨D, a, b, c.up⟩
theorem SimH.up {i : Nat} {η : HI} {hist : Nat → Int32} {kept : Int32} (h : SimH i η hist kept) : SimH (i + 1) η hist kept := let ⟨n, H, a, b, c, d⟩ := h; ⟨n, H, a, b, c, fun j hj => (d j hj).up⟩
theorem SimK.up {i : Nat} {has : Int32} {σ : HS} {fil : Int32} {slot : Nat → Int32} (h : SimK i has σ fil slot) : SimK (i + 1) has σ fil slot := let ⟨b, x, y, z⟩ := h; ⟨b, x, y, fun e => (z e).up⟩
theorem Sim.up {χ : XS} {μ : MO} {i : Nat} (h : Sim χ μ i) : Sim χ μ (i + 1) := ⟨h.1.up, h.2.1.up, h.2.2.1.up, h.2.2.2⟩
theorem kC_startTrial {χ : XS} {D : DS} (R : RelC D (xs_now χ)) {post : XS → Prop} (h : ∀ σ', RelC D σ' → post (xs_setTrial χ σ')) : wpX3_startTrial χ post := by
  unfold wpX3_startTrial
  exact kC_takeOver R (fun σ' R' => h σ' R')
/-- the class's end of an act: nothing, or the state before is recorded and the trial taken over -/
theorem kC_settle {χ : XS} {n : Nat} {H : Nat → DS} {D E : DS} (hn : n ≤ 4) (Q : HistC (xs_history χ) n H) (R : RelC D (xs_now χ)) {r : Int32} {post : Int32 → XS → Prop} (h1 : r < 0 → post r χ) (h2 : ¬ r < 0 → RelC E (xs_trial χ)) (h3 : ¬ r < 0 → ∀ η' σ', HistC η' (recN n) (recH n H D) → RelC E σ' → post r (xs_setNow (xs_setHistory χ η') σ')) : wpX3_settle χ r post := by
  unfold wpX3_settle
  exact ⟨h1, fun q => kC_record hn Q R (fun η' Q' => kC_takeOver (h2 q) (fun σ' R' => h3 q η' σ' Q' R'))⟩
/-- an act that goes through: what is now is recorded, E is what comes -/
theorem sim_to {χ : XS} {μ : MO} {i : Nat} {n : Nat} {H : Nat → DS} {D E : DS} {σ' σt : HS} {η' : HI} {ρ : RK} {g' gs gp : Nat → Int32} {a : Int32} (hn : n ≤ 4) (hH : ∀ j, j < n → Ok i (H j)) (oD : Ok i D) (oE : Ok (i + 1) E) (K : SimK i (xs_hasKept χ) (xs_kept χ) (mo_isFilled μ) (mo_slot μ)) (T : SimT (xs_text χ) (mo_text μ) (mo_length μ)) (Q1 : HistC η' (recN n) (recH n H D)) (Q2 : HistM (rk_history ρ) (rk_kept ρ) (recN n) (recH n H D)) (R1 : RelC E σ') (R2 : RelM E g') : Sim (σ', σt, xs_kept χ, η', xs_text χ, xs_hasKept χ) (g', gs, gp, mo_slot μ, rk_history ρ, mo_text μ, rk_kept ρ, mo_length μ, mo_isFilled μ, a) (i + 1) := by
  refine ⟨⟨E, R1, R2, oE⟩, ⟨recN n, recH n H D, recN_le hn, Q1, Q2, ?_⟩, K.up, T⟩
  exact recH_all hn (fun j hj => (hH j hj).up) oD.up
