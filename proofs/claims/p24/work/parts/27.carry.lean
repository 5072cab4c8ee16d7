/-! histories, acts, ranks, the first state (of the class alone) -/
def recN (n : Nat) : Nat := if n = 4 then 4 else n + 1
def recH (n : Nat) (H : Nat → DS) (D : DS) : Nat → DS := if n = 4 then (fun j => if j < 3 then H (j + 1) else D) else (fun j => if j = n then D else H j)
def HistC (η : HI) (n : Nat) (H : Nat → DS) : Prop := hi_many η = nI n ∧ ∃ o, o < 4 ∧ hi_oldest η = nI o ∧ ∀ j, j < n → RelC (H j) (hi_rooms η ((o + j) % 4))
theorem nI_m4 {k : Nat} (h : k < 2 ^ 31) : nI k - nI k / 4 * 4 = nI (k % 4) := pk_rem (d := 4) h (by omega) (by omega)
theorem kC_record {η : HI} {σ : HS} {n : Nat} {H : Nat → DS} {D : DS} (hn : n ≤ 4) (E : HistC η n H) (R : RelC D σ) {post : HI → Prop} (h : ∀ η', HistC η' (recN n) (recH n H D) → post η') : wpX2_record η σ post := by
  obtain ⟨e1, o, ho, e2, e3⟩ := E
  have J : ∀ (η1 : HI) (o1 m : Nat) (H1 : Nat → DS), o1 < 4 → m < 4 → hi_many η1 = nI m → hi_oldest η1 = nI o1 → (∀ j, j < m → RelC (H1 j) (hi_rooms η1 ((o1 + j) % 4))) → (∀ η', HistC η' (m + 1) (fun j => if j = m then D else H1 j) → post η') → wpX2_record_J30 σ post η1 := by
    intro η1 o1 m H1 ho1 hm f1 f2 f3 hp
    unfold wpX2_record_J30
    rw [f1, f2, nI_add, nI_m4 (by omega)]
    refine ⟨pk_in ((o1 + m) % 4) 4 (by omega), kC_takeOver R (fun σ' R' => hp _ ⟨?_, o1, ho1, f2, fun j hj => ?_⟩)⟩
    · show nI m + 1 = nI (m + 1); exact nI_1 m
    · show RelC (if j = m then D else H1 j) (va_up (hi_rooms η1) (nI ((o1 + m) % 4)).toNatClampNeg σ' ((o1 + j) % 4))
      rw [nI_clamp (by omega)]
      by_cases c : j = m
      · rw [if_pos c, c, up_eq]; exact R'
      · rw [if_neg c, up_ne _ _ (by omega)]; exact f3 j (by omega)
  unfold wpX2_record
  rw [e1]
  refine pk_eq n 4 (fun q => ?_) (fun q => ?_)
  · have f1 : hi_many (hi_setMany (hi_setOldest η (nI ((o + 1) % 4))) (nI n - 1)) = nI 3 := by
      show nI n - 1 = nI 3
      rw [q]; decide
    rw [e2, nI_1, nI_m4 (by omega)]
    refine J _ ((o + 1) % 4) 3 (fun j => H (j + 1)) (by omega) (by omega) f1 rfl (fun j hj => ?_) (fun η' Q => h η' ?_)
    · have z := e3 (j + 1) (by omega)
      show RelC (H (j + 1)) (hi_rooms η (((o + 1) % 4 + j) % 4))
      rw [show ((o + 1) % 4 + j) % 4 = (o + (j + 1)) % 4 by omega]
      exact z
    · unfold recN recH
      rw [if_pos q, if_pos q]
      obtain ⟨k1, o', k2, k3, k4⟩ := Q
      refine ⟨k1, o', k2, k3, fun j hj => ?_⟩
      have z : RelC (if j = 3 then D else H (j + 1)) _ := k4 j hj
      by_cases c : j < 3
      · rw [if_neg (by omega)] at z
        show RelC (if j < 3 then H (j + 1) else D) _
        rw [if_pos c]; exact z
      · rw [if_pos (by omega)] at z
        show RelC (if j < 3 then H (j + 1) else D) _
        rw [if_neg c]; exact z
  · refine J η o n H ho (by omega) e1 e2 e3 (fun η' Q => h η' ?_)
    unfold recN recH
    rw [if_neg q, if_neg q]
    exact Q
theorem recN_le {n : Nat} (h : n ≤ 4) : recN n ≤ 4 := by unfold recN; split <;> omega
theorem recH_all {P : DS → Prop} {n : Nat} {H : Nat → DS} {D : DS} (hn : n ≤ 4) (h : ∀ j, j < n → P (H j)) (hd : P D) : ∀ j, j < recN n → P (recH n H D j) := by
  intro j hj
  unfold recN at hj
  unfold recH
  by_cases c : n = 4
  · rw [if_pos c] at hj ⊢
    by_cases c2 : j < 3
    · show P (if j < 3 then H (j + 1) else D)
      rw [if_pos c2]; exact h _ (by omega)
    · show P (if j < 3 then H (j + 1) else D)
      rw [if_neg c2]; exact hd
  · rw [if_neg c] at hj ⊢
    by_cases c2 : j = n
    · show P (if j = n then D else H j)
      rw [if_pos c2]; exact hd
    · show P (if j = n then D else H j)
      rw [if_neg c2]; exact h _ (by omega)
theorem kC_startTrial {χ : XS} {D : DS} (R : RelC D (xs_now χ)) {post : XS → Prop} (h : ∀ σ', RelC D σ' → post (xs_setTrial χ σ')) : wpX3_startTrial χ post := by
  unfold wpX3_startTrial
  exact kC_takeOver R (fun σ' R' => h σ' R')
/-- the class's end of an act: nothing, or the state before is recorded and the trial taken over -/
theorem kC_settle {χ : XS} {n : Nat} {H : Nat → DS} {D E : DS} (hn : n ≤ 4) (Q : HistC (xs_history χ) n H) (R : RelC D (xs_now χ)) {r : Int32} {post : Int32 → XS → Prop} (h1 : r < 0 → post r χ) (h2 : ¬ r < 0 → RelC E (xs_trial χ)) (h3 : ¬ r < 0 → ∀ η' σ', HistC η' (recN n) (recH n H D) → RelC E σ' → post r (xs_setNow (xs_setHistory χ η') σ')) : wpX3_settle χ r post := by
  unfold wpX3_settle
  exact ⟨h1, fun q => kC_record hn Q R (fun η' Q' => kC_takeOver (h2 q) (fun σ' R' => h3 q η' σ' Q' R'))⟩
def cR (χ : XS) (σt σ' : HS) (η' : HI) : XS := (σ', σt, xs_kept χ, η', xs_text χ, xs_hasKept χ)
def CAct (χ : XS) (D : DS) (n : Nat) (H : Nat → DS) (r : Int32 × DS) (post : Int32 → XS → Prop) : Prop := (r.1 < 0 → ∀ σt, post r.1 (xs_setTrial χ σt)) ∧ (¬ r.1 < 0 → ∀ σt σ' η', RelC r.2 σ' → HistC η' (recN n) (recH n H D) → post r.1 (cR χ σt σ' η'))
theorem lt_neg {v : Nat} (h : v < 2 ^ 31) : ¬ nI v < 0 := nI_lt0 h
theorem rR_neg {D : DS} (B : Bw D) {a : Nat} (h : (readR D a).1 < 0) : (readR D a).2 = D := by
  unfold readR at h ⊢
  by_cases c : isAd (d_sp D) a = true
  · rw [if_pos c] at h ⊢
    by_cases c2 : d_bY D a < 64
    · rw [if_pos c2] at h
      have := B.val a (isAd_lt c)
      exact absurd h (lt_neg (by omega))
    · rw [if_neg c2]
  · rw [if_neg c]
theorem who_pos (D : DS) (a : Nat) : ¬ whoD D a < 0 := by
  unfold whoD
  by_cases c : d_bY D a < 64
  · rw [if_pos c]; exact lt_neg (by omega)
  · rw [if_neg c]; decide
theorem wR_neg {D : DS} {a : Nat} {v : Int32} (h : (writeR D a v).1 < 0) : (writeR D a v).2 = D := by
  unfold writeR at h ⊢
  by_cases c : isAd (d_sp D) a = true
  · rw [if_pos c] at h ⊢
    by_cases c2 : 0 ≤ v.toInt ∧ v.toInt ≤ 999
    · rw [if_pos c2] at h ⊢
      cases e : wrAt D a with
      | none => rfl
      | some E => rw [e] at h; exact absurd h (who_pos _ _)
    · rw [if_neg c2]
  · rw [if_neg c]
section AC
variable {χ : XS} {D : DS} {n : Nat} {H : Nat → DS}
theorem kC_end (hn : n ≤ 4) (HC : HistC (xs_history χ) n H) (RC : RelC D (xs_now χ)) {r : Int32 × DS} {post : Int32 → XS → Prop} (h : CAct χ D n H r post) {σt σ2 : HS} (R2 : ¬ r.1 < 0 → RelC r.2 σ2) : wpX3_settle (xs_setTrial (xs_setTrial χ σt) σ2) r.1 post := by
  refine kC_settle (χ := xs_setTrial (xs_setTrial χ σt) σ2) (E := r.2) hn HC RC (fun q => h.1 q σ2) R2 (fun q η' σ' Q' R' => h.2 q σ2 σ' η' R' Q')
end AC
theorem Inv.back {D : DS} (I : Inv D) (a : Nat) : Inv (backR D a).2 := by
  unfold backR
  by_cases c : isAd (d_sp D) a = true
  · rw [if_pos c]
    by_cases c2 : d_bY D a < 64 ∧ d_bY D a ≠ a
    · rw [if_pos c2]
      by_cases c3 : d_wear D a < d_lim D ∧ d_giv D (a / 16) = false
      · rw [if_pos c3]
        have hl := isAd_lt c
        have hg := age_le I.1 hl
        have hlim := I.1.lim
        show Inv (byD (wearD (moveD (goD D a) a) a 2) a a)
        have B3 : Bd (wearD (moveD (goD D a) a) a 2) := ((I.1.go c2.1).move hl).worn (by simp only [a_move, a_go]; omega)
        refine ⟨B3.by_ ?_ ?_, ?_⟩
        · simp only [a_wear, a_move, a_go]
          exact fun b hb hab => own_free I.1 c hb hab
        · simp only [a_wear, a_move, a_go]
          exact fun _ => ⟨c3.2, Or.inl trivial⟩
        · unfold Tg
          simp only [a_by, a_wear, a_move, a_go]
          refine ⟨fun b hb h64 => ?_, fun s hs => ?_⟩
          · by_cases cb : b = a
            · rw [cb, up_eq, up_eq]; exact ⟨by omega, Or.inl rfl⟩
            · rw [up_ne _ _ cb] at h64 ⊢
              rw [up_ne _ _ (own_free I.1 c hb cb)]
              exact I.2.1 b hb h64
          · by_cases cs : s = a
            · rw [cs, up_eq]; exact Or.inl rfl
            · rw [up_ne _ _ cs, up_ne _ _ cs]; exact I.2.2 s hs
      · rw [if_neg c3]; exact I
    · rw [if_neg c2]; exact I
  · rw [if_neg c]; exact I
theorem Res.of {r : Int32 × DS} {post : Int32 → HS → Prop} (h1 : r.1 < 0 → ∀ σ', post r.1 σ') (h2 : ¬ r.1 < 0 → ∀ σ', RelC r.2 σ' → post r.1 σ') : Res r post := ⟨h1, h2⟩
theorem kC_res {χ : XS} {D : DS} {n : Nat} {H : Nat → DS} (hn : n ≤ 4) (HC : HistC (xs_history χ) n H) (RC : RelC D (xs_now χ)) {r : Int32 × DS} {post : Int32 → XS → Prop} (h : CAct χ D n H r post) {σt : HS} : Res r (fun a σ2 => wpX3_settle (xs_setTrial (xs_setTrial χ σt) σ2) a post) := ⟨fun q σ2 => kC_end hn HC RC h (fun z => absurd q z), fun _ σ2 R2 => kC_end hn HC RC h (fun _ => R2)⟩
def vacN (h : Nat) : Nat → Nat → DS → Nat
  | 0, _, _ => 0
  | m + 1, a, D => (if isAd (d_sp D) a = true ∧ d_bY D a < 64 ∧ d_bY D a / 16 = h then (if lendD D a = none then 1 else 0) else 0) + vacN h m (a + 1) (if isAd (d_sp D) a = true ∧ d_bY D a < 64 ∧ d_bY D a / 16 = h then mvD D a else D)
theorem mv_loss (D : DS) (a : Nat) : d_loss (mvD D a) = d_loss D + nI (if lendD D a = none then 1 else 0) := by
  unfold mvD
  cases e : lendD D a with
  | some x =>
    show d_loss (wearD (byD D a x) x 2) = d_loss D + nI 0
    simp only [a_wear, a_by]
    exact (Int32.add_zero _).symm
  | none =>
    show d_loss (loseD D a) = d_loss D + nI 1
    simp only [a_lose]
    rfl
theorem vac_loss {h : Nat} : ∀ {m a : Nat} {D : DS}, d_loss (vacL h m a D) = d_loss D + nI (vacN h m a D) := by
  intro m
  induction m with
  | zero => intro a D; exact (Int32.add_zero _).symm
  | succ m ih =>
    intro a D
    unfold vacL vacN
    by_cases c : isAd (d_sp D) a = true ∧ d_bY D a < 64 ∧ d_bY D a / 16 = h
    · rw [if_pos c, if_pos c, ih, mv_loss, Int32.add_assoc, nI_add]
    · rw [if_neg c, if_neg c, ih, Nat.zero_add]
theorem vacN_le {h : Nat} : ∀ {m a : Nat} {D : DS}, vacN h m a D ≤ m := by
  intro m
  induction m with
  | zero => intro a D; exact Nat.le_refl _
  | succ m ih =>
    intro a D
    unfold vacN
    have := ih (a := a + 1) (D := (if isAd (d_sp D) a = true ∧ d_bY D a < 64 ∧ d_bY D a / 16 = h then mvD D a else D))
    generalize vacN h m (a + 1) _ = k at this ⊢
    split
    · split <;> omega
    · omega
theorem add_sub_i (a b : Int32) : a + b - a = b := by rw [Int32.add_comm, Int32.add_sub_cancel]
def vacC (D : DS) (h : Nat) : Nat := vacN h 64 0 (d_setGiv D (va_up (d_giv D) h true))
theorem vacD_loss (D : DS) (h : Nat) : d_loss (vacD D h) - d_loss D = nI (vacC D h) := by
  unfold vacD vacC
  rw [vac_loss]
  exact add_sub_i _ _
theorem vacC_pos (D : DS) (h : Nat) : ¬ nI (vacC D h) < 0 := lt_neg (by
  have := vacN_le (h := h) (m := 64) (a := 0) (D := d_setGiv D (va_up (d_giv D) h true))
  unfold vacC; omega)
theorem oth_eq {giv : Nat → Bool} {h : Nat} (hh : h < 4) : (bi (giv 0) + bi (giv 1) + bi (giv 2) + bi (giv 3) - bi (giv h) = 3) ↔ othG giv h 4 0 = true := by
  have : h = 0 ∨ h = 1 ∨ h = 2 ∨ h = 3 := by omega
  rcases this with rfl | rfl | rfl | rfl <;> simp only [othG, Nat.zero_add, Nat.reduceAdd] <;> generalize giv 0 = b0 <;> generalize giv 1 = b1 <;> generalize giv 2 = b2 <;> generalize giv 3 = b3 <;> revert b0 b1 b2 b3 <;> decide
def Rs (k : Nat) (D E : DS) : Prop := ∃ d, d ≤ k ∧ d_resc E = d_resc D + nI d
theorem Rs.same {D E : DS} {k : Nat} (e : d_resc E = d_resc D) : Rs k D E := ⟨0, Nat.zero_le _, e.trans (Int32.add_zero _).symm⟩
theorem Rs.trans {D E F : DS} {k l : Nat} (h1 : Rs k D E) (h2 : Rs l E F) : Rs (k + l) D F := by
  obtain ⟨a, ha, e1⟩ := h1
  obtain ⟨b, hb, e2⟩ := h2
  exact ⟨a + b, by omega, by rw [e2, e1, Int32.add_assoc, nI_add]⟩
theorem rs_look (D : DS) (a : Nat) : Rs 1 D (lookD D a) := by
  unfold lookD
  by_cases c : d_wear D (d_bY D a) < d_lim D
  · rw [if_pos c]; exact Rs.same rfl
  · rw [if_neg c]
    cases lendD D a with
    | some x => exact ⟨1, Nat.le_refl _, by simp only [a_resc]; rfl⟩
    | none =>
      show Rs 1 D (if 2 * d_lim D ≤ d_wear D (d_bY D a) then loseD D a else D)
      by_cases c2 : 2 * d_lim D ≤ d_wear D (d_bY D a)
      · rw [if_pos c2]; exact Rs.same (by simp only [a_lose])
      · rw [if_neg c2]; exact Rs.same rfl
theorem rs_read (D : DS) (a : Nat) : Rs 1 D (readR D a).2 := by
  unfold readR
  by_cases c : isAd (d_sp D) a = true
  · rw [if_pos c]
    by_cases c2 : d_bY D a < 64
    · rw [if_pos c2]
      show Rs 1 D (readD D a)
      unfold readD
      refine Rs.trans (k := 0) (l := 1) (E := d_setReads (wearD (goD D a) (d_bY D a) 1) (d_reads D + 1)) (Rs.same ?_) (rs_look _ a)
      simp only [a_setReads, a_wear, a_go]
    · rw [if_neg c2]; exact Rs.same rfl
  · rw [if_neg c]; exact Rs.same rfl
theorem rs_tst {h : Nat} : ∀ {m p : Nat} {D : DS}, Rs m D (tstD h m p D) := by
  intro m
  induction m with
  | zero => intro p D; exact Rs.same rfl
  | succ m ih =>
    intro p D
    have z := (rs_read D (16 * h + p)).trans (ih (p := p + 1) (D := (readR D (16 * h + p)).2))
    rw [Nat.add_comm] at z
    exact z
theorem testR_neg {D : DS} {h : Nat} (q : (testR D h).1 < 0) : lostH D h = 16 - d_sp D h := by
  unfold testR at q
  by_cases c : lostH D h = 16 - d_sp D h
  · exact c
  · rw [if_neg c] at q
    obtain ⟨d, hd, e⟩ := rs_tst (h := h) (m := 16) (p := 0) (D := D)
    have q : d_resc (tstD h 16 0 D) - d_resc D < 0 := q
    rw [e, add_sub_i] at q
    exact absurd q (lt_neg (by omega))
theorem cpy_zero {m : Nat} {D : DS} {f t : Nat} (h : (cpyD m D f t).1 = 0) : (cpyD m D f t).2 = D := by
  cases m with
  | zero => rfl
  | succ m =>
    unfold cpyD at h ⊢
    cases e : pairD D f t with
    | none => rfl
    | some E => rw [e] at h; exact absurd h (Nat.succ_ne_zero _)
def copR (D : DS) (f t M : Nat) : Int32 × DS := if (cpyD M D f t).1 = 0 then (-5, D) else (nI (cpyD M D f t).1, (cpyD M D f t).2)
theorem cnt_or {A B : Nat → Bool} (h : ∀ y, A y = true → B y = true → False) : ∀ {m p : Nat}, cnt (fun y => A y || B y) m p = cnt A m p + cnt B m p := by
  intro m
  induction m with
  | zero => intro p; rfl
  | succ m ih =>
    intro p
    unfold cnt
    rw [ih]
    cases ea : A p with
    | true =>
      cases eb : B p with
      | true => exact absurd (h p ea eb) id
      | false => simp; omega
    | false =>
      cases eb : B p with
      | true => simp; omega
      | false => simp
theorem cnt_one {k : Nat} : ∀ {m p : Nat}, p ≤ k → k < p + m → cnt (fun y => decide (k = y)) m p = 1 := by
  intro m
  induction m with
  | zero => intro p h1 h2; omega
  | succ m ih =>
    intro p h1 h2
    unfold cnt
    by_cases c : k = p
    · rw [if_pos (decide_eq_true c), cnt_zero (fun y g1 _ => decide_eq_false (by omega))]
    · rw [if_neg (by rw [decide_eq_false c]; simp), ih (by omega) (by omega)]
/-- as many as are met -/
theorem cnt_map {P : Nat → Bool} {f : Nat → Nat} (h64 : ∀ v, P v = true → f v < 64) (inj : ∀ v w, P v = true → P w = true → f v = f w → v = w) : ∀ {m p : Nat}, cnt P m p = cnt (fun s => (fnd (fun v => P v && decide (f v = s)) m p).isSome) 64 0 := by
  intro m
  induction m with
  | zero =>
    intro p
    show 0 = _
    exact (cnt_zero (fun y _ _ => rfl)).symm
  | succ m ih =>
    intro p
    have e : cnt (fun s => (fnd (fun v => P v && decide (f v = s)) (m + 1) p).isSome) 64 0 = cnt (fun s => (P p && decide (f p = s)) || (fnd (fun v => P v && decide (f v = s)) m (p + 1)).isSome) 64 0 := by
      refine cnt_cong (fun s _ _ => ?_)
      rw [fnd]
      cases c : (P p && decide (f p = s)) with
      | true => rw [if_pos rfl]; rfl
      | false => rw [if_neg (by simp)]; rfl
    have e2 : cnt (fun s => P p && decide (f p = s)) 64 0 = if P p = true then 1 else 0 := by
      cases c : P p with
      | true =>
        rw [if_pos rfl]
        have z := cnt_one (k := f p) (m := 64) (p := 0) (Nat.zero_le _) (by have := h64 p c; omega)
        rw [← z]
        exact cnt_cong (fun y _ _ => Bool.true_and _)
      | false =>
        rw [if_neg (by simp)]
        exact cnt_zero (fun y _ _ => Bool.false_and _)
    have e3 : ∀ y, (P p && decide (f p = y)) = true → (fnd (fun v => P v && decide (f v = y)) m (p + 1)).isSome = true → False := by
      intro y h1 h2
      rw [Bool.and_eq_true, decide_eq_true_eq] at h1
      cases g : fnd (fun v => P v && decide (f v = y)) m (p + 1) with
      | none => rw [g] at h2; cases h2
      | some v =>
        obtain ⟨k1, -, k3, -⟩ := fnd_some g
        rw [Bool.and_eq_true, decide_eq_true_eq] at k3
        have := inj p v h1.1 k3.1 (h1.2.trans k3.2.symm)
        omega
    rw [e, cnt_or e3, ← ih, e2]
    rfl
def hasRk (D : DS) (a : Nat) : Bool := isAd (d_sp D) a && decide (d_bY D a < 64)
def above (D : DS) (a b : Nat) : Bool := hasRk D b && (decide (d_wear D (d_bY D a) < d_wear D (d_bY D b)) || (decide (d_wear D (d_bY D b) = d_wear D (d_bY D a)) && decide (b < a)))
def rankN (D : DS) (a : Nat) : Nat := cnt (above D a) 64 0
def rankA (D : DS) (r : Int32) : Int32 := co (fnd (fun a => hasRk D a && decide (nI (rankN D a) = r)) 64 0)
theorem hasRk_t {D : DS} {a : Nat} (h1 : isAd (d_sp D) a = true) (h2 : d_bY D a < 64) : hasRk D a = true := by unfold hasRk; rw [h1, decide_eq_true h2]; rfl
theorem hasRk_l {D : DS} {a : Nat} (h2 : 64 ≤ d_bY D a) : hasRk D a = false := by unfold hasRk; rw [decide_eq_false (by omega), Bool.and_false]
theorem hasRk_s {D : DS} {a : Nat} (h1 : isAd (d_sp D) a = false) : hasRk D a = false := by unfold hasRk; rw [h1]; rfl
theorem hasRk_iff {D : DS} {a : Nat} : hasRk D a = true ↔ isAd (d_sp D) a = true ∧ d_bY D a < 64 := by unfold hasRk; rw [Bool.and_eq_true, decide_eq_true_eq]
section RC
variable {D : DS} {σ : HS}
theorem kC_hasRank (R : RelC D σ) (B : Bw D) {a : Nat} (ha : a < 2 ^ 31) {post : Bool → Prop} (h : post (hasRk D a)) : wpX1_hasRank σ (nI a) post := by
  unfold wpX1_hasRank
  refine kC_isAdN R B ha ⟨fun q => kC_lostN R q (fun z => ⟨fun _ => ?_, fun y => (by cases y)⟩) (fun z => ⟨fun y => (by cases y), fun _ => ?_⟩), fun q => ?_⟩
  · rw [hasRk_l z] at h; exact h
  · rw [hasRk_t q z] at h; exact h
  · rw [hasRk_s q] at h; exact h
theorem kC_rankOf (R : RelC D σ) (B : Bw D) {a : Nat} (ha : isAd (d_sp D) a = true) (hb : d_bY D a < 64) {post : Int32 → Prop} (hp : post (nI (rankN D a))) : wpX1_rankOf σ (nI a) post := by
  have hl := isAd_lt ha
  have wa := B.wear _ hb
  have L : ∀ (m p c : Nat), p + m = 64 → post (nI (c + cnt (above D a) m p)) → wpX1_rankOf_L17 σ (nI a) post (m + 1) (nI c) (nI p) := by
    intro m
    induction m with
    | zero =>
      intro p c e hp
      rw [wpX1_rankOf_L17]
      exact pk_le 64 p (fun _ => hp) (fun q => absurd q (by omega))
    | succ m ih =>
      intro p c e hp
      rw [wpX1_rankOf_L17]
      refine pk_le 64 p (fun q => absurd q (by omega)) (fun _ => ?_)
      unfold cnt at hp
      have no : above D a p = false → wpX1_rankOf_L17 σ (nI a) post (m + 1) (nI c) (nI p + 1) := fun z => by
        rw [if_neg (by rw [z]; simp), Nat.zero_add] at hp
        rw [nI_1]; exact ih (p + 1) c (by omega) hp
      have yes : above D a p = true → wpX1_rankOf_L17 σ (nI a) post (m + 1) (nI c + 1) (nI p + 1) := fun z => by
        rw [if_pos z] at hp
        rw [nI_1, nI_1]; exact ih (p + 1) (c + 1) (by omega) (by rw [Nat.add_assoc]; exact hp)
      refine kC_hasRank R B (by omega) ⟨fun q => ?_, fun q => no (by unfold above; rw [q]; rfl)⟩
      obtain ⟨q1, q2⟩ := hasRk_iff.mp q
      have wp := B.wear _ q2
      refine ⟨pk_in p 64 (by omega), ?_⟩
      rw [kC_srv R q1 q2, kC_srv R ha hb]
      refine ⟨pk_in (d_bY D p) 64 q2, ?_⟩
      rw [nI_clamp (n := d_bY D p) (by omega), nI_clamp (n := d_bY D a) (by omega), R.wear _ q2, R.wear _ hb]
      refine pk_lt (d_wear D (d_bY D a)) (d_wear D (d_bY D p)) (fun y => yes ?_) (fun y => pk_eq (d_wear D (d_bY D p)) (d_wear D (d_bY D a)) (fun x => pk_le a p (fun k => no ?_) (fun k => yes ?_)) (fun x => no ?_))
      · unfold above; rw [q, decide_eq_true y]; rfl
      · unfold above; rw [decide_eq_false (by omega), decide_eq_false (p := p < a) (by omega), Bool.and_false, Bool.or_false, Bool.and_false]
      · unfold above; rw [q, decide_eq_true x, decide_eq_true (p := p < a) (by omega)]; simp
      · unfold above; rw [decide_eq_false (by omega), decide_eq_false x, Bool.false_and, Bool.or_false, Bool.and_false]
  unfold wpX1_rankOf
  refine ⟨pk_in a 64 hl, ?_⟩
  rw [kC_srv R ha hb]
  exact ⟨pk_in (d_bY D a) 64 hb, 65, L 64 0 0 rfl (by rw [Nat.zero_add]; exact hp)⟩
theorem kC_ofRank (R : RelC D σ) (B : Bw D) {r : Int32} {post : Int32 → Prop} (hp : post (rankA D r)) : wpX1_addressOfRank σ r post := by
  have L : ∀ (m p : Nat), p + m = 64 → post (co (fnd (fun a => hasRk D a && decide (nI (rankN D a) = r)) m p)) → wpX1_addressOfRank_L2 σ r post (m + 1) (nI p) := by
    intro m
    induction m with
    | zero =>
      intro p e hp
      rw [wpX1_addressOfRank_L2]
      exact pk_le 64 p (fun _ => hp) (fun q => absurd q (by omega))
    | succ m ih =>
      intro p e hp
      rw [wpX1_addressOfRank_L2]
      refine pk_le 64 p (fun q => absurd q (by omega)) (fun _ => ?_)
      unfold fnd at hp
      refine kC_hasRank R B (by omega) ⟨fun q => ?_, fun q => ?_⟩
      · obtain ⟨q1, q2⟩ := hasRk_iff.mp q
        refine kC_rankOf R B q1 q2 ⟨fun z => ?_, fun z => ?_⟩
        · rw [if_pos (by rw [q, decide_eq_true z]; rfl)] at hp; exact hp
        · rw [if_neg (by rw [q, decide_eq_false z]; simp)] at hp
          rw [nI_1]; exact ih (p + 1) (by omega) hp
      · rw [if_neg (by rw [q]; simp)] at hp
        rw [nI_1]; exact ih (p + 1) (by omega) hp
  unfold wpX1_addressOfRank
  exact ⟨65, L 64 0 rfl hp⟩
end RC
def rl (T ag : Nat) : Nat → Nat → Nat → Nat
  | 0, _, n => n
  | m + 1, w, n => if w + ag < T then rl T ag m (w + ag) (n + 1) else n
def rT (D : DS) (a : Nat) : Nat := if lendD D a = none then 2 * d_lim D else d_lim D
def rE (E : DS) (a : Nat) : DS := d_setReads (wearD (goD E a) (d_bY E a) 1) (d_reads E + 1)
theorem fr_rE {E : DS} (I : Inv E) {a : Nat} (ha : isAd (d_sp E) a = true) (hb : d_bY E a < 64) : fr (rE E a) = fr E := by
  funext s
  by_cases c : s = d_bY E a
  · have h1 : fr E s = false := by
      cases g : fr E s with
      | false => rfl
      | true =>
        have z := cli_none (fr_iff.mp g).2.1 ha
        exact absurd c.symm z
    have h2 : fr (rE E a) s = false := by
      cases g : fr (rE E a) s with
      | false => rfl
      | true =>
        have z := (fr_iff.mp g).2.1
        unfold rE at z
        simp only [a_setReads, a_wear, a_go] at z
        exact absurd c.symm (cli_none z ha)
    rw [h1, h2]
  · unfold fr rE freeS
    simp only [a_setReads, a_wear, a_go]
    rw [up_ne _ _ c]
theorem lend_fr {D E : DS} (h : fr D = fr E) (a : Nat) : lendD D a = lendD E a := by
  have h1 : ∀ k, ffH D k = ffH E k := fun k => by unfold ffH; rw [h]
  have h2 : nFr D = nFr E := funext fun k => by unfold nFr; rw [h]
  unfold lendD
  rw [h1, h2, h1]
theorem rE_T {E : DS} (I : Inv E) {a : Nat} (ha : isAd (d_sp E) a = true) (hb : d_bY E a < 64) : rT (rE E a) a = rT E a := by
  unfold rT
  rw [lend_fr (fr_rE I ha hb) a]
  have e : d_lim (rE E a) = d_lim E := by unfold rE; simp only [a_setReads, a_wear, a_go]
  rw [e]
theorem read_rE {E : DS} {a : Nat} (ha : isAd (d_sp E) a = true) (hb : d_bY E a < 64) : (readR E a).2 = lookD (rE E a) a := by
  unfold readR
  rw [if_pos ha, if_pos hb]
  rfl
theorem rE_f (E : DS) (a : Nat) : d_lim (rE E a) = d_lim E ∧ d_age (rE E a) = d_age E ∧ d_sp (rE E a) = d_sp E ∧ d_bY (rE E a) = d_bY E ∧ d_wear (rE E a) (d_bY E a) = d_wear E (d_bY E a) + d_age E (d_bY E a / 16) := by
  unfold rE
  simp only [a_setReads, a_wear, a_go]
  refine ⟨trivial, trivial, trivial, trivial, ?_⟩
  rw [up_eq, Nat.one_mul]
theorem rE_keep {E : DS} (I : Inv E) {a : Nat} (ha : isAd (d_sp E) a = true) (hb : d_bY E a < 64) (h : d_wear E (d_bY E a) + d_age E (d_bY E a / 16) < rT E a) : (readR E a).2 = rE E a := by
  obtain ⟨f1, f2, f3, f4, f5⟩ := rE_f E a
  rw [read_rE ha hb]
  rw [← rE_T I ha hb] at h
  unfold rT at h
  unfold lookD
  rw [f4, f5, f1]
  rw [f1] at h
  by_cases c : d_wear E (d_bY E a) + d_age E (d_bY E a / 16) < d_lim E
  · rw [if_pos c]
  · rw [if_neg c]
    cases e : lendD (rE E a) a with
    | some x => rw [e] at h; rw [if_neg (by simp)] at h; exact absurd h c
    | none =>
      rw [e, if_pos rfl] at h
      show (if 2 * d_lim E ≤ d_wear E (d_bY E a) + d_age E (d_bY E a / 16) then loseD (rE E a) a else rE E a) = rE E a
      rw [if_neg (by omega)]
theorem rE_change {E : DS} (I : Inv E) {a : Nat} (ha : isAd (d_sp E) a = true) (hb : d_bY E a < 64) (h : ¬ d_wear E (d_bY E a) + d_age E (d_bY E a / 16) < rT E a) : d_bY (readR E a).2 a ≠ d_bY E a := by
  obtain ⟨f1, f2, f3, f4, f5⟩ := rE_f E a
  have hlim := I.1.lim
  rw [read_rE ha hb]
  rw [← rE_T I ha hb] at h
  unfold rT at h
  unfold lookD
  rw [f4, f5, f1]
  rw [f1] at h
  have c : ¬ d_wear E (d_bY E a) + d_age E (d_bY E a / 16) < d_lim E := by
    split at h <;> omega
  rw [if_neg c]
  cases e : lendD (rE E a) a with
  | some x =>
    show d_bY (rescD (rE E a) a x) a ≠ d_bY E a
    simp only [a_resc]
    rw [up_eq]
    obtain ⟨-, g2, -, -, -⟩ := lend_free (isAd_lt ha) e
    have z := g2 a (by rw [f3]; exact ha)
    rw [f4] at z
    exact fun q => z q.symm
  | none =>
    rw [e, if_pos rfl] at h
    show d_bY (if 2 * d_lim E ≤ d_wear E (d_bY E a) + d_age E (d_bY E a / 16) then loseD (rE E a) a else rE E a) a ≠ d_bY E a
    rw [if_pos (by omega)]
    simp only [a_lose]
    rw [up_eq]
    omega
def leftR (D : DS) (a : Nat) : Int32 := if isAd (d_sp D) a = true then (if d_bY D a < 64 then nI (rl (rT D a) (d_age D (d_bY D a / 16)) 2000 (d_wear D (d_bY D a)) 1) else -4) else -1
theorem rT_le {D : DS} (B : Bd D) (a : Nat) : rT D a ≤ 1998 := by
  have := B.lim
  unfold rT; split <;> omega
section RD
variable {D : DS} {σ : HS}
theorem kC_left (R : RelC D σ) (I : Inv D) {x : Int32} {post : Int32 → Prop} (hp : post (leftR D (adr x))) : wpX1_readsUntilChange σ x post := by
  unfold wpX1_readsUntilChange
  unfold leftR at hp
  refine kC_isAddress R I.1.1 ⟨fun q => ?_, fun q => ?_⟩
  · rw [if_pos q] at hp
    have ex := adr_ad q
    generalize adr x = a at q hp ex
    subst ex
    have hl := isAd_lt q
    refine kC_lostN R q (fun z => ⟨fun _ => ?_, fun w => (by cases w)⟩) (fun z => ⟨fun w => (by cases w), fun _ => ⟨pk_in a 64 hl, ?_⟩⟩)
    · rw [if_neg (by omega)] at hp; exact hp
    · rw [if_pos z] at hp
      have hT := rT_le I.1 a
      have hg := age_le I.1 z
      have hw0 := I.1.wear _ z
      have J : wpX1_readsUntilChange_J51 σ (nI a) post (nI (rT D a)) := by
        have L : ∀ (m n w : Nat), n + m = 2001 → n ≤ w + 1 → (n = 1 ∨ w < rT D a) → w ≤ 2015 → post (nI (rl (rT D a) (d_age D (d_bY D a / 16)) m w n)) → wpX1_readsUntilChange_L63 σ (nI a) (nI (rT D a)) post (m + 1) (nI w) (nI n) := by
          intro m
          induction m with
          | zero => intro n w e h1 h2 h3 hp; omega
          | succ m ih =>
            intro n w e h1 h2 h3 hp
            rw [wpX1_readsUntilChange_L63]
            refine pk_lt 2000 n (fun y => absurd y (by omega)) (fun _ => ?_)
            rw [kC_srv R q z]
            refine kS_headOf (by omega) ⟨pk_in (d_bY D a / 16) 4 (by omega), ?_⟩
            rw [nI_clamp (by omega), R.age _ (by omega), nI_add]
            unfold rl at hp
            refine pk_lt (w + d_age D (d_bY D a / 16)) (rT D a) (fun y => ?_) (fun y => ?_)
            · rw [if_pos y] at hp
              rw [nI_1]
              exact ih (n + 1) _ (by omega) (by omega) (Or.inr y) (by omega) hp
            · rw [if_neg (by omega)] at hp; exact hp
        unfold wpX1_readsUntilChange_J51
        rw [kC_srv R q z]
        refine ⟨pk_in (d_bY D a) 64 z, 2001, ?_⟩
        rw [nI_clamp (by omega), R.wear _ z]
        exact L 2000 1 _ rfl (by omega) (Or.inl rfl) hw0 hp
      rw [R.lim]
      refine kC_lendableTo R I.1.1 hl ?_
      unfold rT at J
      cases e : lendD D a with
      | none =>
        rw [e, if_pos rfl, ← nI_2m] at J
        exact ⟨fun _ => J, fun y => absurd rfl y⟩
      | some b =>
        obtain ⟨g1, -⟩ := lend_free hl e
        rw [e, if_neg (by simp)] at J
        exact ⟨fun y => absurd y (co_ne (by omega)), fun _ => J⟩
  · rw [if_neg (by rw [q]; simp)] at hp; exact hp
end RD
def D0 : DS := (30, 0, fun h => h + 1, fun _ => 4, fun _ => false, fun _ => 0, fun _ => 0, fun s => s, fun _ => 0, 0, 0, 0, 0, 0)
theorem D0_f : d_lim D0 = 30 ∧ d_arm D0 = 0 ∧ d_age D0 = (fun h => h + 1) ∧ d_sp D0 = (fun _ => 4) ∧ d_giv D0 = (fun _ => false) ∧ d_wear D0 = (fun _ => 0) ∧ d_val D0 = (fun _ => 0) ∧ d_bY D0 = (fun s => s) ∧ d_rof D0 = (fun _ => 0) ∧ d_steps D0 = 0 ∧ d_resc D0 = 0 ∧ d_loss D0 = 0 ∧ d_reads D0 = 0 ∧ d_writes D0 = 0 := ⟨rfl, rfl, rfl, rfl, rfl, rfl, rfl, rfl, rfl, rfl, rfl, rfl, rfl, rfl⟩
theorem D0_inv : Inv D0 := by
  unfold Inv Bd Tg Bw
  simp only [D0_f]
  refine ⟨⟨⟨by omega, by omega, fun h hh => by omega, fun h hh => by omega, fun s hs => by omega, fun s hs => by omega, fun x y _ _ e _ => e⟩, fun a _ _ => ⟨trivial, Or.inl trivial⟩⟩, fun a _ _ => ⟨by omega, Or.inl trivial⟩, fun s _ => Or.inl trivial⟩
theorem isAd4 {s : Nat} (hs : s < 64) : isAd (fun _ => 4) s = decide (s % 16 < 12) := by
  show (decide (s < 64) && !decide (16 ≤ s % 16 + 4)) = _
  rw [decide_eq_true hs]
  by_cases c : s % 16 < 12
  · rw [decide_eq_true c, decide_eq_false (by omega)]; rfl
  · rw [decide_eq_false c, decide_eq_true (by omega)]; rfl
def own (s : Nat) : Option Nat := if s % 16 < 12 then some s else none
theorem srv0 {s : Nat} (hs : s < 64) : srv (fun _ => 4) (fun s => s) s = own s := by
  unfold srv own
  rw [isAd4 hs]
  by_cases c : s % 16 < 12
  · rw [decide_eq_true c, if_pos ⟨rfl, hs⟩, if_pos c]
  · rw [decide_eq_false c, if_neg (by simp), if_neg c]
theorem cli0 {s : Nat} (hs : s < 64) : cli (fun _ => 4) (fun s => s) s = own s := by
  unfold own
  by_cases c : s % 16 < 12
  · rw [if_pos c]
    exact cli_eq (by rw [isAd4 hs, decide_eq_true c]) rfl (fun b _ e => e)
  · rw [if_neg c]
    refine cli_no (fun a ha e => ?_)
    have e : a = s := e
    rw [e, isAd4 hs, decide_eq_false c] at ha
    cases ha
def II (v : Nat) (σ : HS) : Prop := hs_limit σ = nI 30 ∧ hs_arm σ = nI 0 ∧ (∀ j, j < 4 → j < v → hs_ageing σ j = nI (j + 1)) ∧ (∀ j, j < 4 → hs_spares σ j = nI (if j < v then 4 else 0)) ∧ (∀ j, j < 4 → hs_givenUp σ j = bi false) ∧ (∀ s, s < 64 → hs_wear σ s = nI 0) ∧ (∀ s, s < 64 → hs_value σ s = nI 0) ∧ (∀ s, s < 64 → hs_rescuesOf σ s = 0) ∧ (∀ s, s < 64 → s / 16 < v → hs_server σ s = co (own s)) ∧ (∀ s, s < 64 → s / 16 < v → hs_client σ s = co (own s)) ∧ hs_steps σ = 0 ∧ hs_rescues σ = 0 ∧ hs_losses σ = 0 ∧ hs_reads σ = 0 ∧ hs_writes σ = 0
theorem II_D0 {σ : HS} (h : II 4 σ) : RelC D0 σ := by
  obtain ⟨h1, h2, h3, h4, h5, h6, h7, h8, h9, h10, h11⟩ := h
  unfold RelC
  simp only [D0_f]
  refine ⟨h1, h2, fun j hj => h3 j hj hj, fun j hj => ?_, h5, h6, h7, h8, fun s hs => ?_, fun s hs => ?_, h11⟩
  · rw [h4 j hj, if_pos hj]
  · rw [srv0 hs]; exact h9 s hs (by omega)
  · rw [cli0 hs]; exact h10 s hs (by omega)
theorem kC_init {post : HS → Prop} (h : ∀ σ, RelC D0 σ → post σ) : wpX1_init post := by
  have L : ∀ (m v : Nat) (σ : HS), v + m = 4 → II v σ → wpX1_init_L103 post (m + 1) (nI v) σ := by
    intro m
    induction m with
    | zero =>
      intro v σ e I
      rw [wpX1_init_L103]
      have e : v = 4 := e
      rw [e] at I ⊢
      exact pk_le 4 4 (fun _ => h σ (II_D0 I)) (fun q => absurd q (by omega))
    | succ m ih =>
      intro v σ e I
      rw [wpX1_init_L103]
      obtain ⟨h1, h2, h3, h4, h5, h6, h7, h8, h9, h10, h11⟩ := I
      refine pk_le 4 v (fun q => absurd q (by omega)) (fun _ => ⟨pk_in v 4 (by omega), ?_⟩)
      rw [nI_clamp (by omega), nI_1]
      refine kC_divide (σ := hs_setAgeing σ (upd (hs_ageing σ) v (nI (v + 1)))) (sp := fun j => if j < v then 4 else 0) (n := 4) (by omega) (by omega) h4 (fun j hj => by show (if j < v then 4 else 0) ≤ 16; split <;> omega) (fun g0 g1 g2 k0 k1 k2 => ?_)
      have eown : ∀ s, s < 64 → s / 16 = v → (if isAd (va_up (fun j => if j < v then 4 else 0) v 4) s = true then some s else none) = own s := by
        intro s hs hv
        have ea : isAd (va_up (fun j => if j < v then 4 else 0) v 4) s = decide (s % 16 < 12) := by
          unfold isAd isSp
          rw [hv, up_eq, decide_eq_true hs]
          by_cases c : s % 16 < 12
          · rw [decide_eq_true c, decide_eq_false (by omega)]; rfl
          · rw [decide_eq_false c, decide_eq_true (by omega)]; rfl
        rw [ea]
        unfold own
        by_cases c : s % 16 < 12
        · rw [decide_eq_true c, if_pos rfl, if_pos c]
        · rw [decide_eq_false c, if_neg (by simp), if_neg c]
      refine ih (v + 1) _ (by omega) ⟨h1, h2, fun j hj hv => ?_, fun j hj => ?_, h5, h6, h7, h8, fun s hs hv => ?_, fun s hs hv => ?_, h11⟩
      · show upd (hs_ageing σ) v (nI (v + 1)) j = nI (j + 1)
        by_cases c : j = v
        · rw [c, upd_eq]
        · rw [upd_ne _ _ c]; exact h3 j hj (by omega)
      · show g0 j = _
        rw [k0 j hj]
        by_cases c : j = v
        · rw [c, up_eq, if_pos (by omega)]
        · rw [up_ne _ _ c]
          by_cases c2 : j < v
          · rw [if_pos c2, if_pos (by omega)]
          · rw [if_neg c2, if_neg (by omega)]
      · show g1 s = _
        rw [k1 s hs]
        by_cases c : s / 16 = v
        · rw [if_pos c, eown s hs c]
        · rw [if_neg c]; exact h9 s hs (by omega)
      · show g2 s = _
        rw [k2 s hs]
        by_cases c : s / 16 = v
        · rw [if_pos c, eown s hs c]
        · rw [if_neg c]; exact h10 s hs (by omega)
  unfold wpX1_init
  refine ⟨5, L 4 0 _ rfl ⟨rfl, rfl, fun j _ hj => absurd hj (by omega), fun j _ => ?_, fun j _ => rfl, fun s _ => rfl, fun s _ => rfl, fun s _ => rfl, fun s _ hs => absurd hs (by omega), fun s _ hs => absurd hs (by omega), rfl, rfl, rfl, rfl, rfl⟩⟩
  rw [if_neg (by omega)]; rfl
