/-! the class: rows of reads and writes, giving back, giving up, settings -/
def pairD (D : DS) (f t : Nat) : Option DS := if (readR D f).1 < 0 then none else if (writeR (readR D f).2 t (readR D f).1).1 < 0 then none else some (writeR (readR D f).2 t (readR D f).1).2
def cpyD : Nat → DS → Nat → Nat → Nat × DS
  | 0, D, _, _ => (0, D)
  | m + 1, D, f, t => match pairD D f t with
    | none => (0, D)
    | some E => ((cpyD m E (f + 1) (t + 1)).1 + 1, (cpyD m E (f + 1) (t + 1)).2)
theorem cpy_le : ∀ {m : Nat} {D : DS} {f t : Nat}, (cpyD m D f t).1 ≤ m := by
  intro m
  induction m with
  | zero => intro D f t; exact Nat.le_refl _
  | succ m ih =>
    intro D f t
    unfold cpyD
    cases pairD D f t with
    | none => exact Nat.zero_le _
    | some E => exact Nat.succ_le_succ ih
theorem pair_some {D E : DS} {f t : Nat} (h : pairD D f t = some E) : ¬ (readR D f).1 < 0 ∧ ¬ (writeR (readR D f).2 t (readR D f).1).1 < 0 ∧ E = (writeR (readR D f).2 t (readR D f).1).2 := by
  unfold pairD at h
  by_cases c : (readR D f).1 < 0
  · rw [if_pos c] at h; cases h
  · rw [if_neg c] at h
    by_cases c2 : (writeR (readR D f).2 t (readR D f).1).1 < 0
    · rw [if_pos c2] at h; cases h
    · rw [if_neg c2] at h; cases h; exact ⟨c, c2, rfl⟩
theorem Inv.pair {D E : DS} (I : Inv D) {f t : Nat} (h : pairD D f t = some E) : Inv E := by
  obtain ⟨-, -, e⟩ := pair_some h
  rw [e]; exact (I.rR f).wR t _
theorem Inv.cpy : ∀ {m : Nat} {D : DS} {f t : Nat}, Inv D → Inv (cpyD m D f t).2 := by
  intro m
  induction m with
  | zero => intro D f t I; exact I
  | succ m ih =>
    intro D f t I
    unfold cpyD
    cases e : pairD D f t with
    | none => exact I
    | some E => exact ih (I.pair e)
/-- the first so many again: all of them, and the same state -/
theorem cpy_again : ∀ {m : Nat} {D : DS} {f t : Nat}, cpyD (cpyD m D f t).1 D f t = cpyD m D f t := by
  intro m
  induction m with
  | zero => intro D f t; rfl
  | succ m ih =>
    intro D f t
    cases e : pairD D f t with
    | none =>
      have h : cpyD (m + 1) D f t = (0, D) := by unfold cpyD; rw [e]
      rw [h]; rfl
    | some E =>
      have h : ∀ n, cpyD (n + 1) D f t = ((cpyD n E (f + 1) (t + 1)).1 + 1, (cpyD n E (f + 1) (t + 1)).2) := fun n => by rw [cpyD, e]
      rw [h m]
      show cpyD ((cpyD m E (f + 1) (t + 1)).1 + 1) D f t = _
      rw [h, ih]
section CS
variable {D : DS} {σ : HS}
theorem kC_copyRow (R : RelC D σ) (I : Inv D) {f t M : Nat} (hf : f < 64) (ht : t < 64) (hM : M ≤ 16) {post : Int32 → HS → Prop} (h1 : (cpyD M D f t).1 = M → ∀ σ', RelC (cpyD M D f t).2 σ' → post (nI M) σ') (h2 : (cpyD M D f t).1 < M → ∀ σ', post (nI (cpyD M D f t).1) σ') : wpX1_copyRow σ (nI f) (nI t) (nI M) post := by
  have L : ∀ (m i : Nat) (E : DS) (σ1 : HS), i + m = M → RelC E σ1 → Inv E → ((cpyD m E (f + i) (t + i)).1 = m → ∀ σ', RelC (cpyD m E (f + i) (t + i)).2 σ' → post (nI M) σ') → ((cpyD m E (f + i) (t + i)).1 < m → ∀ σ', post (nI (i + (cpyD m E (f + i) (t + i)).1)) σ') → wpX1_copyRow_L3 (nI f) (nI t) (nI M) post (m + 1) (nI i) σ1 := by
    intro m
    induction m with
    | zero =>
      intro i E σ1 e RE IE g1 g2
      rw [wpX1_copyRow_L3]
      exact pk_le M i (fun _ => g1 rfl σ1 RE) (fun q => absurd q (by omega))
    | succ m ih =>
      intro i E σ1 e RE IE g1 g2
      rw [wpX1_copyRow_L3]
      refine pk_le M i (fun q => absurd q (by omega)) (fun _ => ?_)
      have e0 : pairD E (f + i) (t + i) = none → (cpyD (m + 1) E (f + i) (t + i)) = (0, E) := fun q => by rw [cpyD, q]
      rw [nI_add]
      refine kC_readAt RE IE (fun σ2 R2 => ?_)
      rw [rR_adr E (by omega)] at R2 ⊢
      refine ⟨fun q => ?_, fun q => ?_⟩
      · have z := e0 (by unfold pairD; rw [if_pos q])
        rw [z] at g2
        exact g2 (by omega) σ2
      · rw [nI_add]
        refine kC_writeAt R2 (IE.rR _) (fun σ3 R3 => ?_)
        rw [wR_adr _ (by omega)] at R3 ⊢
        refine ⟨fun z => ?_, fun z => ?_⟩
        · have ep : pairD E (f + i) (t + i) = some (writeR (readR E (f + i)).2 (t + i) (readR E (f + i)).1).2 := by
            unfold pairD
            rw [if_neg q, if_neg (fun w => absurd z (Int32.not_le.mpr w))]
          have ec : ∀ n, cpyD (n + 1) E (f + i) (t + i) = ((cpyD n (writeR (readR E (f + i)).2 (t + i) (readR E (f + i)).1).2 (f + i + 1) (t + i + 1)).1 + 1, (cpyD n (writeR (readR E (f + i)).2 (t + i) (readR E (f + i)).1).2 (f + i + 1) (t + i + 1)).2) := fun n => by rw [cpyD, ep]
          rw [ec m] at g1 g2
          rw [nI_1]
          refine ih (i + 1) _ σ3 (by omega) R3 ((IE.rR _).wR _ _) (fun w => ?_) (fun w => ?_)
          · exact g1 (by rw [show (cpyD m (writeR (readR E (f + i)).2 (t + i) (readR E (f + i)).1).2 (f + i + 1) (t + i + 1)).1 = m from w])
          · have g3 := g2 (Nat.succ_lt_succ w)
            rw [show i + ((cpyD m (writeR (readR E (f + i)).2 (t + i) (readR E (f + i)).1).2 (f + i + 1) (t + i + 1)).1 + 1) = i + 1 + (cpyD m (writeR (readR E (f + i)).2 (t + i) (readR E (f + i)).1).2 (f + i + 1) (t + i + 1)).1 by omega] at g3
            exact g3
        · have z2 := e0 (by unfold pairD; rw [if_neg q, if_pos (Int32.not_le.mp z)])
          rw [z2] at g2
          exact g2 (by omega) σ3
  unfold wpX1_copyRow
  exact ⟨M + 1, L M 0 D σ (by omega) R I h1 (by rw [Nat.zero_add]; exact h2)⟩
end CS
