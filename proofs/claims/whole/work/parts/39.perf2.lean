/-! a text performed, both sides -/
section PN
variable {μ : MO} {c : Nat → Int32} {n : Nat}
theorem prs_step {c : Nat → Int32} {n m p q : Nat} {k : Nat × Option Nat} (h : cmdP c n p = (some k, q)) : prs c n (m + 1) p = (if q = n then (some [k], q) else if c q = 59 then (match prs c n m (q + 1) with
    | (some l, r) => (some (k :: l), r)
    | (none, r) => (none, r)) else (none, q)) := by rw [prs, h]; rfl
theorem kM_commands (T1 : mo_length μ = nI n) (T2 : ∀ j, j < n → mo_text μ j = c j) (hn : n ≤ 60) {post : Int32 → MO → Prop} (h1 : ∀ l q, prs c n 20 0 = (some l, q) → ∀ a, post (nI l.length) (mo_setAt μ a)) (h2 : ∀ q, prs c n 20 0 = (none, q) → post 0 (mo_setAt μ (nI q))) : wpX4_commands μ post := by
  have L : ∀ (m i p : Nat), p ≤ n → 60 ≤ p + 3 * m → (∀ l q, prs c n m p = (some l, q) → ∀ a, post (nI (i + l.length)) (mo_setAt μ a)) → (∀ q, prs c n m p = (none, q) → post 0 (mo_setAt μ (nI q))) → wpX4_commands_L7 post (m + 1) (nI i) (mo_setAt μ (nI p)) := by
    intro m
    induction m with
    | zero =>
      intro i p hp hm g1 g2
      rw [wpX4_commands_L7]
      refine kM_command (μ := mo_setAt μ (nI p)) (c := c) (n := n) (p := p) ⟨T1, rfl, T2⟩ hn hp (fun k q e => ?_) (fun q e => ⟨fun _ => ?_, fun z => absurd (by decide) z⟩)
      · have := cmdP_b e; omega
      · have := cmdP_n hp e
        have e9 : q = p := by omega
        rw [e9]
        exact g2 p rfl
    | succ m ih =>
      intro i p hp hm g1 g2
      rw [wpX4_commands_L7]
      refine kM_command (μ := mo_setAt μ (nI p)) (c := c) (n := n) (p := p) ⟨T1, rfl, T2⟩ hn hp (fun k q e => ⟨fun _ => ⟨fun z => absurd z (by decide), fun _ => ?_⟩, fun z => absurd rfl z⟩) (fun q e => ⟨fun _ => ?_, fun z => absurd (by decide) z⟩)
      · obtain ⟨b1, b2, -, -⟩ := cmdP_b e
        rw [prs_step e] at g1 g2
        rw [show mo_length (mo_setAt (mo_setAt μ (nI p)) (nI q)) = nI n from T1, show mo_at (mo_setAt (mo_setAt μ (nI p)) (nI q)) = nI q from rfl]
        refine pk_eq q n (fun z => ?_) (fun z => ?_)
        · rw [if_pos z] at g1
          rw [nI_1]
          exact g1 [k] q rfl (nI q)
        · rw [if_neg z] at g1 g2
          refine kM_stands (μ := mo_setAt (mo_setAt μ (nI p)) (nI q)) (c := c) (n := n) (p := q) ⟨T1, rfl, T2⟩ hn b2 (fun y e2 => ⟨fun _ => ?_, fun w => (by cases w)⟩) (fun no => ⟨fun w => (by cases w), fun _ => ?_⟩)
          · rw [if_pos e2] at g1 g2
            rw [nI_1]
            refine ih (i + 1) (q + 1) (by omega) (by omega) (fun l r er a => ?_) (fun r er => ?_)
            · rw [er] at g1
              have z := g1 (k :: l) r rfl a
              rw [List.length_cons, show i + (l.length + 1) = i + 1 + l.length by omega] at z
              exact z
            · rw [er] at g2
              exact g2 r rfl
          · rw [if_neg (fun w => no ⟨by omega, w⟩)] at g2
            exact g2 q rfl
      · exact g2 q (by rw [prs, e])
  unfold wpX4_commands
  refine ⟨21, L 20 0 0 (Nat.zero_le _) (by omega) (fun l q e a => ?_) h2⟩
  rw [Nat.zero_add]; exact h1 l q e a
/-- the reference runs the text again, command by command -/
theorem kM_run {μ0 : MO} {D : DS} (T1 : mo_length μ0 = nI n) (T2 : ∀ j, j < n → mo_text μ0 j = c j) (hn : n ≤ 60) {N : Nat} (hN : N ≤ 20) (RS : RelM D (mo_spare μ0)) {post : Int32 → MO → Prop} : ∀ (m p : Nat) (l : List (Nat × Option Nat)) (i : Nat) (E : DS) (g : Nat → Int32) (a : Int32), (l = [] ∨ (a = nI p ∧ p ≤ n ∧ ∃ q, prs c n m p = (some l, q))) → i + l.length = N → RelM E g → Inv E → (∀ r F, runR l E = (some r, F) → ∀ g' a', RelM D g' → post r (mo_setAt (mo_setNow μ0 g') a')) → (∀ F, runR l E = (none, F) → ∀ g' a', RelM F g' → wpX4_record (mo_spare μ0) (mo_history μ0, mo_kept μ0) (fun η => post (nI N) (mo_setKept (mo_setHistory (mo_setAt (mo_setNow μ0 g') a') (rk_history η)) (rk_kept η)))) → wpX4_perform_L35 (nI N) post (l.length + 1) (nI i) (mo_setAt (mo_setNow μ0 g) a) := by
  intro m
  induction m with
  | zero =>
    intro p l i E g a hl e R I h1 h2
    rcases hl with rfl | ⟨-, -, q, hq⟩
    · show wpX4_perform_L35 (nI N) post (0 + 1) (nI i) (mo_setAt (mo_setNow μ0 g) a)
      rw [wpX4_perform_L35]
      have e : i = N := e
      exact pk_le N i (fun _ => h2 E rfl g a R) (fun q => absurd q (by omega))
    · cases hq
  | succ m ih =>
    intro p l i E g a hl e R I h1 h2
    cases l with
    | nil =>
      show wpX4_perform_L35 (nI N) post (0 + 1) (nI i) (mo_setAt (mo_setNow μ0 g) a)
      rw [wpX4_perform_L35]
      have e : i = N := e
      exact pk_le N i (fun _ => h2 E rfl g a R) (fun q => absurd q (by omega))
    | cons k l =>
      have hl : a = nI p ∧ p ≤ n ∧ ∃ q, prs c n (m + 1) p = (some (k :: l), q) := hl.elim (fun z => by cases z) id
      obtain ⟨ea, hp, q, hq⟩ := hl
      show wpX4_perform_L35 (nI N) post ((l.length + 1) + 1) (nI i) (mo_setAt (mo_setNow μ0 g) a)
      rw [List.length_cons] at e
      rw [wpX4_perform_L35]
      refine pk_le N i (fun z => absurd z (by omega)) (fun _ => ?_)
      unfold runR at h1 h2
      have J : ∀ q1 g2, cmdP c n p = (some k, q1) → RelM (opR k E).2 g2 → ((0 ≤ (opR k E).1 → wpX4_perform_L35 (nI N) post (l.length + 1) (nI i + 1) (mo_setAt (mo_setNow (mo_setAt (mo_setAt (mo_setNow μ0 g) a) (nI q1)) g2) (mo_at (mo_setNow (mo_setAt (mo_setAt (mo_setNow μ0 g) a) (nI q1)) g2) + 1))) ∧ (¬ 0 ≤ (opR k E).1 → wpX4_copies (mo_spare (mo_setNow (mo_setAt (mo_setAt (mo_setNow μ0 g) a) (nI q1)) g2)) (mo_now (mo_setNow (mo_setAt (mo_setAt (mo_setNow μ0 g) a) (nI q1)) g2)) (fun g58 => post (opR k E).1 (mo_setNow (mo_setNow (mo_setAt (mo_setAt (mo_setNow μ0 g) a) (nI q1)) g2) g58)))) := by
        intro q1 g2 ec R2
        obtain ⟨b1, b2, -, -⟩ := cmdP_b ec
        rw [prs_step ec] at hq
        refine ⟨fun z => ?_, fun z => ?_⟩
        · have z : ¬ (opR k E).1 < 0 := Int32.not_lt.mpr z
          rw [if_neg z] at h1 h2
          rw [show mo_at (mo_setNow (mo_setAt (mo_setAt (mo_setNow μ0 g) a) (nI q1)) g2) = nI q1 from rfl, nI_1, nI_1]
          refine ih (q1 + 1) l (i + 1) (opR k E).2 g2 (nI (q1 + 1)) ?_ (by omega) R2 (opR_inv I k) h1 h2
          by_cases c1 : q1 = n
          · rw [if_pos c1] at hq
            cases hq
            exact Or.inl rfl
          · rw [if_neg c1] at hq
            by_cases c2 : c q1 = 59
            · rw [if_pos c2] at hq
              cases e2 : prs c n m (q1 + 1) with
              | mk o r =>
                rw [e2] at hq
                cases o with
                | none => cases hq
                | some l2 =>
                  cases hq
                  exact Or.inr ⟨rfl, by omega, _, rfl⟩
            · rw [if_neg c2] at hq; cases hq
        · have z : (opR k E).1 < 0 := Int32.not_le.mp z
          rw [if_pos z] at h1
          exact kM_copyD (D := D) RS (fun g' R' => h1 _ E rfl g' (nI q1) R')
      refine kM_command (μ := mo_setAt (mo_setNow μ0 g) a) (c := c) (n := n) (p := p) ⟨T1, ea, T2⟩ hn hp (fun k' q1 ec => ⟨fun z => absurd z (by decide), fun _ => ?_⟩) (fun q1 ec => ?_)
      · have ek : k' = k := by
          rw [prs_step ec] at hq
          by_cases c1 : q1 = n
          · rw [if_pos c1] at hq; cases hq; rfl
          · rw [if_neg c1] at hq
            by_cases c2 : c q1 = 59
            · rw [if_pos c2] at hq
              cases e2 : prs c n m (q1 + 1) with
              | mk o r =>
                rw [e2] at hq
                cases o with
                | none => cases hq
                | some l2 => cases hq; rfl
            · rw [if_neg c2] at hq; cases hq
        rw [ek] at ec ⊢
        have hk := (cmdP_b ec).2.2
        have J := fun g2 => J q1 g2 ec
        unfold opR at J
        refine ⟨fun ev => ?_, fun v ev => ?_⟩
        · rw [ev] at J
          refine kM_reads (D := E) (μ := mo_setAt (mo_setAt (mo_setNow μ0 g) a) (nI q1)) R I (fun g2 R2 => ?_)
          rw [rR_adr E (by omega)] at R2 ⊢
          exact J g2 R2
        · rw [ev] at J
          have hv := hk.2 v ev
          refine kM_writes (D := E) (μ := mo_setAt (mo_setAt (mo_setNow μ0 g) a) (nI q1)) R I (fun g2 R2 => ?_)
          rw [wR_adr E (by omega)] at R2 ⊢
          exact J g2 R2
      · rw [prs, ec] at hq; cases hq
end PN
theorem sim_perform : ok_perform Sim := by
  intro χ μ i hi S
  obtain ⟨D, n, H, P⟩ := S.pre
  obtain ⟨N, hN, t1, t2, t3⟩ := S.2.2.2
  have T2 : ∀ j, j < N → mo_text μ j = ct_codes (xs_text χ) j := fun j hj => (t3 j hj).1.symm
  have txt : ∀ τ', FR (xs_text χ) τ' → SimT τ' (mo_text μ) (mo_length μ) := fun τ' F => ⟨N, hN, F.1.trans t1, t2, fun j hj => by rw [F.2]; exact t3 j hj⟩
  unfold wpX3_perform
  refine kX_parse t1 hN (fun j hj => (t3 j hj).2) (fun l q el τ' Fx A => ⟨fun _ => ?_, fun z => absurd rfl z⟩) (fun q el hq τ' F => ⟨fun z => absurd z (co_ne (x := q) (by omega)), fun _ => ?_⟩)
  · obtain ⟨l1, l2⟩ := prs_len el
    have hall := prs_all el
    have M : ∀ post : Int32 → MO → Prop, (∀ r F, runR l D = (some r, F) → ∀ gs g' a, RelM D g' → post r (mo_setAt (mo_setNow (mo_setSpare μ gs) g') a)) → (∀ F, runR l D = (none, F) → ∀ gs g' a ρ, RelM F g' → HistM (rk_history ρ) (rk_kept ρ) (recN n) (recH n H D) → post (nI l.length) (mo_setKept (mo_setHistory (mo_setAt (mo_setNow (mo_setSpare μ gs) g') a) (rk_history ρ)) (rk_kept ρ))) → wpX4_perform μ post := by
      intro post h1 h2
      unfold wpX4_perform
      refine kM_commands (c := ct_codes (xs_text χ)) (n := N) t2 T2 hN (fun l' q' e' a0 => ?_) (fun q' e' => by rw [el] at e'; cases e')
      rw [el] at e'
      cases e'
      refine pk_eq l.length 0 (fun z => absurd z (by omega)) (fun _ => kM_copyD (D := D) P.2.1 (fun gs Rs => ⟨l.length + 1, ?_⟩))
      exact kM_run (μ0 := mo_setSpare (mo_setAt μ a0) gs) (D := D) (c := ct_codes (xs_text χ)) (n := N) t2 T2 hN (N := l.length) l2 Rs 20 0 l 0 D (mo_now μ) 0 (Or.inr ⟨rfl, Nat.zero_le _, q, el⟩) (Nat.zero_add _) P.2.1 P.2.2.1.1 (fun r F e g' a' R' => h1 r F e gs g' a' R') (fun F e g' a' R' => kM_record (f := gs) (hist := mo_history μ) (kept := mo_kept μ) P.2.2.2.1 P.2.2.2.2.2.1 Rs (fun ρ Q => h2 F e gs g' a' ρ R' Q))
    refine kC_startTrial (χ := xs_setText χ τ') P.1 (fun σt Rt => ⟨l.length + 1, ?_⟩)
    refine kC_run (χ := xs_setText χ τ') (l := l) A l2 hall l [] D σt rfl Rt P.2.2.1.1 (fun r F e σ' => M _ (fun r2 F2 e2 gs g' a R' => ?_) (fun F2 e2 => by rw [e] at e2; cases e2)) (fun F e σ' R' => ?_)
    · rw [e] at e2
      cases e2
      exact ⟨rfl, ⟨D, P.1, R', P.2.2.1.up⟩, S.2.1.up, S.2.2.1.up, txt τ' Fx⟩
    · obtain ⟨IF, gF⟩ := runR_ok e P.2.2.1.1
      have oF : Ok (i + 1) F := P.2.2.1.to IF gF (by omega)
      have A2 : CAct (xs_setText χ τ') D n H (nI l.length, F) (fun a χ' => wpX4_perform μ (fun a' μ' => a = a' ∧ Sim χ' μ' (i + 1))) := by
        refine ⟨fun z => absurd z (lt_neg (v := l.length) (by omega)), fun _ σt σ2 η' R2 Q' => M _ (fun r2 F2 e2 => by rw [e] at e2; cases e2) (fun F2 e2 gs g' a ρ RM Q2 => ?_)⟩
        rw [e] at e2
        cases e2
        have hH := P.2.2.2.2.2.2.1
        exact ⟨rfl, ⟨F, R2, RM, oF⟩, ⟨recN n, recH n H D, recN_le P.2.2.2.1, Q', Q2, recH_all P.2.2.2.1 (fun j hj => (hH j hj).up) P.2.2.1.up⟩, S.2.2.1.up, txt τ' Fx⟩
      exact kC_end (r := (nI l.length, F)) (χ := xs_setText χ τ') (σt := σt) P.2.2.2.1 P.2.2.2.2.1 P.1 A2 (fun _ => R')
  · unfold wpX4_perform
    refine kM_commands (c := ct_codes (xs_text χ)) (n := N) t2 T2 hN (fun l' q' e' a0 => by rw [el] at e'; cases e') (fun q' e' => ?_)
    rw [el] at e'
    cases e'
    exact ⟨fun _ => ⟨rfl, S.1.up, S.2.1.up, S.2.2.1.up, txt τ' F⟩, fun z => absurd rfl z⟩
