/-! a text performed -/
section PP
variable {τ : CT} {n : Nat}
theorem kX_parse (e1 : ct_length τ = nI n) (hn : n ≤ 60) (hc : ∀ j, j < n → 0 ≤ ct_codes τ j) {post : Int32 → CT → Prop} (h1 : ∀ l q, prs (ct_codes τ) n 20 0 = (some l, q) → ∀ τ', FR τ τ' → AR τ' l → post (-5) τ') (h2 : ∀ q, prs (ct_codes τ) n 20 0 = (none, q) → q ≤ n → ∀ τ', FR τ τ' → post (nI q) τ') : wpX0_parse τ post := by
  have L : ∀ (m i p : Nat) (l : List (Nat × Option Nat)) (τ1 : CT), i + m = 20 → l.length = i → AR τ1 l → TX τ1 n p → FR τ τ1 → p ≤ n → (∀ l' q, prs (ct_codes τ) n m p = (some l', q) → ∀ τ', FR τ τ' → AR τ' (l ++ l') → post (-5) τ') → (∀ q, prs (ct_codes τ) n m p = (none, q) → q ≤ n → ∀ τ', FR τ τ' → post (nI q) τ') → wpX0_parse_L12 post (m + 1) (nI i) τ1 := by
    intro m
    induction m with
    | zero =>
      intro i p l τ1 e el A T F hp g1 g2
      rw [wpX0_parse_L12, T.2]
      exact pk_le 20 i (fun _ => g2 p rfl hp τ1 F) (fun q => absurd q (by omega))
    | succ m ih =>
      intro i p l τ1 e el A T F hp g1 g2
      rw [wpX0_parse_L12]
      refine pk_le 20 i (fun q => absurd q (by omega)) (fun _ => ?_)
      have ec : ct_codes τ1 = ct_codes τ := F.2
      refine kX_command A (by omega) T hn hp (fun k q eq τ2 F2 a2 A2 => ⟨fun _ => ?_, fun z => (by cases z)⟩) (fun q eq τ2 F2 a2 => ⟨fun z => (by cases z), fun _ => ?_⟩)
      · rw [ec] at eq
        obtain ⟨b1, b2, -, -⟩ := cmdP_b eq
        have F3 : FR τ τ2 := ⟨F2.1.trans F.1, F2.2.trans F.2⟩
        have T2 : TX τ2 n q := ⟨F3.1.trans e1, a2⟩
        have ep : prs (ct_codes τ) n (m + 1) p = (if q = n then (some [k], q) else if ct_codes τ q = 59 then (match prs (ct_codes τ) n m (q + 1) with
          | (some l, r) => (some (k :: l), r)
          | (none, r) => (none, r)) else (none, q)) := by rw [prs, eq]; rfl
        rw [ep] at g1 g2
        unfold wpX0_peek
        rw [T2.1, T2.2]
        refine pk_le n q (fun z => ⟨fun _ => ?_, fun y => absurd rfl y⟩) (fun z => ⟨pk_in q 60 (by omega), ?_⟩)
        · rw [if_pos (by omega)] at g1
          exact g1 [k] q rfl τ2 F3 A2
        · have z : q < n := by omega
          rw [if_neg (by omega)] at g1 g2
          rw [nI_clamp (by omega), show ct_codes τ2 q = ct_codes τ q by rw [F3.2]]
          refine ⟨fun y => ?_, fun _ => ?_⟩
          · have := hc q z
            rw [y] at this
            exact absurd this (by decide)
          · refine kX_take T2 hn b2 (by decide) (fun y e2 => ⟨fun _ => ?_, fun w => (by cases w)⟩) (fun no => ⟨fun w => (by cases w), fun _ => ?_⟩)
            · rw [show ct_codes τ2 q = ct_codes τ q by rw [F3.2]] at e2
              rw [if_pos e2] at g1 g2
              rw [nI_1]
              refine ih (i + 1) (q + 1) (l ++ [k]) (ct_setAt τ2 (nI (q + 1))) (by omega) (by rw [List.length_append, el]; rfl) A2 ⟨T2.1, rfl⟩ F3 (by omega) (fun l' r er τ' F' A' => ?_) (fun r er hr τ' F' => ?_)
              · rw [er] at g1
                rw [List.append_assoc] at A'
                exact g1 (k :: l') r rfl τ' F' A'
              · rw [er] at g2
                exact g2 r rfl hr τ' F'
            · rw [show ct_codes τ2 q = ct_codes τ q by rw [F3.2]] at no
              rw [if_neg (fun w => no ⟨z, w⟩)] at g2
              rw [T2.2]
              exact g2 q rfl b2 τ2 F3
      · rw [ec] at eq
        have b := cmdP_n hp eq
        have ep : prs (ct_codes τ) n (m + 1) p = (none, q) := by rw [prs, eq]
        rw [a2]
        exact g2 q ep b.2 τ2 ⟨F2.1.trans F.1, F2.2.trans F.2⟩
  unfold wpX0_parse
  exact ⟨21, L 20 0 0 [] _ rfl rfl ⟨rfl, fun j k e => by cases e⟩ ⟨e1, rfl⟩ ⟨rfl, rfl⟩ (Nat.zero_le _) h1 h2⟩
end PP
def opR (k : Nat × Option Nat) (E : DS) : Int32 × DS := match k.2 with
  | none => readR E k.1
  | some v => writeR E k.1 (nI v)
def runR : List (Nat × Option Nat) → DS → Option Int32 × DS
  | [], E => (none, E)
  | k :: l, E => if (opR k E).1 < 0 then (some (opR k E).1, E) else runR l (opR k E).2
theorem opR_inv {E : DS} (I : Inv E) (k : Nat × Option Nat) : Inv (opR k E).2 := by
  unfold opR
  cases k.2 with
  | none => exact I.rR _
  | some v => exact I.wR _ _
theorem opR_gr (E : DS) (k : Nat × Option Nat) : Gr 51 E (opR k E).2 := by
  unfold opR
  cases k.2 with
  | none => exact gr_read _ _
  | some v => exact gr_write _ _ _
theorem runR_ok : ∀ {l : List (Nat × Option Nat)} {E F : DS}, runR l E = (none, F) → Inv E → Inv F ∧ Gr (51 * l.length) E F := by
  intro l
  induction l with
  | nil => intro E F h I; cases h; exact ⟨I, Gr.rfl⟩
  | cons k l ih =>
    intro E F h I
    unfold runR at h
    by_cases c : (opR k E).1 < 0
    · rw [if_pos c] at h; cases h
    · rw [if_neg c] at h
      obtain ⟨a, b⟩ := ih h (opR_inv I k)
      refine ⟨a, ((opR_gr E k).trans b).le ?_⟩
      rw [List.length_cons]; omega
theorem runR_neg : ∀ {l : List (Nat × Option Nat)} {E F : DS} {r : Int32}, runR l E = (some r, F) → r < 0 := by
  intro l
  induction l with
  | nil => intro E F r h; cases h
  | cons k l ih =>
    intro E F r h
    unfold runR at h
    by_cases c : (opR k E).1 < 0
    · rw [if_pos c] at h; cases h; exact c
    · rw [if_neg c] at h; exact ih h
theorem prs_len {c : Nat → Int32} {n : Nat} : ∀ {m p : Nat} {l : List (Nat × Option Nat)} {q : Nat}, prs c n m p = (some l, q) → 1 ≤ l.length ∧ l.length ≤ m := by
  intro m
  induction m with
  | zero => intro p l q h; cases h
  | succ m ih =>
    intro p l q h
    rw [prs] at h
    cases e : cmdP c n p with
    | mk o q1 =>
      rw [e] at h
      cases o with
      | none => cases h
      | some k =>
        have h : (if q1 = n then (some [k], q1) else if c q1 = 59 then (match prs c n m (q1 + 1) with
          | (some l, r) => (some (k :: l), r)
          | (none, r) => (none, r)) else (none, q1)) = (some l, q) := h
        by_cases c1 : q1 = n
        · rw [if_pos c1] at h; cases h; exact ⟨Nat.le_refl _, by simp⟩
        · rw [if_neg c1] at h
          by_cases c2 : c q1 = 59
          · rw [if_pos c2] at h
            cases e2 : prs c n m (q1 + 1) with
            | mk o2 r =>
              rw [e2] at h
              cases o2 with
              | none => cases h
              | some l2 =>
                cases h
                have := ih e2
                rw [List.length_cons]; omega
          · rw [if_neg c2] at h; cases h
theorem prs_all {c : Nat → Int32} {n : Nat} : ∀ {m p : Nat} {l : List (Nat × Option Nat)} {q : Nat}, prs c n m p = (some l, q) → ∀ k, k ∈ l → k.1 ≤ 63 ∧ ∀ v, k.2 = some v → v ≤ 999 := by
  intro m
  induction m with
  | zero => intro p l q h; cases h
  | succ m ih =>
    intro p l q h
    rw [prs] at h
    cases e : cmdP c n p with
    | mk o q1 =>
      rw [e] at h
      cases o with
      | none => cases h
      | some k =>
        have hk := (cmdP_b e).2.2
        have h : (if q1 = n then (some [k], q1) else if c q1 = 59 then (match prs c n m (q1 + 1) with
          | (some l, r) => (some (k :: l), r)
          | (none, r) => (none, r)) else (none, q1)) = (some l, q) := h
        by_cases c1 : q1 = n
        · rw [if_pos c1] at h; cases h
          intro k' hm
          rw [List.mem_singleton.mp hm]; exact hk
        · rw [if_neg c1] at h
          by_cases c2 : c q1 = 59
          · rw [if_pos c2] at h
            cases e2 : prs c n m (q1 + 1) with
            | mk o2 r =>
              rw [e2] at h
              cases o2 with
              | none => cases h
              | some l2 =>
                cases h
                intro k' hm
                rcases List.mem_cons.mp hm with z | z
                · rw [z]; exact hk
                · exact ih e2 k' z
          · rw [if_neg c2] at h; cases h
/-- the class runs what stands in its arrays -/
theorem kC_run {χ : XS} {l : List (Nat × Option Nat)} (A : AR (xs_text χ) l) (hl : l.length ≤ 20) (hall : ∀ k, k ∈ l → k.1 ≤ 63 ∧ ∀ v, k.2 = some v → v ≤ 999) {post : Int32 → XS → Prop} : ∀ (l2 l1 : List (Nat × Option Nat)) (E : DS) (σ : HS), l = l1 ++ l2 → RelC E σ → Inv E → (∀ r F, runR l2 E = (some r, F) → ∀ σ', post r (xs_setTrial χ σ')) → (∀ F, runR l2 E = (none, F) → ∀ σ', RelC F σ' → wpX3_settle (xs_setTrial χ σ') (nI l.length) post) → wpX3_perform_L25 post (l2.length + 1) (nI l1.length) (xs_setTrial χ σ) := by
  intro l2
  induction l2 with
  | nil =>
    intro l1 E σ e R I h1 h2
    rw [List.append_nil] at e
    show wpX3_perform_L25 post (0 + 1) (nI l1.length) (xs_setTrial χ σ)
    rw [wpX3_perform_L25]
    unfold wpX0_commandCount
    rw [show ct_commands (xs_text (xs_setTrial χ σ)) = nI l.length from A.1]
    have e9 : l1.length = l.length := by rw [e]
    refine pk_le l.length l1.length (fun _ => h2 E rfl σ R) (fun q => absurd q (by omega))
  | cons k l2 ih =>
    intro l1 E σ e R I h1 h2
    show wpX3_perform_L25 post ((l2.length + 1) + 1) (nI l1.length) (xs_setTrial χ σ)
    rw [wpX3_perform_L25]
    unfold wpX0_commandCount wpX0_commandSector wpX0_commandValue
    have el : l.length = l1.length + (l2.length + 1) := by rw [e, List.length_append, List.length_cons]
    rw [show ct_commands (xs_text (xs_setTrial χ σ)) = nI l.length from A.1]
    refine pk_le l.length l1.length (fun q => absurd q (by omega)) (fun _ => ⟨pk_in l1.length 20 (by omega), pk_in l1.length 20 (by omega), ?_⟩)
    rw [nI_clamp (by omega)]
    have ek : l[l1.length]? = some k := by rw [e, List.getElem?_append_right (Nat.le_refl _), Nat.sub_self]; rfl
    obtain ⟨s1, s2⟩ := A.2 _ _ ek
    rw [show ct_sectors (xs_text (xs_setTrial χ σ)) l1.length = nI k.1 from s1, show ct_values (xs_text (xs_setTrial χ σ)) l1.length = vl k.2 from s2]
    have hk := hall k (by rw [e]; simp)
    unfold runR at h1 h2
    have J : ∀ σ2, RelC (opR k E).2 σ2 → wpX3_perform_J83 (nI l1.length) post (wpX3_perform_L25 post (l2.length + 1)) (opR k E).1 (xs_setTrial (xs_setTrial χ σ) σ2) := by
      intro σ2 R2
      unfold wpX3_perform_J83
      refine ⟨fun z => ?_, fun z => ?_⟩
      · have z : ¬ (opR k E).1 < 0 := Int32.not_lt.mpr z
        rw [if_neg z] at h1 h2
        rw [nI_1]
        have y := ih (l1 ++ [k]) (opR k E).2 σ2 (by rw [e, List.append_assoc]; rfl) R2 (opR_inv I k) h1 h2
        rw [List.length_append] at y
        exact y
      · have z : (opR k E).1 < 0 := Int32.not_le.mp z
        rw [if_pos z] at h1
        exact h1 _ E rfl σ2
    unfold opR at J
    cases ev : k.2 with
    | none =>
      rw [ev] at J
      refine ⟨fun _ => kC_readAt (D := E) R I (fun σ2 R2 => ?_), fun z => absurd rfl z⟩
      rw [rR_adr E (by omega)] at R2 ⊢
      exact J σ2 R2
    | some v =>
      rw [ev] at J
      have hv := hk.2 v ev
      refine ⟨fun z => absurd z (co_ne (by omega)), fun _ => kC_writeAt (D := E) R I (fun σ2 R2 => ?_)⟩
      rw [wR_adr E (by omega)] at R2 ⊢
      exact J σ2 R2
/-! the reference's parser -/
def TM (μ : MO) (c : Nat → Int32) (n p : Nat) : Prop := mo_length μ = nI n ∧ mo_at μ = nI p ∧ ∀ j, j < n → mo_text μ j = c j
section PM
variable {μ : MO} {c : Nat → Int32} {n p : Nat}
theorem kM_stands (T : TM μ c n p) (hn : n ≤ 60) (hp : p ≤ n) {x : Int32} {post : Bool → MO → Prop} (h1 : p < n → c p = x → post true (mo_setAt μ (nI (p + 1)))) (h2 : ¬ (p < n ∧ c p = x) → post false μ) : wpX4_stands μ x post := by
  have e0 : mo_setAt μ (nI p + bi false) = μ := by
    rw [bi_f, Int32.add_zero, ← T.2.1]; rfl
  have h3 : ¬ (p < n ∧ c p = x) → wpX4_stands_J28 μ post := fun k => by
    unfold wpX4_stands_J28 wpX4_stands_J29
    refine ⟨fun z => (by cases z), fun _ => ?_⟩
    unfold wpX4_stands_J44
    rw [T.2.1, e0]; exact h2 k
  unfold wpX4_stands
  rw [T.1, T.2.1]
  refine pk_le n p (fun q => h3 (fun z => absurd z.1 (by omega))) (fun q => ⟨pk_in p 60 (by omega), ?_⟩)
  rw [nI_clamp (by omega), T.2.2 p (by omega)]
  refine ⟨fun z => ?_, fun z => h3 (fun y => z y.2)⟩
  unfold wpX4_stands_J29
  refine ⟨fun _ => ?_, fun w => (by cases w)⟩
  unfold wpX4_stands_J44
  rw [T.2.1, bi_t, nI_1]
  exact h1 (by omega) z
theorem dig_in {c : Nat → Int32} {p : Nat} {post : Bool → Prop} (h1 : ∀ d, dig c p = some d → post true) (h2 : dig c p = none → post false) : wpX4_in (c p) 48 57 post := by
  refine kM_in (lo := 48) (hi := 57) (by omega) (by omega) ?_
  by_cases q : 48 ≤ (c p).toInt ∧ (c p).toInt ≤ 57
  · rw [decide_eq_true (by omega)]
    exact h1 _ (by unfold dig; rw [if_pos q])
  · rw [decide_eq_false (by omega)]
    exact h2 (by unfold dig; rw [if_neg q])
theorem kM_number {lim : Nat} (hlim : 9 ≤ lim ∧ lim ≤ 999) (T : TM μ c n p) (hn : n ≤ 60) (hp : p ≤ n) {post : Int32 → MO → Prop} (h1 : ∀ v q, numP c n lim p = some (v, q) → post (nI v) (mo_setAt μ (nI q))) (h2 : numP c n lim p = none → post (-1) μ) : wpX4_number μ (nI lim) post := by
  have L : ∀ (m v r : Nat), r ≤ n → n ≤ r + m → v ≤ lim → post (nI (numL c n lim m v r).1) (mo_setAt μ (nI (numL c n lim m v r).2)) → wpX4_number_L55 (nI lim) post (m + 1) (nI v) (mo_setAt μ (nI r)) := by
    intro m
    induction m with
    | zero =>
      intro v r hr hm hv hq
      rw [wpX4_number_L55]
      rw [show mo_length (mo_setAt μ (nI r)) = nI n from T.1, show mo_at (mo_setAt μ (nI r)) = nI r from rfl]
      exact pk_le v 0 (fun _ => hq) (fun _ => pk_le n r (fun _ => hq) (fun q => absurd q (by omega)))
    | succ m ih =>
      intro v r hr hm hv hq
      rw [wpX4_number_L55]
      rw [show mo_length (mo_setAt μ (nI r)) = nI n from T.1, show mo_at (mo_setAt μ (nI r)) = nI r from rfl]
      unfold numL at hq
      refine pk_le v 0 (fun y => ?_) (fun y => pk_le n r (fun q => ?_) (fun q => ⟨pk_in r 60 (by omega), ?_⟩))
      · rw [if_pos (by omega)] at hq; exact hq
      · rw [if_neg (by omega), if_neg (by omega)] at hq; exact hq
      · rw [if_neg (by omega), if_pos (by omega)] at hq
        rw [nI_clamp (by omega), show mo_text (mo_setAt μ (nI r)) r = c r from T.2.2 r (by omega)]
        refine dig_in (fun d ed => ⟨fun _ => ?_, fun w => (by cases w)⟩) (fun ed => ⟨fun w => (by cases w), fun _ => ?_⟩)
        · rw [ed] at hq
          have hq : post (nI (if 10 * v + d ≤ lim then numL c n lim m (10 * v + d) (r + 1) else (v, r)).1) (mo_setAt μ (nI (if 10 * v + d ≤ lim then numL c n lim m (10 * v + d) (r + 1) else (v, r)).2)) := hq
          obtain ⟨hd, e8⟩ := dig_some ed
          rw [e8, show (10 : Int32) * nI v = nI (10 * v) from pk_mul 10 v, nI_add, show nI (10 * v + (48 + d)) - 48 = nI (10 * v + (48 + d) - 48) from pk_sub (b := 48) (by omega), show 10 * v + (48 + d) - 48 = 10 * v + d by omega]
          refine pk_lt lim (10 * v + d) (fun z => ?_) (fun z => ?_)
          · rw [if_neg (by omega)] at hq; exact hq
          · rw [if_pos (by omega)] at hq
            rw [nI_1]
            exact ih (10 * v + d) (r + 1) (by omega) (by omega) (by omega) hq
        · rw [ed] at hq; exact hq
  unfold wpX4_number
  rw [T.1, T.2.1]
  refine pk_eq p n (fun q => h2 ?_) (fun q => ⟨pk_in p 60 (by omega), ?_⟩)
  · unfold numP; rw [if_neg (by omega)]
  · rw [nI_clamp (by omega), T.2.2 p (by omega)]
    refine dig_in (fun d ed => ⟨fun _ => ⟨61, ?_⟩, fun w => (by cases w)⟩) (fun ed => ⟨fun w => (by cases w), fun _ => h2 ?_⟩)
    · obtain ⟨hd, e8⟩ := dig_some ed
      rw [e8, show nI (48 + d) - 48 = nI (48 + d - 48) from pk_sub (b := 48) (by omega), show 48 + d - 48 = d by omega, nI_1]
      refine L 60 d (p + 1) (by omega) (by omega) (by omega) (h1 _ _ ?_)
      unfold numP
      rw [if_pos (by omega), ed]
    · unfold numP
      rw [if_pos (by omega), ed]
/-- one command: parsed alone (0), or parsed and run -/
theorem kM_command (T : TM μ c n p) (hn : n ≤ 60) (hp : p ≤ n) {w : Int32} {post : Int32 → MO → Prop} (h1 : ∀ k q, cmdP c n p = (some k, q) → (w = 0 → post 0 (mo_setAt μ (nI q))) ∧ (¬ w = 0 → (k.2 = none → wpX4_reads (mo_setAt μ (nI q)) (nI k.1) post) ∧ (∀ v, k.2 = some v → wpX4_writes (mo_setAt μ (nI q)) (nI k.1) (nI v) post))) (h2 : ∀ q, cmdP c n p = (none, q) → post (-1000) (mo_setAt μ (nI q))) : wpX4_command μ w post := by
  unfold wpX4_command
  unfold cmdP at h1 h2
  refine kM_stands T hn hp (fun q e => ⟨fun _ => ?_, fun z => (by cases z)⟩) (fun no => ⟨fun z => (by cases z), fun _ => ?_⟩)
  · rw [if_neg (fun z => by have := z.2; rw [e] at this; exact absurd this (by decide)), if_pos ⟨q, e⟩] at h1 h2
    unfold wpX4_command_J24
    refine kM_number (μ := mo_setAt μ (nI (p + 1))) (c := c) (n := n) (p := p + 1) (lim := 63) (by omega) ⟨T.1, rfl, T.2.2⟩ hn (by omega) (fun s q1 en => ⟨fun z => absurd z (lt_neg (by have := (numP_b (by omega) en).1; omega)), fun _ => ⟨fun _ => ?_, fun z => (by cases z)⟩⟩) (fun en => ⟨fun _ => ?_, fun z => absurd (by decide) z⟩)
    · rw [en] at h1
      obtain ⟨g1, g2⟩ := h1 (s, none) q1 rfl
      unfold wpX4_command_J52
      refine ⟨fun _ => ?_, fun z => (by cases z)⟩
      unfold wpX4_command_J67
      exact ⟨fun _ => ⟨g1, fun z => ⟨fun _ => (g2 z).1 rfl, fun y => (by cases y)⟩⟩, fun z => absurd (by decide) z⟩
    · rw [en] at h2
      exact h2 (p + 1) rfl
  · refine kM_stands T hn hp (fun q e => ⟨fun _ => ?_, fun z => (by cases z)⟩) (fun no2 => ⟨fun z => (by cases z), fun _ => ?_⟩)
    · rw [if_pos ⟨q, e⟩] at h1 h2
      unfold wpX4_command_J24
      refine kM_number (μ := mo_setAt μ (nI (p + 1))) (c := c) (n := n) (p := p + 1) (lim := 63) (by omega) ⟨T.1, rfl, T.2.2⟩ hn (by omega) (fun s q1 en => ⟨fun z => absurd z (lt_neg (by have := (numP_b (by omega) en).1; omega)), fun _ => ⟨fun z => (by cases z), fun _ => ?_⟩⟩) (fun en => ⟨fun _ => ?_, fun z => absurd (by decide) z⟩)
      · obtain ⟨b1, b2, b3⟩ := numP_b (by omega) en
        rw [en] at h1 h2
        have h1 : ∀ k q, (if q1 < n ∧ c q1 = 61 then (match numP c n 999 (q1 + 1) with
          | some (v, r) => (some (s, some v), r)
          | none => (none, q1 + 1)) else ((none, q1) : Option (Nat × Option Nat) × Nat)) = (some k, q) → (w = 0 → post 0 (mo_setAt μ (nI q))) ∧ (¬ w = 0 → (k.2 = none → wpX4_reads (mo_setAt μ (nI q)) (nI k.1) post) ∧ (∀ v, k.2 = some v → wpX4_writes (mo_setAt μ (nI q)) (nI k.1) (nI v) post)) := h1
        have h2 : ∀ q, (if q1 < n ∧ c q1 = 61 then (match numP c n 999 (q1 + 1) with
          | some (v, r) => (some (s, some v), r)
          | none => (none, q1 + 1)) else ((none, q1) : Option (Nat × Option Nat) × Nat)) = (none, q) → post (-1000) (mo_setAt μ (nI q)) := h2
        refine kM_stands (μ := mo_setAt μ (nI q1)) (c := c) (n := n) (p := q1) ⟨T.1, rfl, T.2.2⟩ hn b3 (fun y e2 => ⟨fun _ => ?_, fun z => (by cases z)⟩) (fun no3 => ⟨fun z => (by cases z), fun _ => ?_⟩)
        · rw [if_pos ⟨y, e2⟩] at h1 h2
          unfold wpX4_command_J52
          refine ⟨fun z => (by cases z), fun _ => ?_⟩
          refine kM_number (μ := mo_setAt μ (nI (q1 + 1))) (c := c) (n := n) (p := q1 + 1) (lim := 999) (by omega) ⟨T.1, rfl, T.2.2⟩ hn (by omega) (fun v q2 en2 => ?_) (fun en2 => ?_)
          · rw [en2] at h1
            obtain ⟨g1, g2⟩ := h1 (s, some v) q2 rfl
            have bv := (numP_b (by omega) en2).1
            unfold wpX4_command_J67
            exact ⟨fun _ => ⟨g1, fun z => ⟨fun y => (by cases y), fun _ => (g2 z).2 v rfl⟩⟩, fun z => absurd (nI_pos' (by omega)) z⟩
          · rw [en2] at h2
            unfold wpX4_command_J67
            exact ⟨fun z => absurd z (by decide), fun _ => h2 (q1 + 1) rfl⟩
        · rw [if_neg no3] at h2
          exact h2 q1 rfl
      · rw [en] at h2
        exact h2 (p + 1) rfl
    · rw [if_neg no2, if_neg no] at h2
      have z := h2 p rfl
      rw [← T.2.1] at z
      exact z
end PM
