/-! the text of commands -/
def dig (c : Nat → Int32) (p : Nat) : Option Nat := if 48 ≤ (c p).toInt ∧ (c p).toInt ≤ 57 then some ((c p).toInt.toNat - 48) else none
def numL (c : Nat → Int32) (n lim : Nat) : Nat → Nat → Nat → Nat × Nat
  | 0, v, p => (v, p)
  | m + 1, v, p => if v = 0 then (v, p) else if p < n then (match dig c p with
    | some d => if 10 * v + d ≤ lim then numL c n lim m (10 * v + d) (p + 1) else (v, p)
    | none => (v, p)) else (v, p)
def numP (c : Nat → Int32) (n lim p : Nat) : Option (Nat × Nat) := if p < n then (match dig c p with
  | some d => some (numL c n lim 60 d (p + 1))
  | none => none) else none
def cmdP (c : Nat → Int32) (n p : Nat) : Option (Nat × Option Nat) × Nat :=
  if p < n ∧ c p = 119 then (match numP c n 63 (p + 1) with
    | some (s, q) => if q < n ∧ c q = 61 then (match numP c n 999 (q + 1) with
      | some (v, r) => (some (s, some v), r)
      | none => (none, q + 1)) else (none, q)
    | none => (none, p + 1))
  else if p < n ∧ c p = 114 then (match numP c n 63 (p + 1) with
    | some (s, q) => (some (s, none), q)
    | none => (none, p + 1))
  else (none, p)
def prs (c : Nat → Int32) (n : Nat) : Nat → Nat → Option (List (Nat × Option Nat)) × Nat
  | 0, p => (none, p)
  | m + 1, p => match cmdP c n p with
    | (some k, q) => if q = n then (some [k], q) else if c q = 59 then (match prs c n m (q + 1) with
      | (some l, r) => (some (k :: l), r)
      | (none, r) => (none, r)) else (none, q)
    | (none, q) => (none, q)
theorem dig_some {c : Nat → Int32} {p d : Nat} (h : dig c p = some d) : d ≤ 9 ∧ c p = nI (48 + d) := by
  unfold dig at h
  by_cases q : 48 ≤ (c p).toInt ∧ (c p).toInt ≤ 57
  · rw [if_pos q] at h
    cases h
    refine ⟨by omega, ?_⟩
    apply Int32.toInt_inj.mp
    rw [nI_toInt (by omega)]
    omega
  · rw [if_neg q] at h; cases h
theorem dig_none {c : Nat → Int32} {p : Nat} (h : dig c p = none) : ¬ (48 ≤ (c p).toInt ∧ (c p).toInt ≤ 57) := fun q => by
  unfold dig at h
  rw [if_pos q] at h; cases h
theorem numL_b {c : Nat → Int32} {n lim : Nat} : ∀ {m v p : Nat}, v ≤ lim → p ≤ n → (numL c n lim m v p).1 ≤ lim ∧ p ≤ (numL c n lim m v p).2 ∧ (numL c n lim m v p).2 ≤ n := by
  intro m
  induction m with
  | zero => intro v p h1 h2; exact ⟨h1, Nat.le_refl _, h2⟩
  | succ m ih =>
    intro v p h1 h2
    unfold numL
    by_cases c1 : v = 0
    · rw [if_pos c1]; exact ⟨h1, Nat.le_refl _, h2⟩
    · rw [if_neg c1]
      by_cases c2 : p < n
      · rw [if_pos c2]
        cases e : dig c p with
        | none => exact ⟨h1, Nat.le_refl _, h2⟩
        | some d =>
          show (if 10 * v + d ≤ lim then numL c n lim m (10 * v + d) (p + 1) else (v, p)).1 ≤ lim ∧ p ≤ (if 10 * v + d ≤ lim then numL c n lim m (10 * v + d) (p + 1) else (v, p)).2 ∧ (if 10 * v + d ≤ lim then numL c n lim m (10 * v + d) (p + 1) else (v, p)).2 ≤ n
          by_cases c3 : 10 * v + d ≤ lim
          · rw [if_pos c3]
            obtain ⟨k1, k2, k3⟩ := ih c3 (show p + 1 ≤ n by omega)
            exact ⟨k1, by omega, k3⟩
          · rw [if_neg c3]; exact ⟨h1, Nat.le_refl _, h2⟩
      · rw [if_neg c2]; exact ⟨h1, Nat.le_refl _, h2⟩
theorem numP_b {c : Nat → Int32} {n lim p v q : Nat} (hl : 9 ≤ lim) (h : numP c n lim p = some (v, q)) : v ≤ lim ∧ p < q ∧ q ≤ n := by
  unfold numP at h
  by_cases c1 : p < n
  · rw [if_pos c1] at h
    cases e : dig c p with
    | none => rw [e] at h; cases h
    | some d =>
      rw [e] at h
      have h : some (numL c n lim 60 d (p + 1)) = some (v, q) := h
      have hd := (dig_some e).1
      obtain ⟨k1, k2, k3⟩ := numL_b (c := c) (n := n) (lim := lim) (m := 60) (v := d) (p := p + 1) (by omega) (by omega)
      rw [Option.some.inj h] at k1 k2 k3
      exact ⟨k1, by omega, k3⟩
  · rw [if_neg c1] at h; cases h
theorem cmdP_b {c : Nat → Int32} {n p q : Nat} {k : Nat × Option Nat} (h : cmdP c n p = (some k, q)) : p + 2 ≤ q ∧ q ≤ n ∧ k.1 ≤ 63 ∧ ∀ v, k.2 = some v → v ≤ 999 := by
  unfold cmdP at h
  by_cases c1 : p < n ∧ c p = 119
  · rw [if_pos c1] at h
    cases e : numP c n 63 (p + 1) with
    | none => rw [e] at h; cases h
    | some sq =>
      obtain ⟨s, q1⟩ := sq
      rw [e] at h
      obtain ⟨b1, b2, b3⟩ := numP_b (by omega) e
      have h : (if q1 < n ∧ c q1 = 61 then (match numP c n 999 (q1 + 1) with
        | some (v, r) => (some (s, some v), r)
        | none => (none, q1 + 1)) else (none, q1)) = (some k, q) := h
      by_cases c2 : q1 < n ∧ c q1 = 61
      · rw [if_pos c2] at h
        cases e2 : numP c n 999 (q1 + 1) with
        | none => rw [e2] at h; cases h
        | some vr =>
          obtain ⟨v, r⟩ := vr
          rw [e2] at h
          cases h
          obtain ⟨d1, d2, d3⟩ := numP_b (by omega) e2
          exact ⟨by omega, by omega, b1, fun v' hv => by cases hv; exact d1⟩
      · rw [if_neg c2] at h; cases h
  · rw [if_neg c1] at h
    by_cases c2 : p < n ∧ c p = 114
    · rw [if_pos c2] at h
      cases e : numP c n 63 (p + 1) with
      | none => rw [e] at h; cases h
      | some sq =>
        obtain ⟨s, q1⟩ := sq
        rw [e] at h
        cases h
        obtain ⟨b1, b2, b3⟩ := numP_b (by omega) e
        exact ⟨by omega, by omega, b1, fun v' hv => by cases hv⟩
    · rw [if_neg c2] at h; cases h
theorem cmdP_n {c : Nat → Int32} {n p q : Nat} (hp : p ≤ n) (h : cmdP c n p = (none, q)) : p ≤ q ∧ q ≤ n := by
  unfold cmdP at h
  by_cases c1 : p < n ∧ c p = 119
  · rw [if_pos c1] at h
    cases e : numP c n 63 (p + 1) with
    | none => rw [e] at h; cases h; omega
    | some sq =>
      obtain ⟨s, q1⟩ := sq
      rw [e] at h
      obtain ⟨b1, b2, b3⟩ := numP_b (by omega) e
      have h : (if q1 < n ∧ c q1 = 61 then (match numP c n 999 (q1 + 1) with
        | some (v, r) => (some (s, some v), r)
        | none => (none, q1 + 1)) else (none, q1)) = (none, q) := h
      by_cases c2 : q1 < n ∧ c q1 = 61
      · rw [if_pos c2] at h
        cases e2 : numP c n 999 (q1 + 1) with
        | none => rw [e2] at h; cases h; omega
        | some vr =>
          obtain ⟨v, r⟩ := vr
          rw [e2] at h
          cases h
      · rw [if_neg c2] at h; cases h; omega
  · rw [if_neg c1] at h
    by_cases c2 : p < n ∧ c p = 114
    · rw [if_pos c2] at h
      cases e : numP c n 63 (p + 1) with
      | none => rw [e] at h; cases h; omega
      | some sq =>
        obtain ⟨s, q1⟩ := sq
        rw [e] at h
        cases h
    · rw [if_neg c2] at h; cases h; omega
/-! the class's parser -/
def TX (τ : CT) (n p : Nat) : Prop := ct_length τ = nI n ∧ ct_at τ = nI p
section PX
variable {τ : CT} {n p : Nat}
theorem kX_digitAt (e1 : ct_length τ = nI n) (hn : n ≤ 60) (hp : p ≤ 60) {post : Int32 → Prop} (h1 : ∀ d, p < n → dig (ct_codes τ) p = some d → post (nI d)) (h2 : (p < n → dig (ct_codes τ) p = none) → post (-5)) : wpX0_digitAt τ (nI p) post := by
  unfold wpX0_digitAt
  rw [e1]
  refine pk_le n p (fun q => h2 (fun z => absurd z (by omega))) (fun q => ⟨pk_in p 60 (by omega), ?_⟩)
  have q : p < n := by omega
  rw [nI_clamp (by omega)]
  have z48 : (48 : Int32).toInt = 48 := by decide
  have z57 : (57 : Int32).toInt = 57 := by decide
  refine ⟨fun y => h2 (fun _ => ?_), fun y => ⟨fun x => ?_, fun x => h2 (fun _ => ?_)⟩⟩
  · rw [Int32.lt_iff_toInt_lt, z48] at y
    unfold dig; rw [if_neg (by omega)]
  · rw [Int32.lt_iff_toInt_lt, z48] at y
    rw [Int32.le_iff_toInt_le, z57] at x
    have e : dig (ct_codes τ) p = some ((ct_codes τ p).toInt.toNat - 48) := by unfold dig; rw [if_pos (by omega)]
    obtain ⟨b1, b2⟩ := dig_some e
    have z := h1 _ q e
    generalize (ct_codes τ p).toInt.toNat - 48 = d at b1 b2 z
    rw [b2, show nI (48 + d) - 48 = nI (48 + d - 48) from pk_sub (b := 48) (by omega), show 48 + d - 48 = d by omega]
    exact z
  · rw [Int32.le_iff_toInt_le, z57] at x
    unfold dig; rw [if_neg (by omega)]
theorem kX_take (T : TX τ n p) (hn : n ≤ 60) (hp : p ≤ n) {x : Int32} (hx : ¬ (-1 : Int32) = x) {post : Bool → CT → Prop} (h1 : p < n → ct_codes τ p = x → post true (ct_setAt τ (nI (p + 1)))) (h2 : ¬ (p < n ∧ ct_codes τ p = x) → post false τ) : wpX0_take τ x post := by
  unfold wpX0_take wpX0_peek
  rw [T.1, T.2, nI_1]
  refine pk_le n p (fun q => ⟨fun z => absurd z hx, fun _ => h2 (fun z => absurd z.1 (by omega))⟩) (fun q => ⟨pk_in p 60 (by omega), ?_⟩)
  rw [nI_clamp (by omega)]
  exact ⟨fun z => h1 (by omega) z, fun z => h2 (fun y => z y.2)⟩
theorem kX_number {lim : Nat} (hlim : 9 ≤ lim ∧ lim ≤ 999) (T : TX τ n p) (hn : n ≤ 60) (hp : p ≤ n) {post : Int32 → CT → Prop} (h1 : ∀ v q, numP (ct_codes τ) n lim p = some (v, q) → post (nI v) (ct_setAt τ (nI q))) (h2 : numP (ct_codes τ) n lim p = none → post (-5) τ) : wpX0_takeNumber τ (nI lim) post := by
  have L : ∀ (m v r : Nat) (hr : r ≤ n), n ≤ r + m → v ≤ lim → post (nI (numL (ct_codes τ) n lim m v r).1) (ct_setAt τ (nI (numL (ct_codes τ) n lim m v r).2)) → wpX0_takeNumber_L28 (nI lim) post (m + 1) (nI v) (ct_setAt τ (nI r)) := by
    intro m
    induction m with
    | zero =>
      intro v r hr hm hv hq
      rw [wpX0_takeNumber_L28]
      have e : ct_length (ct_setAt τ (nI r)) = nI n := T.1
      rw [e]
      exact pk_le n r (fun _ => hq) (fun q => absurd q (by omega))
    | succ m ih =>
      intro v r hr hm hv hq
      rw [wpX0_takeNumber_L28]
      have e : ct_length (ct_setAt τ (nI r)) = nI n := T.1
      have e2 : ct_at (ct_setAt τ (nI r)) = nI r := rfl
      rw [e, e2]
      unfold numL at hq
      refine pk_le n r (fun q => ?_) (fun q => pk_le v 0 (fun y => ?_) (fun y => ?_))
      · by_cases c1 : v = 0
        · rw [if_pos c1] at hq; exact hq
        · rw [if_neg c1, if_neg (by omega)] at hq; exact hq
      · rw [if_pos (by omega)] at hq; exact hq
      · rw [if_neg (by omega), if_pos (by omega)] at hq
        refine kX_digitAt (τ := ct_setAt τ (nI r)) e hn (by omega) (fun d hr2 ed => ?_) (fun hno => ⟨fun _ => ?_, fun z => absurd rfl z⟩)
        · have ed : dig (ct_codes τ) r = some d := ed
          rw [ed] at hq
          have hq : post (nI (if 10 * v + d ≤ lim then numL (ct_codes τ) n lim m (10 * v + d) (r + 1) else (v, r)).1) (ct_setAt τ (nI (if 10 * v + d ≤ lim then numL (ct_codes τ) n lim m (10 * v + d) (r + 1) else (v, r)).2)) := hq
          have hd := (dig_some ed).1
          refine ⟨fun z => absurd z (co_ne (by omega)), fun _ => ?_⟩
          rw [show (10 : Int32) * nI v = nI (10 * v) from pk_mul 10 v, nI_add]
          refine pk_le (10 * v + d) lim (fun z => ?_) (fun z => ?_)
          · rw [if_pos z] at hq
            rw [nI_1]
            exact ih (10 * v + d) (r + 1) (by omega) (by omega) z hq
          · rw [if_neg (by omega)] at hq; exact hq
        · have ed : dig (ct_codes τ) r = none := hno (by omega)
          rw [ed] at hq; exact hq
  unfold wpX0_takeNumber
  rw [T.2]
  refine kX_digitAt T.1 hn (by omega) (fun d hr2 ed => ⟨fun z => absurd z (co_ne (by have := (dig_some ed).1; omega)), fun _ => ⟨61, ?_⟩⟩) (fun hno => ⟨fun _ => h2 ?_, fun z => absurd rfl z⟩)
  · rw [nI_1]
    have hd := (dig_some ed).1
    refine L 60 d (p + 1) (by omega) (by omega) (by omega) (h1 _ _ ?_)
    unfold numP
    rw [if_pos hr2, ed]
  · unfold numP
    by_cases c : p < n
    · rw [if_pos c, hno c]
    · rw [if_neg c]
def vl : Option Nat → Int32
  | none => -5
  | some v => nI v
def AR (τ : CT) (l : List (Nat × Option Nat)) : Prop := ct_commands τ = nI l.length ∧ ∀ j k, l[j]? = some k → ct_sectors τ j = nI k.1 ∧ ct_values τ j = vl k.2
def FR (τ τ' : CT) : Prop := ct_length τ' = ct_length τ ∧ ct_codes τ' = ct_codes τ
theorem kX_add {l : List (Nat × Option Nat)} (A : AR τ l) (hl : l.length < 20) {k : Nat × Option Nat} {x v : Int32} (hx : x = nI k.1) (hv : v = vl k.2) {post : CT → Prop} (h : ∀ τ', FR τ τ' → ct_at τ' = ct_at τ → AR τ' (l ++ [k]) → post τ') : wpX0_addCommand τ x v post := by
  unfold wpX0_addCommand
  rw [A.1]
  refine pk_le 20 l.length (fun q => absurd q (by omega)) (fun _ => ⟨pk_in l.length 20 hl, h _ ⟨rfl, rfl⟩ rfl ⟨?_, fun j k' e => ?_⟩⟩)
  · show nI l.length + 1 = _
    rw [nI_1, List.length_append]; rfl
  · show upd (ct_sectors τ) (nI l.length).toNatClampNeg x j = nI k'.1 ∧ upd (ct_values τ) (nI l.length).toNatClampNeg v j = vl k'.2
    rw [nI_clamp (by omega)]
    by_cases c : j = l.length
    · rw [c, List.getElem?_append_right (Nat.le_refl _), Nat.sub_self] at e
      have e : some k = some k' := e
      cases e
      rw [c, upd_eq, upd_eq]; exact ⟨hx, hv⟩
    · rw [upd_ne _ _ c, upd_ne _ _ c]
      by_cases c2 : j < l.length
      · rw [List.getElem?_append_left c2] at e
        exact A.2 j k' e
      · rw [List.getElem?_append_right (by omega)] at e
        have : (j - l.length) ≠ 0 := by omega
        rw [List.getElem?_eq_none (by simp; omega)] at e; cases e
theorem kX_command {l : List (Nat × Option Nat)} (A : AR τ l) (hl : l.length < 20) (T : TX τ n p) (hn : n ≤ 60) (hp : p ≤ n) {post : Bool → CT → Prop} (h1 : ∀ k q, cmdP (ct_codes τ) n p = (some k, q) → ∀ τ', FR τ τ' → ct_at τ' = nI q → AR τ' (l ++ [k]) → post true τ') (h2 : ∀ q, cmdP (ct_codes τ) n p = (none, q) → ∀ τ', FR τ τ' → ct_at τ' = nI q → post false τ') : wpX0_takeCommand τ post := by
  unfold wpX0_takeCommand
  unfold cmdP at h1 h2
  refine kX_take T hn hp (by decide) (fun q e => ⟨fun _ => ?_, fun z => (by cases z)⟩) (fun no => ⟨fun z => (by cases z), fun _ => ?_⟩)
  · rw [if_pos ⟨q, e⟩] at h1 h2
    unfold wpX0_takeCommand_J22
    refine kX_number (τ := ct_setAt τ (nI (p + 1))) (n := n) (p := p + 1) (lim := 63) (by omega) ⟨T.1, rfl⟩ hn (by omega) (fun s q1 en => ⟨fun z => absurd z (co_ne (by have := (numP_b (by omega) en).1; omega)), fun _ => ⟨fun _ => ?_, fun z => (by cases z)⟩⟩) (fun en => ⟨fun _ => ?_, fun z => absurd rfl z⟩)
    · have en : numP (ct_codes τ) n 63 (p + 1) = some (s, q1) := en
      obtain ⟨b1, b2, b3⟩ := numP_b (by omega) en
      rw [en] at h1 h2
      refine kX_take (τ := ct_setAt (ct_setAt τ (nI (p + 1))) (nI q1)) (n := n) (p := q1) ⟨T.1, rfl⟩ hn b3 (by decide) (fun y e2 => ⟨fun _ => ?_, fun z => (by cases z)⟩) (fun no => ⟨fun z => (by cases z), fun _ => ?_⟩)
      · have e2 : ct_codes τ q1 = 61 := e2
        have h1 : ∀ k q, (if q1 < n ∧ ct_codes τ q1 = 61 then (match numP (ct_codes τ) n 999 (q1 + 1) with
          | some (v, r) => (some (s, some v), r)
          | none => (none, q1 + 1)) else ((none, q1) : Option (Nat × Option Nat) × Nat)) = (some k, q) → ∀ τ', FR τ τ' → ct_at τ' = nI q → AR τ' (l ++ [k]) → post true τ' := h1
        have h2 : ∀ q, (if q1 < n ∧ ct_codes τ q1 = 61 then (match numP (ct_codes τ) n 999 (q1 + 1) with
          | some (v, r) => (some (s, some v), r)
          | none => (none, q1 + 1)) else ((none, q1) : Option (Nat × Option Nat) × Nat)) = (none, q) → ∀ τ', FR τ τ' → ct_at τ' = nI q → post false τ' := h2
        rw [if_pos ⟨y, e2⟩] at h1 h2
        refine kX_number (τ := ct_setAt (ct_setAt (ct_setAt τ (nI (p + 1))) (nI q1)) (nI (q1 + 1))) (n := n) (p := q1 + 1) (lim := 999) (by omega) ⟨T.1, rfl⟩ hn (by omega) (fun v q2 en2 => ⟨fun z => absurd z (co_ne (by have := (numP_b (by omega) en2).1; omega)), fun _ => ?_⟩) (fun en2 => ⟨fun _ => ?_, fun z => absurd rfl z⟩)
        · have en2 : numP (ct_codes τ) n 999 (q1 + 1) = some (v, q2) := en2
          rw [en2] at h1
          unfold wpX0_takeCommand_J71
          refine kX_add (k := (s, some v)) (l := l) ?_ hl rfl rfl (fun τ' F' a' A' => h1 (s, some v) q2 rfl τ' F' a' A')
          exact A
        · have en2 : numP (ct_codes τ) n 999 (q1 + 1) = none := en2
          rw [en2] at h2
          exact h2 (q1 + 1) rfl _ ⟨rfl, rfl⟩ rfl
      · have no : ¬ (q1 < n ∧ ct_codes τ q1 = 61) := no
        have h2 : ∀ q, (if q1 < n ∧ ct_codes τ q1 = 61 then (match numP (ct_codes τ) n 999 (q1 + 1) with
          | some (v, r) => (some (s, some v), r)
          | none => (none, q1 + 1)) else ((none, q1) : Option (Nat × Option Nat) × Nat)) = (none, q) → ∀ τ', FR τ τ' → ct_at τ' = nI q → post false τ' := h2
        rw [if_neg no] at h2
        exact h2 q1 rfl _ ⟨rfl, rfl⟩ rfl
    · have en : numP (ct_codes τ) n 63 (p + 1) = none := en
      rw [en] at h2
      exact h2 (p + 1) rfl _ ⟨rfl, rfl⟩ rfl
  · rw [if_neg no] at h1 h2
    refine kX_take T hn hp (by decide) (fun q e => ⟨fun _ => ?_, fun z => (by cases z)⟩) (fun no2 => ⟨fun z => (by cases z), fun _ => ?_⟩)
    · rw [if_pos ⟨q, e⟩] at h1 h2
      unfold wpX0_takeCommand_J22
      refine kX_number (τ := ct_setAt τ (nI (p + 1))) (n := n) (p := p + 1) (lim := 63) (by omega) ⟨T.1, rfl⟩ hn (by omega) (fun s q1 en => ⟨fun z => absurd z (co_ne (by have := (numP_b (by omega) en).1; omega)), fun _ => ⟨fun z => (by cases z), fun _ => ?_⟩⟩) (fun en => ⟨fun _ => ?_, fun z => absurd rfl z⟩)
      · have en : numP (ct_codes τ) n 63 (p + 1) = some (s, q1) := en
        rw [en] at h1
        unfold wpX0_takeCommand_J71
        refine kX_add (k := (s, none)) (l := l) ?_ hl rfl rfl (fun τ' F' a' A' => h1 (s, none) q1 rfl τ' F' a' A')
        exact A
      · have en : numP (ct_codes τ) n 63 (p + 1) = none := en
        rw [en] at h2
        exact h2 (p + 1) rfl _ ⟨rfl, rfl⟩ rfl
    · rw [if_neg no2] at h2
      exact h2 p rfl τ ⟨rfl, rfl⟩ T.2
end PX
