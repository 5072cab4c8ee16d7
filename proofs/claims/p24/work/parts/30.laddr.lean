/-! the law's check of addresses -/
theorem lost_sp {D : DS} {a : Nat} (h : isAd (d_sp D) a = false) : lostQ D a = false := by unfold lostQ; rw [h]; rfl
theorem lw_sp {D : DS} {a : Nat} (h : isAd (d_sp D) a = false) : lwD D a = false := by unfold lwD; rw [h]; rfl
theorem els_sp {D : DS} {h a : Nat} (q : isAd (d_sp D) a = false) : elsQ (srv (d_sp D) (d_bY D)) h a = false := by unfold elsQ; rw [srv_sp q]
section LA
variable {χ : XS} {D : DS} {n : Nat} {H : Nat → DS}
theorem kL_place (S : SX χ D n H) {h p : Nat} (hh : h < 4) (hp : p < 16) {l1 l3 l6 l7 l8 l9 l10 r64 : Int32} {b88 b109 : Bool} {post : Bool → Prop} {κ9 : Int32 → Int32 → Int32 → Int32 → Prop} {κ41 : Int32 → Int32 → Int32 → Int32 → Int32 → Int32 → Int32 → Int32 → Prop}
    (hs : isAd (d_sp D) (16 * h + p) = false → κ41 l1 l3 l6 l7 (l8 + r64) (l9 + bi b88) (l10 + bi b109) (nI p + 1))
    (ha : isAd (d_sp D) (16 * h + p) = true → κ41 (l1 + 1) (l3 + bi (lwD D (16 * h + p))) (l6 + bi (lostQ D (16 * h + p))) (l7 + bi (elsQ (srv (d_sp D) (d_bY D)) h (16 * h + p))) (l8 + r64) (l9 + bi b88) (l10 + bi b109) (nI p + 1)) :
    wpL_addresses_J109 χ (nI h) (co (lendH D h)) l1 l3 l6 l7 l8 l9 l10 (nI p) r64 b88 post κ9 κ41 b109 := by
  have B := S.2.1.1
  have hl : 16 * h + p < 64 := by omega
  have hph : (16 : Int32) * nI h + nI p = nI (16 * h + p) := nI_ph h p
  have hd : (16 * h + p) / 16 = h := by omega
  unfold wpL_addresses_J109
  rw [hph]
  refine qSec S hl ?_
  rw [secR_2]
  by_cases q : isAd (d_sp D) (16 * h + p) = true
  · have ha := ha q
    rw [if_pos q]
    refine ⟨fun z => absurd z (by decide), fun _ => qAdY S q ?_⟩
    rw [addrR_1]
    have J323 : ∀ (u v w : Bool), w = lostQ D (16 * h + p) → v = elsQ (srv (d_sp D) (d_bY D)) h (16 * h + p) → u = lwD D (16 * h + p) → wpL_addresses_J323 χ (nI h) (co (lendH D h)) l1 l3 l6 l7 l8 l9 l10 (nI p) r64 b88 b109 w v u post κ9 κ41 := by
      intro u v w e1 e2 e3
      unfold wpL_addresses_J323
      rw [hph]
      refine qAdY S q ?_
      rw [addrR_3, show lendD D (16 * h + p) = lendH D h by show lendH D ((16 * h + p) / 16) = _; rw [hd], e1, e2, e3]
      exact ⟨fun _ => ha, fun z => absurd rfl z⟩
    by_cases c : d_bY D (16 * h + p) < 64
    · have hv := B.val _ hl
      have e1 : lostQ D (16 * h + p) = false := by unfold lostQ; rw [decide_eq_false (by omega), Bool.and_false]
      have e2 : elsQ (srv (d_sp D) (d_bY D)) h (16 * h + p) = !decide (d_bY D (16 * h + p) / 16 = h) := by unfold elsQ; rw [srv_ad q c]
      have e3 : lwD D (16 * h + p) = decide (d_bY D (16 * h + p) ≠ 16 * h + p) := by
        unfold lwD
        rw [q, Bool.true_and]
        by_cases z : d_bY D (16 * h + p) ≠ 16 * h + p
        · rw [decide_eq_true z, decide_eq_true ⟨c, z⟩]
        · rw [decide_eq_false z, decide_eq_false (fun w => z w.2)]
      have ecl : cli (d_sp D) (d_bY D) (d_bY D (16 * h + p)) = some (16 * h + p) := cli_is B.inj c q rfl
      rw [srv_ad q c, show co (some (d_bY D (16 * h + p))) = nI (d_bY D (16 * h + p)) from rfl]
      refine ⟨fun _ => ?_, fun z => absurd (nI_pos' (by omega)) z⟩
      unfold wpL_addresses_J160 wpL_addresses_J184
      refine ⟨fun z => absurd z (nI_lt0 (by omega)), fun _ => ?_⟩
      rw [nI_pd (by omega)]
      have J185 : ∀ v, v = elsQ (srv (d_sp D) (d_bY D)) h (16 * h + p) → wpL_addresses_J185 χ (nI h) (co (lendH D h)) l1 l3 l6 l7 l8 l9 l10 (nI p) r64 b88 b109 (nI (d_bY D (16 * h + p))) false post κ9 κ41 v := by
        intro v hv2
        have J206 : ∀ u, u = lwD D (16 * h + p) → wpL_addresses_J206 χ (nI h) (co (lendH D h)) l1 l3 l6 l7 l8 l9 l10 (nI p) r64 b88 b109 (nI (d_bY D (16 * h + p))) false v post κ9 κ41 u := by
          intro u hu
          have J290 : ∀ w w', w' = w → wpL_addresses_J290 χ (nI h) (co (lendH D h)) l1 l3 l6 l7 l8 l9 l10 (nI p) r64 b88 b109 (nI (d_bY D (16 * h + p))) false v u w post κ9 κ41 w' := by
            intro w w' e
            unfold wpL_addresses_J290
            rw [e, hph]
            refine ⟨fun _ => qAdY S q ?_, fun z => absurd rfl z⟩
            rw [addrR_4, if_pos c]
            refine kL_steps S q c ⟨fun _ => qAdY S q ?_, fun z => absurd rfl z⟩
            rw [addrR_0, if_pos c]
            exact ⟨fun _ => J323 u v false e1.symm hv2 hu, fun z => absurd (nI_pos' (by omega)) z⟩
          have J278 : ∀ w, w = decide (d_bY D (16 * h + p) ≠ 16 * h + p) → wpL_addresses_J278 χ (nI h) (co (lendH D h)) l1 l3 l6 l7 l8 l9 l10 (nI p) r64 b88 b109 (nI (d_bY D (16 * h + p))) false v u post κ9 κ41 w := by
            intro w hw
            unfold wpL_addresses_J278
            rw [hph]
            refine pk_eq (d_bY D (16 * h + p)) (16 * h + p) (fun z => J290 w false ?_) (fun z => J290 w true ?_)
            · rw [hw, decide_eq_false (fun y => y z)]
            · rw [hw, decide_eq_true z]
          unfold wpL_addresses_J206
          rw [hph]
          refine ⟨fun _ => qSec S c ?_, fun z => absurd (nI_pos' (by omega)) z⟩
          rw [secR_3, ecl]
          refine ⟨fun _ => qAdY S q ?_, fun z => absurd rfl z⟩
          rw [addrR_2]
          by_cases z : d_bY D (16 * h + p) ≠ 16 * h + p
          · rw [if_pos ⟨c, z⟩]
            exact ⟨fun _ => J278 true (decide_eq_true z).symm, fun y => absurd rfl y⟩
          · rw [if_neg (fun w => z w.2)]
            exact ⟨fun y => absurd y (by decide), fun _ => J278 false (decide_eq_false z).symm⟩
        unfold wpL_addresses_J185 wpL_addresses_J205
        rw [hph]
        refine ⟨fun z => absurd z (nI_lt0 (by omega)), fun _ => pk_eq (d_bY D (16 * h + p)) (16 * h + p) (fun z => J206 false ?_) (fun z => J206 true ?_)⟩
        · rw [e3, decide_eq_false (fun y => y z)]
        · rw [e3, decide_eq_true z]
      refine pk_eq (d_bY D (16 * h + p) / 16) h (fun z => J185 false ?_) (fun z => J185 true ?_)
      · rw [e2, decide_eq_true z]; rfl
      · rw [e2, decide_eq_false z]; rfl
    · have e1 : lostQ D (16 * h + p) = true := by unfold lostQ; rw [q, decide_eq_true (by omega)]; rfl
      have esv : srv (d_sp D) (d_bY D) (16 * h + p) = none := srv_lost (Nat.not_lt.mp c)
      have e2 : elsQ (srv (d_sp D) (d_bY D)) h (16 * h + p) = false := by unfold elsQ; rw [esv]
      have e3 : lwD D (16 * h + p) = false := by unfold lwD; rw [decide_eq_false (fun z => c z.1), Bool.and_false]
      have n5 : (-5 : Int32) < 0 := by decide
      have p5 : ¬ (0 : Int32) ≤ -5 := by decide
      rw [esv, show co none = -5 from rfl]
      refine ⟨fun z => absurd z p5, fun _ => ?_⟩
      unfold wpL_addresses_J160 wpL_addresses_J184
      refine ⟨fun _ => ?_, fun z => absurd n5 z⟩
      unfold wpL_addresses_J185 wpL_addresses_J205
      refine ⟨fun _ => ?_, fun z => absurd n5 z⟩
      unfold wpL_addresses_J206
      rw [hph]
      refine ⟨fun z => absurd z p5, fun _ => qAdY S q ?_⟩
      rw [addrR_0, if_neg c]
      refine ⟨fun _ => qAdY S q ?_, fun z => absurd rfl z⟩
      rw [addrR_4, if_neg c]
      refine ⟨fun _ => qAdY S q ?_, fun z => absurd rfl z⟩
      rw [addrR_2, if_neg (fun z => c z.1)]
      exact ⟨fun _ => J323 false false true e1.symm e2.symm e3.symm, fun z => absurd rfl z⟩
  · have q : isAd (d_sp D) (16 * h + p) = false := by simpa using q
    rw [if_neg (by rw [q]; decide)]
    refine ⟨fun _ => qAdN S (by omega) q ⟨fun _ => hs q, fun z => absurd rfl z⟩, fun z => absurd rfl z⟩
theorem kL_inner (S : SX χ D n H) {h : Nat} (hh : h < 4) {l2 : Int32} {post : Bool → Prop} {κ9 : Int32 → Int32 → Int32 → Int32 → Prop} {TA TF : Nat} (hend : κ9 (nI TA) (l2 + nI (lostH D h)) (nI TF) (nI h + 1)) : ∀ (m p A F G E W K B : Nat), p + m = 16 → A + cnt (isAd (d_sp D)) m (16 * h + p) = TA → F + cnt (lwD D) m (16 * h + p) = TF → G + cnt (lostQ D) m (16 * h + p) = lostH D h → E + cnt (elsQ (srv (d_sp D) (d_bY D)) h) m (16 * h + p) = cnt (elsQ (srv (d_sp D) (d_bY D)) h) 16 (16 * h) → W + sm (d_wear D) m (16 * h + p) = wearH D h → K + cnt (fun s => decide (gradeN D s = 1)) m (16 * h + p) = gradH D h 1 → B + cnt (fun s => decide (gradeN D s = 2)) m (16 * h + p) = gradH D h 2 → wpL_addresses_L41 χ l2 (nI h) (co (lendH D h)) post κ9 (m + 1) (nI A) (nI F) (nI G) (nI E) (nI W) (nI K) (nI B) (nI p) := by
  intro m
  induction m with
  | zero =>
    intro p A F G E W K B e hA hF hG hE hW hK hB
    have hA : A = TA := hA
    have hF : F = TF := hF
    have hG : G = lostH D h := hG
    have hE : E = cnt (elsQ (srv (d_sp D) (d_bY D)) h) 16 (16 * h) := hE
    have hW : W = wearH D h := hW
    have hK : K = gradH D h 1 := hK
    have hB : B = gradH D h 2 := hB
    rw [wpL_addresses_L41, hA, hF, hG, hE, hW, hK, hB]
    refine pk_le 16 p (fun _ => qHead S hh ?_) (fun z => absurd z (by omega))
    rw [headR_6]
    refine ⟨fun _ => qHead S hh ?_, fun z => absurd rfl z⟩
    rw [headR_5]
    refine ⟨fun _ => qHead S hh ?_, fun z => absurd rfl z⟩
    rw [headR_7]
    refine ⟨fun _ => qHead S hh ?_, fun z => absurd rfl z⟩
    rw [headR_8]
    refine ⟨fun _ => qHead S hh ?_, fun z => absurd rfl z⟩
    rw [headR_9]
    exact ⟨fun _ => hend, fun z => absurd rfl z⟩
  | succ m ih =>
    intro p A F G E W K B e hA hF hG hE hW hK hB
    have hp : p < 16 := by omega
    have hl : 16 * h + p < 64 := by omega
    have hph : (16 : Int32) * nI h + nI p = nI (16 * h + p) := nI_ph h p
    have u : ∀ P : Nat → Bool, cnt P (m + 1) (16 * h + p) = (if P (16 * h + p) = true then 1 else 0) + cnt P m (16 * h + (p + 1)) := fun P => rfl
    rw [u] at hA hF hG hE hK hB
    have hW : W + (d_wear D (16 * h + p) + sm (d_wear D) m (16 * h + (p + 1))) = wearH D h := hW
    have hg := gradeN_le D (16 * h + p)
    rw [wpL_addresses_L41]
    refine pk_le 16 p (fun z => absurd z (by omega)) (fun _ => ?_)
    rw [hph]
    refine qSec S hl ?_
    rw [secR_0]
    refine qSec S hl ?_
    rw [secR_1]
    have J88 : ∀ b, b = decide (gradeN D (16 * h + p) = 1) → wpL_addresses_J88 χ (nI h) (co (lendH D h)) (nI A) (nI F) (nI G) (nI E) (nI W) (nI K) (nI B) (nI p) (nI (d_wear D (16 * h + p))) post κ9 (wpL_addresses_L41 χ l2 (nI h) (co (lendH D h)) post κ9 (m + 1)) b := by
      intro b hb
      unfold wpL_addresses_J88
      rw [hph]
      refine qSec S hl ?_
      rw [secR_1]
      have J109 : ∀ b', b' = decide (gradeN D (16 * h + p) = 2) → wpL_addresses_J109 χ (nI h) (co (lendH D h)) (nI A) (nI F) (nI G) (nI E) (nI W) (nI K) (nI B) (nI p) (nI (d_wear D (16 * h + p))) b post κ9 (wpL_addresses_L41 χ l2 (nI h) (co (lendH D h)) post κ9 (m + 1)) b' := by
        intro b' hb'
        rw [← hb] at hK
        rw [← hb'] at hB
        refine kL_place S hh hp (fun q => ?_) (fun q => ?_)
        · rw [q, if_neg (by decide), Nat.zero_add] at hA
          rw [lw_sp q, if_neg (by decide), Nat.zero_add] at hF
          rw [lost_sp q, if_neg (by decide), Nat.zero_add] at hG
          rw [els_sp q, if_neg (by decide), Nat.zero_add] at hE
          rw [nI_add, nI_bi, nI_bi, nI_1]
          exact ih (p + 1) A F G E _ _ _ (by omega) hA hF hG hE (by omega) (by omega) (by omega)
        · rw [q, if_pos rfl] at hA
          rw [nI_1, nI_bi, nI_bi, nI_bi, nI_add, nI_bi, nI_bi, nI_1]
          exact ih (p + 1) _ _ _ _ _ _ _ (by omega) (by omega) (by omega) (by omega) (by omega) (by omega) (by omega) (by omega)
      exact pk_eq (gradeN D (16 * h + p)) 2 (fun z => J109 true (decide_eq_true z).symm) (fun z => J109 false (decide_eq_false z).symm)
    exact pk_eq (gradeN D (16 * h + p)) 1 (fun z => J88 true (decide_eq_true z).symm) (fun z => J88 false (decide_eq_false z).symm)
theorem kL_addresses (S : SX χ D n H) {post : Bool → Prop} (hp : post true) : wpL_addresses χ post := by
  have L : ∀ (m h A B F : Nat), h + m = 4 → A + cnt (isAd (d_sp D)) (16 * m) (16 * h) = cnt (isAd (d_sp D)) 64 0 → B + cnt (lostQ D) (16 * m) (16 * h) = cnt (lostQ D) 64 0 → F + cnt (lwD D) (16 * m) (16 * h) = cnt (lwD D) 64 0 → wpL_addresses_L9 χ post (m + 1) (nI A) (nI B) (nI F) (nI h) := by
    intro m
    induction m with
    | zero =>
      intro h A B F e hA hB hF
      have hA : A = cnt (isAd (d_sp D)) 64 0 := hA
      have hB : B = cnt (lostQ D) 64 0 := hB
      have hF : F = cnt (lwD D) 64 0 := hF
      rw [wpL_addresses_L9, hA, hB, hF]
      refine pk_le 4 h (fun _ => qCount S (by decide) (by decide) ?_) (fun z => absurd z (by omega))
      rw [wholeR_1]
      refine ⟨fun _ => qCount S (by decide) (by decide) ?_, fun z => absurd rfl z⟩
      rw [wholeR_2]
      refine ⟨fun _ => qCount S (by decide) (by decide) ?_, fun z => absurd rfl z⟩
      rw [wholeR_3]
      exact ⟨fun _ => hp, fun z => absurd rfl z⟩
    | succ m ih =>
      intro h A B F e hA hB hF
      have hh : h < 4 := by omega
      have u : ∀ P : Nat → Bool, cnt P (16 * (m + 1)) (16 * h) = cnt P 16 (16 * h) + cnt P (16 * m) (16 * (h + 1)) := fun P => by
        rw [show 16 * (m + 1) = 16 + 16 * m by omega, cnt_add, show 16 * h + 16 = 16 * (h + 1) by omega]
      rw [u] at hA hB hF
      rw [wpL_addresses_L9]
      refine pk_le 4 h (fun z => absurd z (by omega)) (fun _ => kL_lends S hh ⟨17, ?_⟩)
      refine kL_inner S hh (TA := A + cnt (isAd (d_sp D)) 16 (16 * h)) (TF := F + cnt (lwD D) 16 (16 * h)) ?_ 16 0 A F 0 0 0 0 0 rfl rfl rfl (Nat.zero_add _) (Nat.zero_add _) (Nat.zero_add _) (Nat.zero_add _) (Nat.zero_add _)
      rw [nI_add, nI_1]
      have hlo : lostH D h = cnt (lostQ D) 16 (16 * h) := rfl
      exact ih (h + 1) _ _ _ (by omega) (by omega) (by omega) (by omega)
  unfold wpL_addresses
  exact ⟨5, L 4 0 0 0 0 rfl (Nat.zero_add _) (Nat.zero_add _) (Nat.zero_add _)⟩
end LA
