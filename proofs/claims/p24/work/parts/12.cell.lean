abbrev rm_L_cell : Room := { frames := 0, cells := 0, slots := 0, locals := 0 }
theorem M_L_cell : MI yL_cell wsL_cell cL_cell 2 (some .int) 2 := ⟨⟨_, rfl⟩, by decide +kernel, by decide +kernel, by decide +kernel, by decide +kernel⟩
def wpL_cell (L : Nat) (xs : Nat → Int32) (p1 : Int32) (post : Int32 → Prop) : Prop := ((Int32.ofNat L ≤ p1 → post ((2920009 * p1) + 1543)) ∧ (¬ Int32.ofNat L ≤ p1 → (vp_in p1 L ∧ post (xs p1.toNatClampNeg))))
theorem c_L_cell (l : Launch) (B : va_G) (k : KT) (b L : Nat) (xs : Nat → Int32) (p1 : Int32) (post : Int32 → Prop) (hw : wpL_cell L xs p1 post) (sz : Nat) : Met l yL_cell wsL_cell rm_L_cell (preX B k b L xs [.ref b, .int p1] sz) (va_Qi (fun r (_ : Unit) => post r) (aft B (va_A [] sz) (fun _ : Unit => [])) (va_A [] sz)) 0 0 (va_A [] sz) := by
  obtain ⟨⟨ws', hw0⟩, -, -, -, hy⟩ := M_L_cell
  refine Met.ofW (cc := cL_cell) (maxL := 2) (ret := some .int) hy hw0 ?_
  intro p e s m args below meth c s₁ Bd hml hv
  obtain ⟨rfl, hsz, hK, hbl, hX⟩ := hv
  have hx := Bd.exec
  have hb := Bd.bytes
  have hr := Bd.returns
  have hts := atoms_spec (ws := wsL_cell) Bd.pre
  have hown : s.vm.findClass yL_cell.cls = some m.cls := findClass_of_methodNamed Bd.named
  have hlocks := Bd.notSynchronized
  have hnm : meth.name = yL_cell.name := (name_of_methodNamed Bd.named Bd.method).1
  subst hsz
  have hbA : ¬ va_A [] s.heap.size b := by
    intro h
    rcases h with ⟨j, e, h⟩ | h
    · simp at h
    · omega
  generalize hAe : va_A [] s.heap.size = A at hbA ⊢
  have hA : ∀ q : Nat, s.heap.size ≤ q → A q := fun q h => by rw [← hAe]; exact Or.inr h
  have hl := lv_entry [.ref b, .int p1] (n := 2) (Nat.le_of_ble_eq_true rfl)
  rw [lg_entry_eq]
  generalize (lg_sl [.ref b, .int p1] ++ List.replicate (2 - (lg_sl [.ref b, .int p1]).length) Slot.unset).toArray = ls at hl ⊢
  have C : Cx p s m ([.ref b, .int p1] : List Value).toArray meth c cL_cell 2 wsL_cell yL_cell.cls yL_cell.name (some .int) B k A := ⟨hx, hb, hml, hown, hts, hr, hlocks, hA, hK, hnm⟩
  have hd : Wd B A s.heap [] s.heap [] := ⟨fun k q h => by simp at h, ⟨fun i j p q h => by simp at h, fun k q h => by simp at h⟩, va_S.rf⟩
  have hl : lv_has ls 2 [(0, .ref b), (1, .int p1)] := hl
  have hQ : va_Qi (fun r (_ : Unit) => post r) (aft B A (fun _ : Unit => [])) A = va_Qi (fun r (_ : Unit) => post r) (aft B A (fun _ : Unit => [])) A := rfl
  unfold wpL_cell at hw
  show W p l e rm_L_cell s m _ below meth c s.heap [] 0 0 (Qi below _ s B A (fun _ : Unit => []) (fun r (_ : Unit) => post r) 0 0) (F0 m 0 ls [])
  refine lv_iload_n hx hb dL_cell_0 rfl (lv_at hl 1 rfl) ?_
  refine lv_aload_n hx hb dL_cell_1 rfl (lv_at hl 0 rfl) ?_
  refine va_slen hx hb hX hbl hbA hd.2.2 dL_cell_2 ?_
  refine lv_icmp_ge (tgt := 12) hx hb dL_cell_3 (by decide) (fun c1 => ?_) (fun c1 => ?_)
  · replace hw := hw.1 c1
    refine lv_ldc (v := 2920009) hx hb C.2.2.2.1 (hts (.constant RL 7 (2920009)) (List.mem_of_getElem? (i := 1) rfl)) dL_cell_12 ?_
    refine lv_iload_n hx hb dL_cell_14 rfl (lv_at hl 1 rfl) ?_
    refine lv_imul hx hb dL_cell_15 ?_
    refine lv_sipush (v := 1543) hx hb dL_cell_16 (by decide) ?_
    refine lv_iadd hx hb dL_cell_19 ?_
    exact r_i C hd dL_cell_20 () rfl hw
  · obtain ⟨hin, hw⟩ := hw.2 c1
    refine lv_aload_n hx hb dL_cell_6 rfl (lv_at hl 0 rfl) ?_
    refine lv_iload_n hx hb dL_cell_7 rfl (lv_at hl 1 rfl) ?_
    refine va_sld hx hb hX hbl hbA hd.2.2 hin dL_cell_8 ?_
    refine lv_goto (tgt := 20) hx hb dL_cell_9 (by decide) ?_
    exact r_i C hd dL_cell_20 () rfl hw
