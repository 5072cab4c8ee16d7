theorem arrV_cong (cI : ClassId) (N : Nat) {f g : Nat → Value} (h : ∀ j, j < N → f j = g j) : arrV cI N f = arrV cI N g := by
  unfold arrV
  congr 1
  apply Array.ext
  · simp
  · intro i h1 h2
    simp only [Array.getElem_ofFn]
    exact h i (by simpa using h1)
theorem Wd.cq {B : va_G} {A : Nat → Prop} {H0 H : Heap} {ws : va_W} {locs : List Loc} (hd : Wd B A H0 ws H locs) (i : Nat) {q n : Nat} {cA : ClassId} {f g : Nat → Option Nat} (ha : ws[i]? = some (q, .inl (cA, n, .inr (.inr (.inr (.inr f)))))) (hfg : ∀ j, j < n → f j = g j) (ws' : va_W) (hset : ws.set i (q, .inl (cA, n, .inr (.inr (.inr (.inr g))))) = ws') : Wd B A H0 ws' H locs := by
  subst hset
  refine ⟨hd.1.set hd.2.1 ha ?_ (fun _ _ => rfl), hd.2.1.set ha, hd.2.2⟩
  have h1 := hd.1 i _ ha
  show H[q]? = some (vp_cell cA _)
  have h2 : H[q]? = some (vp_cell cA (n, .inr (.inr (.inr (.inr f))))) := h1
  rw [h2, vp_cell_q, vp_cell_q, arrV_cong cA n (fun j hj => by rw [hfg j hj])]
theorem X3_order (h : Nat) (a0 a1 a2 a3 a4 : Nat → Nat) (b3 : Nat → Nat → Nat) (k : KT) (σ0 σ1 σ2 : HS) (η : HI) (τ : CT) : ([(h, .inr (3, [.ref (a0 0), .ref (a1 0), .ref (a2 0), .ref (a3 0), .ref (a4 0), .int 0]))] ++ wX1 k a0 σ0 ++ wX1 k a1 σ1 ++ wX1 k a2 σ2 ++ wX2 k a3 b3 η ++ wX0 k a4 τ : va_W).Perm ([(h, .inr (3, [.ref (a0 0), .ref (a1 0), .ref (a2 0), .ref (a3 0), .ref (a4 0), .int 0]))] ++ (wX1 k a0 σ0 ++ (wX1 k a1 σ1 ++ (wX1 k a2 σ2 ++ (wX2 k a3 b3 η ++ wX0 k a4 τ))))) :=
  List.Perm.of_eq (by simp only [List.append_assoc])
abbrev rm_X2_init : Room := { frames := 4, cells := 37, slots := 1392, locals := 87 }
theorem M_X2_init : MI yX2_init wsX2_init cX2_init 2 none 0 := ⟨⟨_, rfl⟩, by decide +kernel, by decide +kernel, by decide +kernel, by decide +kernel⟩
theorem iX2_init_X2 : ∀ w ∈ wsX20, w ∈ wsX2_init := fun _ h => List.mem_cons_of_mem _ (List.mem_append_left _ (List.mem_append_right _ h))
theorem iX2_init_X1 : ∀ w ∈ wsX10, w ∈ wsX2_init := fun _ h => List.mem_cons_of_mem _ (List.mem_append_right _ h)
def wpX2_init (post : HI → Prop) : Prop := wpX1_init (fun σ0 => wpX1_init (fun σ1 => wpX1_init (fun σ2 => wpX1_init (fun σ3 => post ((fun j => match j with | 0 => σ0 | 1 => σ1 | 2 => σ2 | _ => σ3), 0, 0)))))
set_option maxHeartbeats 4000000 in
set_option maxRecDepth 100000 in
theorem c_X2_init (l : Launch) (B : va_G) (k : KT) (h : Nat) (post : HI → Prop) (hw : wpX2_init post) : Ctv l yX2_init wsX2_init rm_X2_init 37 1392 B k [.ref h] [(h, .inr (2, [.null, .int 0, .int 0]))] (fun u : (Nat → Nat) × (Nat → Nat → Nat) × HI => wX2 k u.1 u.2.1 u.2.2) (fun u : (Nat → Nat) × (Nat → Nat → Nat) × HI => u.1 0 = h ∧ post u.2.2) := by
  refine Ctv.of M_X2_init (Nat.le_of_ble_eq_true rfl) ?_
  intro p e s m args below meth c A C hd ls hl
  have hx := C.1; have hb := C.2.1; have hml := C.2.2.1; have hts := C.2.2.2.2.1
  have hl : lv_has ls 2 [(0, .ref h)] := hl
  unfold wpX2_init at hw
  refine lv_aload_n hx hb dX2_init_0 rfl (lv_at hl 0 rfl) ?_
  refine W.objInit hx hb C.2.2.2.1 (hts (.methodLink RX2 3 objectInit) (List.mem_of_getElem? (i := 1) rfl)) (hts (.instanceMethod objectInit) (List.mem_of_getElem? (i := 2) rfl)) (hts _ (List.mem_of_getElem? (i := 3) rfl)) rfl (by rw [hml]; exact hl.1) rfl dX2_init_1 (Nat.le_of_ble_eq_true rfl) (Nat.le_of_ble_eq_true rfl) ?_
  refine W.eq (g2 := F0 m 4 ls []) rfl ?_
  refine lv_aload_n hx hb dX2_init_4 rfl (lv_at hl 0 rfl) ?_
  refine lv_iconst (v := 4) hx hb dX2_init_5 (by decide) ?_
  refine g_newq C hd (List.mem_of_getElem? (i := 4) rfl) (N := 4) (by decide) rfl (Nat.le_of_ble_eq_true rfl) (Nat.le_of_ble_eq_true rfl) (Nat.le_of_ble_eq_true rfl) dX2_init_6 (fun q6 H hd => ?_)
  have hd : Wd B A s.heap [(h, .inr (2, [.null, .int 0, .int 0])), (q6, .inl (k.2.2, 4, .inr (.inr (.inr (.inr (fun _ => none))))))] H _ := hd
  refine g_putF C rfl hd iX2_init_X2 tyX2 tyX2_ok nmX2 0 2 rfl rfl 0 (by decide) (List.mem_of_getElem? (i := 5) rfl) rfl rfl rfl rfl (Nat.le_of_ble_eq_true rfl) [(h, .inr (2, [.ref q6, .int 0, .int 0])), (q6, .inl (k.2.2, 4, .inr (.inr (.inr (.inr (fun _ => none))))))] rfl dX2_init_9 (fun H locs hd => ?_)
  refine lv_aload_n hx hb dX2_init_12 rfl (lv_at hl 0 rfl) ?_
  refine lv_iconst (v := 0) hx hb dX2_init_13 (by decide) ?_
  refine g_put C hd iX2_init_X2 tyX2 tyX2_ok nmX2 0 2 rfl rfl 1 (by decide) (List.mem_of_getElem? (i := 6) rfl) rfl rfl rfl (Nat.le_of_ble_eq_true rfl) [(h, .inr (2, [.ref q6, .int 0, .int 0])), (q6, .inl (k.2.2, 4, .inr (.inr (.inr (.inr (fun _ => none))))))] rfl dX2_init_14 (fun H locs hd => ?_)
  refine lv_aload_n hx hb dX2_init_17 rfl (lv_at hl 0 rfl) ?_
  refine lv_iconst (v := 0) hx hb dX2_init_18 (by decide) ?_
  refine g_put C hd iX2_init_X2 tyX2 tyX2_ok nmX2 0 2 rfl rfl 2 (by decide) (List.mem_of_getElem? (i := 7) rfl) rfl rfl rfl (Nat.le_of_ble_eq_true rfl) [(h, .inr (2, [.ref q6, .int 0, .int 0])), (q6, .inl (k.2.2, 4, .inr (.inr (.inr (.inr (fun _ => none))))))] rfl dX2_init_19 (fun H locs hd => ?_)
  refine lv_iconst (v := 0) hx hb dX2_init_22 (by decide) ?_
  refine lv_istore_n (lv' := [(1, .int 0), (0, .ref h)]) hx hb dX2_init_23 rfl hl (by decide) rfl (fun ls hl => ?_)
  refine lv_iload_n hx hb dX2_init_24 rfl (lv_at hl 0 rfl) ?_
  refine lv_iconst (v := 4) hx hb dX2_init_25 (by decide) ?_
  refine lv_icmp_ge (tgt := 48) hx hb dX2_init_26 (by decide) (fun q => absurd q (by decide)) (fun _ => ?_)
  refine lv_aload_n hx hb dX2_init_29 rfl (lv_at hl 1 rfl) ?_
  refine g_get (v := .ref q6) C hd iX2_init_X2 0 2 rfl rfl 0 (by decide) (List.mem_of_getElem? (i := 5) rfl) rfl dX2_init_30 ?_
  refine lv_iload_n hx hb dX2_init_33 rfl (lv_at hl 0 rfl) ?_
  refine g_new C hd iX2_init_X1 tyX1 tyX1_ok 1 rfl (List.mem_of_getElem? (i := 4) rfl) (List.mem_of_getElem? (i := 8) rfl) (List.mem_of_getElem? (i := 9) rfl) (fs := [.int 0, .null, .null, .null, .null, .null, .null, .null, .null, .int 0, .int 0, .int 0, .int 0, .int 0, .int 0]) (by decide +kernel) (Nat.le_of_ble_eq_true rfl) (Nat.le_of_ble_eq_true rfl) dX2_init_34 (fun q H hd => ?_)
  refine lv_dup hx hb dX2_init_37 rfl ?_
  refine i_v C hd hl M_X1_init rfl gX2_init_X1_init (List.mem_of_getElem? (i := 9) rfl) (List.mem_of_getElem? (i := 10) rfl) (List.mem_of_getElem? (i := 11) rfl) (c_X1_init l B k q _ hw) ⟨rfl, rfl⟩ ⟨Nat.le_of_ble_eq_true rfl, Nat.le_of_ble_eq_true rfl⟩ List.perm_append_comm (fun u => [(h, .inr (2, [.ref q6, .int 0, .int 0])), (q6, .inl (k.2.2, 4, .inr (.inr (.inr (.inr (fun _ => none))))))] ++ wX1 k u.1 u.2) (fun u => List.perm_append_comm) rfl rfl (Nat.le_of_ble_eq_true rfl) dX2_init_38 ⟨Nat.le_of_ble_eq_true rfl, Nat.le_of_ble_eq_true rfl⟩ (fun ⟨b0, σ0⟩ H locs hw hd => ?_)
  obtain ⟨e0, hw⟩ := hw
  have e0 : b0 0 = q := e0
  rw [← e0]
  refine g_qst C hd 1 2 rfl rfl (pk_in 0 4 (by omega)) ([(h, .inr (2, [.ref q6, .int 0, .int 0])), (q6, .inl (k.2.2, 4, .inr (.inr (.inr (.inr (va_up (fun _ => none) 0 (some (b0 0))))))))] ++ wX1 k b0 σ0) rfl dX2_init_41 (fun H locs hd => ?_)
  refine lv_iinc (v := 1) (lv' := [(1, .int 1), (0, .ref h)]) hx hb dX2_init_42 hl (k := 0) rfl (by decide) (by decide) rfl (fun ls hl => ?_)
  refine lv_goto (tgt := 24) hx hb dX2_init_45 (by decide) ?_
  refine lv_iload_n hx hb dX2_init_24 rfl (lv_at hl 0 rfl) ?_
  refine lv_iconst (v := 4) hx hb dX2_init_25 (by decide) ?_
  refine lv_icmp_ge (tgt := 48) hx hb dX2_init_26 (by decide) (fun q => absurd q (by decide)) (fun _ => ?_)
  refine lv_aload_n hx hb dX2_init_29 rfl (lv_at hl 1 rfl) ?_
  refine g_get (v := .ref q6) C hd iX2_init_X2 0 2 rfl rfl 0 (by decide) (List.mem_of_getElem? (i := 5) rfl) rfl dX2_init_30 ?_
  refine lv_iload_n hx hb dX2_init_33 rfl (lv_at hl 0 rfl) ?_
  refine g_new C hd iX2_init_X1 tyX1 tyX1_ok 1 rfl (List.mem_of_getElem? (i := 4) rfl) (List.mem_of_getElem? (i := 8) rfl) (List.mem_of_getElem? (i := 9) rfl) (fs := [.int 0, .null, .null, .null, .null, .null, .null, .null, .null, .int 0, .int 0, .int 0, .int 0, .int 0, .int 0]) (by decide +kernel) (Nat.le_of_ble_eq_true rfl) (Nat.le_of_ble_eq_true rfl) dX2_init_34 (fun q H hd => ?_)
  refine lv_dup hx hb dX2_init_37 rfl ?_
  refine i_v C hd hl M_X1_init rfl gX2_init_X1_init (List.mem_of_getElem? (i := 9) rfl) (List.mem_of_getElem? (i := 10) rfl) (List.mem_of_getElem? (i := 11) rfl) (c_X1_init l B k q _ hw) ⟨rfl, rfl⟩ ⟨Nat.le_of_ble_eq_true rfl, Nat.le_of_ble_eq_true rfl⟩ List.perm_append_comm (fun u => ([(h, .inr (2, [.ref q6, .int 0, .int 0])), (q6, .inl (k.2.2, 4, .inr (.inr (.inr (.inr (va_up (fun _ => none) 0 (some (b0 0))))))))] ++ wX1 k b0 σ0) ++ wX1 k u.1 u.2) (fun u => List.perm_append_comm) rfl rfl (Nat.le_of_ble_eq_true rfl) dX2_init_38 ⟨Nat.le_of_ble_eq_true rfl, Nat.le_of_ble_eq_true rfl⟩ (fun ⟨b1, σ1⟩ H locs hw hd => ?_)
  obtain ⟨e1, hw⟩ := hw
  have e1 : b1 0 = q := e1
  rw [← e1]
  refine g_qst C hd 1 11 rfl rfl (pk_in 1 4 (by omega)) (([(h, .inr (2, [.ref q6, .int 0, .int 0])), (q6, .inl (k.2.2, 4, .inr (.inr (.inr (.inr (va_up (va_up (fun _ => none) 0 (some (b0 0))) 1 (some (b1 0))))))))] ++ wX1 k b0 σ0) ++ wX1 k b1 σ1) rfl dX2_init_41 (fun H locs hd => ?_)
  refine lv_iinc (v := 2) (lv' := [(1, .int 2), (0, .ref h)]) hx hb dX2_init_42 hl (k := 0) rfl (by decide) (by decide) rfl (fun ls hl => ?_)
  refine lv_goto (tgt := 24) hx hb dX2_init_45 (by decide) ?_
  refine lv_iload_n hx hb dX2_init_24 rfl (lv_at hl 0 rfl) ?_
  refine lv_iconst (v := 4) hx hb dX2_init_25 (by decide) ?_
  refine lv_icmp_ge (tgt := 48) hx hb dX2_init_26 (by decide) (fun q => absurd q (by decide)) (fun _ => ?_)
  refine lv_aload_n hx hb dX2_init_29 rfl (lv_at hl 1 rfl) ?_
  refine g_get (v := .ref q6) C hd iX2_init_X2 0 2 rfl rfl 0 (by decide) (List.mem_of_getElem? (i := 5) rfl) rfl dX2_init_30 ?_
  refine lv_iload_n hx hb dX2_init_33 rfl (lv_at hl 0 rfl) ?_
  refine g_new C hd iX2_init_X1 tyX1 tyX1_ok 1 rfl (List.mem_of_getElem? (i := 4) rfl) (List.mem_of_getElem? (i := 8) rfl) (List.mem_of_getElem? (i := 9) rfl) (fs := [.int 0, .null, .null, .null, .null, .null, .null, .null, .null, .int 0, .int 0, .int 0, .int 0, .int 0, .int 0]) (by decide +kernel) (Nat.le_of_ble_eq_true rfl) (Nat.le_of_ble_eq_true rfl) dX2_init_34 (fun q H hd => ?_)
  refine lv_dup hx hb dX2_init_37 rfl ?_
  refine i_v C hd hl M_X1_init rfl gX2_init_X1_init (List.mem_of_getElem? (i := 9) rfl) (List.mem_of_getElem? (i := 10) rfl) (List.mem_of_getElem? (i := 11) rfl) (c_X1_init l B k q _ hw) ⟨rfl, rfl⟩ ⟨Nat.le_of_ble_eq_true rfl, Nat.le_of_ble_eq_true rfl⟩ List.perm_append_comm (fun u => (([(h, .inr (2, [.ref q6, .int 0, .int 0])), (q6, .inl (k.2.2, 4, .inr (.inr (.inr (.inr (va_up (va_up (fun _ => none) 0 (some (b0 0))) 1 (some (b1 0))))))))] ++ wX1 k b0 σ0) ++ wX1 k b1 σ1) ++ wX1 k u.1 u.2) (fun u => List.perm_append_comm) rfl rfl (Nat.le_of_ble_eq_true rfl) dX2_init_38 ⟨Nat.le_of_ble_eq_true rfl, Nat.le_of_ble_eq_true rfl⟩ (fun ⟨b2, σ2⟩ H locs hw hd => ?_)
  obtain ⟨e2, hw⟩ := hw
  have e2 : b2 0 = q := e2
  rw [← e2]
  refine g_qst C hd 1 20 rfl rfl (pk_in 2 4 (by omega)) ((([(h, .inr (2, [.ref q6, .int 0, .int 0])), (q6, .inl (k.2.2, 4, .inr (.inr (.inr (.inr (va_up (va_up (va_up (fun _ => none) 0 (some (b0 0))) 1 (some (b1 0))) 2 (some (b2 0))))))))] ++ wX1 k b0 σ0) ++ wX1 k b1 σ1) ++ wX1 k b2 σ2) rfl dX2_init_41 (fun H locs hd => ?_)
  refine lv_iinc (v := 3) (lv' := [(1, .int 3), (0, .ref h)]) hx hb dX2_init_42 hl (k := 0) rfl (by decide) (by decide) rfl (fun ls hl => ?_)
  refine lv_goto (tgt := 24) hx hb dX2_init_45 (by decide) ?_
  refine lv_iload_n hx hb dX2_init_24 rfl (lv_at hl 0 rfl) ?_
  refine lv_iconst (v := 4) hx hb dX2_init_25 (by decide) ?_
  refine lv_icmp_ge (tgt := 48) hx hb dX2_init_26 (by decide) (fun q => absurd q (by decide)) (fun _ => ?_)
  refine lv_aload_n hx hb dX2_init_29 rfl (lv_at hl 1 rfl) ?_
  refine g_get (v := .ref q6) C hd iX2_init_X2 0 2 rfl rfl 0 (by decide) (List.mem_of_getElem? (i := 5) rfl) rfl dX2_init_30 ?_
  refine lv_iload_n hx hb dX2_init_33 rfl (lv_at hl 0 rfl) ?_
  refine g_new C hd iX2_init_X1 tyX1 tyX1_ok 1 rfl (List.mem_of_getElem? (i := 4) rfl) (List.mem_of_getElem? (i := 8) rfl) (List.mem_of_getElem? (i := 9) rfl) (fs := [.int 0, .null, .null, .null, .null, .null, .null, .null, .null, .int 0, .int 0, .int 0, .int 0, .int 0, .int 0]) (by decide +kernel) (Nat.le_of_ble_eq_true rfl) (Nat.le_of_ble_eq_true rfl) dX2_init_34 (fun q H hd => ?_)
  refine lv_dup hx hb dX2_init_37 rfl ?_
  refine i_v C hd hl M_X1_init rfl gX2_init_X1_init (List.mem_of_getElem? (i := 9) rfl) (List.mem_of_getElem? (i := 10) rfl) (List.mem_of_getElem? (i := 11) rfl) (c_X1_init l B k q _ hw) ⟨rfl, rfl⟩ ⟨Nat.le_of_ble_eq_true rfl, Nat.le_of_ble_eq_true rfl⟩ List.perm_append_comm (fun u => ((([(h, .inr (2, [.ref q6, .int 0, .int 0])), (q6, .inl (k.2.2, 4, .inr (.inr (.inr (.inr (va_up (va_up (va_up (fun _ => none) 0 (some (b0 0))) 1 (some (b1 0))) 2 (some (b2 0))))))))] ++ wX1 k b0 σ0) ++ wX1 k b1 σ1) ++ wX1 k b2 σ2) ++ wX1 k u.1 u.2) (fun u => List.perm_append_comm) rfl rfl (Nat.le_of_ble_eq_true rfl) dX2_init_38 ⟨Nat.le_of_ble_eq_true rfl, Nat.le_of_ble_eq_true rfl⟩ (fun ⟨b3, σ3⟩ H locs hw hd => ?_)
  obtain ⟨e3, hw⟩ := hw
  have e3 : b3 0 = q := e3
  rw [← e3]
  refine g_qst C hd 1 29 rfl rfl (pk_in 3 4 (by omega)) (((([(h, .inr (2, [.ref q6, .int 0, .int 0])), (q6, .inl (k.2.2, 4, .inr (.inr (.inr (.inr (va_up (va_up (va_up (va_up (fun _ => none) 0 (some (b0 0))) 1 (some (b1 0))) 2 (some (b2 0))) 3 (some (b3 0))))))))] ++ wX1 k b0 σ0) ++ wX1 k b1 σ1) ++ wX1 k b2 σ2) ++ wX1 k b3 σ3) rfl dX2_init_41 (fun H locs hd => ?_)
  refine lv_iinc (v := 4) (lv' := [(1, .int 4), (0, .ref h)]) hx hb dX2_init_42 hl (k := 0) rfl (by decide) (by decide) rfl (fun ls hl => ?_)
  refine lv_goto (tgt := 24) hx hb dX2_init_45 (by decide) ?_
  refine lv_iload_n hx hb dX2_init_24 rfl (lv_at hl 0 rfl) ?_
  refine lv_iconst (v := 4) hx hb dX2_init_25 (by decide) ?_
  refine lv_icmp_ge (tgt := 48) hx hb dX2_init_26 (by decide) (fun _ => ?_) (fun q => absurd (by decide) q)
  obtain ⟨b, eb⟩ : ∃ b : Nat → Nat → Nat, b = (fun j => match j with | 0 => b0 | 1 => b1 | 2 => b2 | _ => b3) := ⟨_, rfl⟩
  have hd := Wd.cq hd 1 (g := fun j => some (b j 0)) rfl (fun j hj => by rw [eb]; rcases lt4 hj with rfl | rfl | rfl | rfl <;> rfl) (((([(h, .inr (2, [.ref q6, .int 0, .int 0])), (q6, .inl (k.2.2, 4, .inr (.inr (.inr (.inr (fun j => some (b j 0)))))))] ++ wX1 k b0 σ0) ++ wX1 k b1 σ1) ++ wX1 k b2 σ2) ++ wX1 k b3 σ3) rfl
  have hd : Wd B A s.heap (wX2 k (fun j => [h, q6].getD j 0) b ((fun j => match j with | 0 => σ0 | 1 => σ1 | 2 => σ2 | _ => σ3), 0, 0)) H locs := by subst eb; exact hd.perm (List.Perm.of_eq (by simp only [List.append_assoc]; rfl))
  refine W.cs (cells' := 37) (slots' := 1392) rfl rfl ?_
  exact r_v C hd dX2_init_48 ((fun j => [h, q6].getD j 0), b, ((fun j => match j with | 0 => σ0 | 1 => σ1 | 2 => σ2 | _ => σ3), 0, 0)) rfl ⟨rfl, hw⟩
abbrev rm_X3_init : Room := { frames := 5, cells := 69, slots := 2542, locals := 108 }
theorem M_X3_init : MI yX3_init wsX3_init cX3_init 1 none 0 := ⟨⟨_, rfl⟩, by decide +kernel, by decide +kernel, by decide +kernel, by decide +kernel⟩
theorem iX3_init_X1 : ∀ w ∈ wsX10, w ∈ wsX3_init := fun _ h => List.mem_cons_of_mem _ (List.mem_append_left _ (List.mem_append_left _ (List.mem_append_left _ (List.mem_append_right _ h))))
theorem iX3_init_X3 : ∀ w ∈ wsX30, w ∈ wsX3_init := fun _ h => List.mem_cons_of_mem _ (List.mem_append_left _ (List.mem_append_left _ (List.mem_append_right _ h)))
theorem iX3_init_X2 : ∀ w ∈ wsX20, w ∈ wsX3_init := fun _ h => List.mem_cons_of_mem _ (List.mem_append_left _ (List.mem_append_right _ h))
theorem iX3_init_X0 : ∀ w ∈ wsX00, w ∈ wsX3_init := fun _ h => List.mem_cons_of_mem _ (List.mem_append_right _ h)
def wpX3_init (post : XS → Prop) : Prop := wpX1_init (fun σ0 => wpX1_init (fun σ1 => wpX1_init (fun σ2 => wpX2_init (fun η => wpX0_init (fun τ => post (σ0, σ1, σ2, η, τ, 0))))))
set_option maxHeartbeats 4000000 in
set_option maxRecDepth 100000 in
theorem c_X3_init (l : Launch) (B : va_G) (k : KT) (h : Nat) (post : XS → Prop) (hw : wpX3_init post) : Ctv l yX3_init wsX3_init rm_X3_init 69 2542 B k [.ref h] [(h, .inr (3, [.null, .null, .null, .null, .null, .int 0]))] (fun u : (Nat → Nat → Nat) × XS => wX3 k u.1 u.2) (fun u : (Nat → Nat → Nat) × XS => u.1 9 0 = h ∧ post u.2) := by
  refine Ctv.of M_X3_init (Nat.le_of_ble_eq_true rfl) ?_
  intro p e s m args below meth c A C hd ls hl
  have hx := C.1; have hb := C.2.1; have hml := C.2.2.1; have hts := C.2.2.2.2.1
  have hl : lv_has ls 1 [(0, .ref h)] := hl
  unfold wpX3_init at hw
  refine lv_aload_n hx hb dX3_init_0 rfl (lv_at hl 0 rfl) ?_
  refine W.objInit hx hb C.2.2.2.1 (hts (.methodLink RX3 3 objectInit) (List.mem_of_getElem? (i := 1) rfl)) (hts (.instanceMethod objectInit) (List.mem_of_getElem? (i := 2) rfl)) (hts _ (List.mem_of_getElem? (i := 3) rfl)) rfl (by rw [hml]; exact hl.1) rfl dX3_init_1 (Nat.le_of_ble_eq_true rfl) (Nat.le_of_ble_eq_true rfl) ?_
  refine W.eq (g2 := F0 m 4 ls []) rfl ?_
  refine lv_aload_n hx hb dX3_init_4 rfl (lv_at hl 0 rfl) ?_
  refine g_new C hd iX3_init_X1 tyX1 tyX1_ok 1 rfl (List.mem_of_getElem? (i := 4) rfl) (List.mem_of_getElem? (i := 5) rfl) (List.mem_of_getElem? (i := 6) rfl) (fs := [.int 0, .null, .null, .null, .null, .null, .null, .null, .null, .int 0, .int 0, .int 0, .int 0, .int 0, .int 0]) (by decide +kernel) (Nat.le_of_ble_eq_true rfl) (Nat.le_of_ble_eq_true rfl) dX3_init_5 (fun q H hd => ?_)
  refine lv_dup hx hb dX3_init_8 rfl ?_
  refine i_v C hd hl M_X1_init rfl gX3_init_X1_init (List.mem_of_getElem? (i := 6) rfl) (List.mem_of_getElem? (i := 19) rfl) (List.mem_of_getElem? (i := 20) rfl) (c_X1_init l B k q _ hw) ⟨rfl, rfl⟩ ⟨Nat.le_of_ble_eq_true rfl, Nat.le_of_ble_eq_true rfl⟩ List.perm_append_comm (fun u => [(h, .inr (3, [.null, .null, .null, .null, .null, .int 0]))] ++ wX1 k u.1 u.2) (fun u => List.perm_append_comm) rfl rfl (Nat.le_of_ble_eq_true rfl) dX3_init_9 ⟨Nat.le_of_ble_eq_true rfl, Nat.le_of_ble_eq_true rfl⟩ (fun ⟨a0, σ0⟩ H locs hw hd => ?_)
  obtain ⟨e0, hw⟩ := hw
  have e0 : a0 0 = q := e0
  rw [← e0]
  refine g_putF C rfl hd iX3_init_X3 tyX3 tyX3_ok nmX3 0 3 rfl rfl 0 (by decide) (List.mem_of_getElem? (i := 7) rfl) rfl rfl rfl rfl (Nat.le_of_ble_eq_true rfl) ([(h, .inr (3, [.ref (a0 0), .null, .null, .null, .null, .int 0]))] ++ wX1 k a0 σ0) rfl dX3_init_12 (fun H locs hd => ?_)
  refine lv_aload_n hx hb dX3_init_15 rfl (lv_at hl 0 rfl) ?_
  refine g_new C hd iX3_init_X1 tyX1 tyX1_ok 1 rfl (List.mem_of_getElem? (i := 4) rfl) (List.mem_of_getElem? (i := 5) rfl) (List.mem_of_getElem? (i := 6) rfl) (fs := [.int 0, .null, .null, .null, .null, .null, .null, .null, .null, .int 0, .int 0, .int 0, .int 0, .int 0, .int 0]) (by decide +kernel) (Nat.le_of_ble_eq_true rfl) (Nat.le_of_ble_eq_true rfl) dX3_init_16 (fun q H hd => ?_)
  refine lv_dup hx hb dX3_init_19 rfl ?_
  refine i_v C hd hl M_X1_init rfl gX3_init_X1_init (List.mem_of_getElem? (i := 6) rfl) (List.mem_of_getElem? (i := 19) rfl) (List.mem_of_getElem? (i := 20) rfl) (c_X1_init l B k q _ hw) ⟨rfl, rfl⟩ ⟨Nat.le_of_ble_eq_true rfl, Nat.le_of_ble_eq_true rfl⟩ List.perm_append_comm (fun u => ([(h, .inr (3, [.ref (a0 0), .null, .null, .null, .null, .int 0]))] ++ wX1 k a0 σ0) ++ wX1 k u.1 u.2) (fun u => List.perm_append_comm) rfl rfl (Nat.le_of_ble_eq_true rfl) dX3_init_20 ⟨Nat.le_of_ble_eq_true rfl, Nat.le_of_ble_eq_true rfl⟩ (fun ⟨a1, σ1⟩ H locs hw hd => ?_)
  obtain ⟨e1, hw⟩ := hw
  have e1 : a1 0 = q := e1
  rw [← e1]
  refine g_putF C rfl hd iX3_init_X3 tyX3 tyX3_ok nmX3 0 3 rfl rfl 1 (by decide) (List.mem_of_getElem? (i := 8) rfl) rfl rfl rfl rfl (Nat.le_of_ble_eq_true rfl) (([(h, .inr (3, [.ref (a0 0), .ref (a1 0), .null, .null, .null, .int 0]))] ++ wX1 k a0 σ0) ++ wX1 k a1 σ1) rfl dX3_init_23 (fun H locs hd => ?_)
  refine lv_aload_n hx hb dX3_init_26 rfl (lv_at hl 0 rfl) ?_
  refine g_new C hd iX3_init_X1 tyX1 tyX1_ok 1 rfl (List.mem_of_getElem? (i := 4) rfl) (List.mem_of_getElem? (i := 5) rfl) (List.mem_of_getElem? (i := 6) rfl) (fs := [.int 0, .null, .null, .null, .null, .null, .null, .null, .null, .int 0, .int 0, .int 0, .int 0, .int 0, .int 0]) (by decide +kernel) (Nat.le_of_ble_eq_true rfl) (Nat.le_of_ble_eq_true rfl) dX3_init_27 (fun q H hd => ?_)
  refine lv_dup hx hb dX3_init_30 rfl ?_
  refine i_v C hd hl M_X1_init rfl gX3_init_X1_init (List.mem_of_getElem? (i := 6) rfl) (List.mem_of_getElem? (i := 19) rfl) (List.mem_of_getElem? (i := 20) rfl) (c_X1_init l B k q _ hw) ⟨rfl, rfl⟩ ⟨Nat.le_of_ble_eq_true rfl, Nat.le_of_ble_eq_true rfl⟩ List.perm_append_comm (fun u => (([(h, .inr (3, [.ref (a0 0), .ref (a1 0), .null, .null, .null, .int 0]))] ++ wX1 k a0 σ0) ++ wX1 k a1 σ1) ++ wX1 k u.1 u.2) (fun u => List.perm_append_comm) rfl rfl (Nat.le_of_ble_eq_true rfl) dX3_init_31 ⟨Nat.le_of_ble_eq_true rfl, Nat.le_of_ble_eq_true rfl⟩ (fun ⟨a2, σ2⟩ H locs hw hd => ?_)
  obtain ⟨e2, hw⟩ := hw
  have e2 : a2 0 = q := e2
  rw [← e2]
  refine g_putF C rfl hd iX3_init_X3 tyX3 tyX3_ok nmX3 0 3 rfl rfl 2 (by decide) (List.mem_of_getElem? (i := 9) rfl) rfl rfl rfl rfl (Nat.le_of_ble_eq_true rfl) ((([(h, .inr (3, [.ref (a0 0), .ref (a1 0), .ref (a2 0), .null, .null, .int 0]))] ++ wX1 k a0 σ0) ++ wX1 k a1 σ1) ++ wX1 k a2 σ2) rfl dX3_init_34 (fun H locs hd => ?_)
  refine lv_aload_n hx hb dX3_init_37 rfl (lv_at hl 0 rfl) ?_
  refine g_new C hd iX3_init_X2 tyX2 tyX2_ok 2 rfl (List.mem_of_getElem? (i := 10) rfl) (List.mem_of_getElem? (i := 11) rfl) (List.mem_of_getElem? (i := 12) rfl) (fs := [.null, .int 0, .int 0]) (by decide +kernel) (Nat.le_of_ble_eq_true rfl) (Nat.le_of_ble_eq_true rfl) dX3_init_38 (fun q H hd => ?_)
  refine lv_dup hx hb dX3_init_41 rfl ?_
  refine i_v C hd hl M_X2_init rfl gX3_init_X2_init (List.mem_of_getElem? (i := 12) rfl) (List.mem_of_getElem? (i := 55) rfl) (List.mem_of_getElem? (i := 56) rfl) (c_X2_init l B k q _ hw) ⟨rfl, rfl⟩ ⟨Nat.le_of_ble_eq_true rfl, Nat.le_of_ble_eq_true rfl⟩ List.perm_append_comm (fun u => ((([(h, .inr (3, [.ref (a0 0), .ref (a1 0), .ref (a2 0), .null, .null, .int 0]))] ++ wX1 k a0 σ0) ++ wX1 k a1 σ1) ++ wX1 k a2 σ2) ++ wX2 k u.1 u.2.1 u.2.2) (fun u => List.perm_append_comm) rfl rfl (Nat.le_of_ble_eq_true rfl) dX3_init_42 ⟨Nat.le_of_ble_eq_true rfl, Nat.le_of_ble_eq_true rfl⟩ (fun ⟨a3, b3, η⟩ H locs hw hd => ?_)
  obtain ⟨e3, hw⟩ := hw
  have e3 : a3 0 = q := e3
  rw [← e3]
  refine g_putF C rfl hd iX3_init_X3 tyX3 tyX3_ok nmX3 0 3 rfl rfl 3 (by decide) (List.mem_of_getElem? (i := 13) rfl) rfl rfl rfl rfl (Nat.le_of_ble_eq_true rfl) (((([(h, .inr (3, [.ref (a0 0), .ref (a1 0), .ref (a2 0), .ref (a3 0), .null, .int 0]))] ++ wX1 k a0 σ0) ++ wX1 k a1 σ1) ++ wX1 k a2 σ2) ++ wX2 k a3 b3 η) rfl dX3_init_45 (fun H locs hd => ?_)
  refine lv_aload_n hx hb dX3_init_48 rfl (lv_at hl 0 rfl) ?_
  refine g_new C hd iX3_init_X0 tyX0 tyX0_ok 0 rfl (List.mem_of_getElem? (i := 14) rfl) (List.mem_of_getElem? (i := 15) rfl) (List.mem_of_getElem? (i := 16) rfl) (fs := [.null, .int 0, .null, .null, .int 0, .int 0]) (by decide +kernel) (Nat.le_of_ble_eq_true rfl) (Nat.le_of_ble_eq_true rfl) dX3_init_49 (fun q H hd => ?_)
  refine lv_dup hx hb dX3_init_52 rfl ?_
  refine in_v C hd hl M_X0_init rfl gX3_init_X0_init_n31 (List.mem_of_getElem? (i := 16) rfl) (List.mem_of_getElem? (i := 4) rfl) (List.mem_of_getElem? (i := 64) rfl) (c_X0_init l B k q _ hw) ⟨rfl, rfl⟩ ⟨Nat.le_of_ble_eq_true rfl, Nat.le_of_ble_eq_true rfl⟩ List.perm_append_comm (fun u => (((([(h, .inr (3, [.ref (a0 0), .ref (a1 0), .ref (a2 0), .ref (a3 0), .null, .int 0]))] ++ wX1 k a0 σ0) ++ wX1 k a1 σ1) ++ wX1 k a2 σ2) ++ wX2 k a3 b3 η) ++ wX0 k u.1 u.2) (fun u => List.perm_append_comm) rfl rfl (Nat.le_of_ble_eq_true rfl) dX3_init_53 ⟨Nat.le_of_ble_eq_true rfl, Nat.le_of_ble_eq_true rfl⟩ (fun ⟨a4, τ⟩ H locs hw hd => ?_)
  obtain ⟨e4, hw⟩ := hw
  have e4 : a4 0 = q := e4
  rw [← e4]
  refine g_putF C rfl hd iX3_init_X3 tyX3 tyX3_ok nmX3 0 3 rfl rfl 4 (by decide) (List.mem_of_getElem? (i := 17) rfl) rfl rfl rfl rfl (Nat.le_of_ble_eq_true rfl) ((((([(h, .inr (3, [.ref (a0 0), .ref (a1 0), .ref (a2 0), .ref (a3 0), .ref (a4 0), .int 0]))] ++ wX1 k a0 σ0) ++ wX1 k a1 σ1) ++ wX1 k a2 σ2) ++ wX2 k a3 b3 η) ++ wX0 k a4 τ) rfl dX3_init_56 (fun H locs hd => ?_)
  refine lv_aload_n hx hb dX3_init_59 rfl (lv_at hl 0 rfl) ?_
  refine lv_iconst (v := 0) hx hb dX3_init_60 (by decide) ?_
  refine g_put C hd iX3_init_X3 tyX3 tyX3_ok nmX3 0 3 rfl rfl 5 (by decide) (List.mem_of_getElem? (i := 18) rfl) rfl rfl rfl (Nat.le_of_ble_eq_true rfl) ((((([(h, .inr (3, [.ref (a0 0), .ref (a1 0), .ref (a2 0), .ref (a3 0), .ref (a4 0), .int 0]))] ++ wX1 k a0 σ0) ++ wX1 k a1 σ1) ++ wX1 k a2 σ2) ++ wX2 k a3 b3 η) ++ wX0 k a4 τ) rfl dX3_init_61 (fun H locs hd => ?_)
  obtain ⟨ad, ed⟩ : ∃ ad : Nat → Nat → Nat, ad = (fun i => match i with | 0 => a0 | 1 => a1 | 2 => a2 | 3 => a4 | 4 => a3 | 5 => b3 0 | 6 => b3 1 | 7 => b3 2 | 8 => b3 3 | _ => fun _ => h) := ⟨_, rfl⟩
  have e9 : ad 9 0 = h := by rw [ed]; rfl
  have hd : Wd B A s.heap (wX3 k ad (σ0, σ1, σ2, η, τ, 0)) H locs := by
    have eh : wX2 k a3 b3 η = wX2 k a3 (fun j => ad (5 + j)) η ∨ True := Or.inr trivial
    have hd := hd.perm (X3_order h a0 a1 a2 a3 a4 b3 k σ0 σ1 σ2 η τ)
    subst ed
    refine Wd.cq (f := fun j => some (b3 j 0)) hd 29 (g := fun j => some ((fun i => match i with | 0 => a0 | 1 => a1 | 2 => a2 | 3 => a4 | 4 => a3 | 5 => b3 0 | 6 => b3 1 | 7 => b3 2 | 8 => b3 3 | _ => fun _ => h : Nat → Nat → Nat) (5 + j) 0)) rfl (fun j hj => by rcases lt4 hj with rfl | rfl | rfl | rfl <;> rfl) _ rfl
  refine W.cs (cells' := 69) (slots' := 2542) rfl rfl ?_
  exact r_v C hd dX3_init_64 (ad, (σ0, σ1, σ2, η, τ, 0)) rfl ⟨e9, hw⟩
