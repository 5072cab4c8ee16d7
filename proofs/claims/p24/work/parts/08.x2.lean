abbrev HI : Type := (Nat → HS) × Int32 × Int32
def hi_rooms (η : HI) : Nat → HS := η.1
def hi_oldest (η : HI) : Int32 := η.2.1
def hi_many (η : HI) : Int32 := η.2.2
def hi_setRooms (η : HI) (v : Nat → HS) : HI := (v, η.2.1, η.2.2)
def hi_setOldest (η : HI) (v : Int32) : HI := (η.1, v, η.2.2)
def hi_setMany (η : HI) (v : Int32) : HI := (η.1, η.2.1, v)
def fsX2 (a : Nat → Nat) (η : HI) : List Value := [.ref (a 1), .int (hi_oldest η), .int (hi_many η)]
def roomsL (k : KT) (b : Nat → Nat → Nat) (f : Nat → HS) : va_W := wX1 k (b 0) (f 0) ++ (wX1 k (b 1) (f 1) ++ (wX1 k (b 2) (f 2) ++ wX1 k (b 3) (f 3)))
def roomsR (k : KT) (b : Nat → Nat → Nat) (f : Nat → HS) : Nat → va_W
  | 0 => wX1 k (b 1) (f 1) ++ (wX1 k (b 2) (f 2) ++ wX1 k (b 3) (f 3))
  | 1 => wX1 k (b 0) (f 0) ++ (wX1 k (b 2) (f 2) ++ wX1 k (b 3) (f 3))
  | 2 => wX1 k (b 0) (f 0) ++ (wX1 k (b 1) (f 1) ++ wX1 k (b 3) (f 3))
  | _ => wX1 k (b 0) (f 0) ++ (wX1 k (b 1) (f 1) ++ wX1 k (b 2) (f 2))
theorem lt4 {j : Nat} (h : j < 4) : j = 0 ∨ j = 1 ∨ j = 2 ∨ j = 3 := by omega
theorem roomsL_pm (k : KT) (b : Nat → Nat → Nat) (f : Nat → HS) {j : Nat} (h : j < 4) : (roomsL k b f).Perm (wX1 k (b j) (f j) ++ roomsR k b f j) := by
  rcases lt4 h with rfl | rfl | rfl | rfl
  · exact List.Perm.refl _
  · exact pm_mid _ _ _
  · exact (List.Perm.append_left _ (pm_mid _ _ _)).trans (pm_mid _ _ _)
  · unfold roomsL roomsR
    rw [← List.append_assoc, ← List.append_assoc]
    refine List.perm_append_comm.trans (List.Perm.append_left _ ?_)
    rw [List.append_assoc]
    exact List.Perm.refl _
theorem roomsR_up (k : KT) (b : Nat → Nat → Nat) (f : Nat → HS) (u : HS) {j : Nat} (h : j < 4) : roomsR k b (va_up f j u) j = roomsR k b f j := by
  rcases lt4 h with rfl | rfl | rfl | rfl <;> rfl
def wX2 (k : KT) (a : Nat → Nat) (b : Nat → Nat → Nat) (η : HI) : va_W := (a 0, .inr (2, fsX2 a η)) :: (a 1, .inl (k.2.2, 4, .inr (.inr (.inr (.inr (fun j => some (b j 0))))))) :: roomsL k b (hi_rooms η)
theorem wX2_putOldest (k : KT) (a : Nat → Nat) (b : Nat → Nat → Nat) (η : HI) (v : Int32) : (wX2 k a b η).set 0 (a 0, .inr (2, (fsX2 a η).set 1 (.int v))) = wX2 k a b (hi_setOldest η v) := rfl
theorem wX2_putMany (k : KT) (a : Nat → Nat) (b : Nat → Nat → Nat) (η : HI) (v : Int32) : (wX2 k a b η).set 0 (a 0, .inr (2, (fsX2 a η).set 2 (.int v))) = wX2 k a b (hi_setMany η v) := rfl
theorem wX2_room {k : KT} {a : Nat → Nat} {b : Nat → Nat → Nat} {η : HI} {W : va_W} {j : Nat} (h : j < 4) : (wX2 k a b η ++ W)[2 + 9 * j]? = some (b j 0, .inr (1, fsX1 (b j) (hi_rooms η j))) := by
  rcases lt4 h with rfl | rfl | rfl | rfl <;> rfl
def restX2 (k : KT) (a : Nat → Nat) (b : Nat → Nat → Nat) (η : HI) (j : Nat) : va_W := (a 0, .inr (2, fsX2 a η)) :: (a 1, .inl (k.2.2, 4, .inr (.inr (.inr (.inr (fun j => some (b j 0))))))) :: roomsR k b (hi_rooms η) j
theorem wX2_pm (k : KT) (a : Nat → Nat) (b : Nat → Nat → Nat) (η : HI) {j : Nat} (h : j < 4) : (wX2 k a b η).Perm (wX1 k (b j) (hi_rooms η j) ++ restX2 k a b η j) := by
  refine ((List.Perm.cons _ (List.Perm.cons _ (roomsL_pm k b (hi_rooms η) h)))).trans ?_
  exact pm_mid [(a 0, .inr (2, fsX2 a η)), (a 1, .inl (k.2.2, 4, .inr (.inr (.inr (.inr (fun j => some (b j 0)))))))] (wX1 k (b j) (hi_rooms η j)) (roomsR k b (hi_rooms η) j)
theorem wX2_pmr (k : KT) (a : Nat → Nat) (b : Nat → Nat → Nat) (η : HI) (W : va_W) {j : Nat} (h : j < 4) : (wX2 k a b η ++ W).Perm ((wX1 k (b j) (hi_rooms η j) ++ W) ++ restX2 k a b η j) := by
  refine (List.Perm.append_right W (wX2_pm k a b η h)).trans ?_
  rw [List.append_assoc, List.append_assoc]
  exact List.Perm.append_left _ List.perm_append_comm
theorem wX2_pmrU (k : KT) (a : Nat → Nat) (b : Nat → Nat → Nat) (η : HI) (W : va_W) (u : HS) {j : Nat} (h : j < 4) : ((wX1 k (b j) u ++ W) ++ restX2 k a b η j).Perm (wX2 k a b (hi_setRooms η (va_up (hi_rooms η) j u)) ++ W) := by
  have e := wX2_pmr k a b (hi_setRooms η (va_up (hi_rooms η) j u)) W h
  have e1 : hi_rooms (hi_setRooms η (va_up (hi_rooms η) j u)) j = u := by show va_up (hi_rooms η) j u j = u; unfold va_up; rw [if_pos rfl]
  have e2 : restX2 k a b (hi_setRooms η (va_up (hi_rooms η) j u)) j = restX2 k a b η j := by
    show _ :: _ :: roomsR k b (va_up (hi_rooms η) j u) j = _
    rw [roomsR_up k b _ u h]
    rfl
  rw [e1, e2] at e
  exact e.symm
theorem wX2_pms (k : KT) (a : Nat → Nat) (b : Nat → Nat → Nat) (η : HI) (W : va_W) {j : Nat} (h : j < 4) : (wX2 k a b η ++ W).Perm ((W ++ wX1 k (b j) (hi_rooms η j)) ++ restX2 k a b η j) :=
  (wX2_pmr k a b η W h).trans (List.Perm.append_right _ List.perm_append_comm)
theorem wX2_pmsU (k : KT) (a : Nat → Nat) (b : Nat → Nat → Nat) (η : HI) (W W' : va_W) {j : Nat} (h : j < 4) : ((W' ++ wX1 k (b j) (hi_rooms η j)) ++ restX2 k a b η j).Perm (wX2 k a b η ++ W') := (wX2_pms k a b η W' h).symm
abbrev XS : Type := HS × HS × HS × HI × CT × Int32
def xs_now (χ : XS) : HS := χ.1
def xs_trial (χ : XS) : HS := χ.2.1
def xs_kept (χ : XS) : HS := χ.2.2.1
def xs_history (χ : XS) : HI := χ.2.2.2.1
def xs_text (χ : XS) : CT := χ.2.2.2.2.1
def xs_hasKept (χ : XS) : Int32 := χ.2.2.2.2.2
def xs_setNow (χ : XS) (v : HS) : XS := (v, χ.2.1, χ.2.2.1, χ.2.2.2.1, χ.2.2.2.2.1, χ.2.2.2.2.2)
def xs_setTrial (χ : XS) (v : HS) : XS := (χ.1, v, χ.2.2.1, χ.2.2.2.1, χ.2.2.2.2.1, χ.2.2.2.2.2)
def xs_setKept (χ : XS) (v : HS) : XS := (χ.1, χ.2.1, v, χ.2.2.2.1, χ.2.2.2.2.1, χ.2.2.2.2.2)
def xs_setHistory (χ : XS) (v : HI) : XS := (χ.1, χ.2.1, χ.2.2.1, v, χ.2.2.2.2.1, χ.2.2.2.2.2)
def xs_setText (χ : XS) (v : CT) : XS := (χ.1, χ.2.1, χ.2.2.1, χ.2.2.2.1, v, χ.2.2.2.2.2)
def xs_setHasKept (χ : XS) (v : Int32) : XS := (χ.1, χ.2.1, χ.2.2.1, χ.2.2.2.1, χ.2.2.2.2.1, v)
def fsX3 (ad : Nat → Nat → Nat) (χ : XS) : List Value := [.ref (ad 0 0), .ref (ad 1 0), .ref (ad 2 0), .ref (ad 4 0), .ref (ad 3 0), .int (xs_hasKept χ)]
def oX3 (ad : Nat → Nat → Nat) (χ : XS) : va_W := [(ad 9 0, .inr (3, fsX3 ad χ))]
abbrev bN (k : KT) (ad : Nat → Nat → Nat) (χ : XS) : va_W := wX1 k (ad 0) (xs_now χ)
abbrev bT (k : KT) (ad : Nat → Nat → Nat) (χ : XS) : va_W := wX1 k (ad 1) (xs_trial χ)
abbrev bK (k : KT) (ad : Nat → Nat → Nat) (χ : XS) : va_W := wX1 k (ad 2) (xs_kept χ)
abbrev bH (k : KT) (ad : Nat → Nat → Nat) (χ : XS) : va_W := wX2 k (ad 4) (fun j => ad (5 + j)) (xs_history χ)
abbrev bC (k : KT) (ad : Nat → Nat → Nat) (χ : XS) : va_W := wX0 k (ad 3) (xs_text χ)
def wX3 (k : KT) (ad : Nat → Nat → Nat) (χ : XS) : va_W := oX3 ad χ ++ (bN k ad χ ++ (bT k ad χ ++ (bK k ad χ ++ (bH k ad χ ++ bC k ad χ))))
theorem wX3_putHasKept (k : KT) (ad : Nat → Nat → Nat) (χ : XS) (v : Int32) : (wX3 k ad χ).set 0 (ad 9 0, .inr (3, (fsX3 ad χ).set 5 (.int v))) = wX3 k ad (xs_setHasKept χ v) := rfl
theorem pN (k : KT) (ad : Nat → Nat → Nat) (χ : XS) : (wX3 k ad χ).Perm (bN k ad χ ++ (oX3 ad χ ++ (bT k ad χ ++ (bK k ad χ ++ (bH k ad χ ++ bC k ad χ))))) := pm_mid _ _ _
theorem pT (k : KT) (ad : Nat → Nat → Nat) (χ : XS) : (wX3 k ad χ).Perm (bT k ad χ ++ (oX3 ad χ ++ (bN k ad χ ++ (bK k ad χ ++ (bH k ad χ ++ bC k ad χ))))) := (List.Perm.append_left _ (pm_mid _ _ _)).trans (pm_mid _ _ _)
theorem pK (k : KT) (ad : Nat → Nat → Nat) (χ : XS) : (wX3 k ad χ).Perm (bK k ad χ ++ (oX3 ad χ ++ (bN k ad χ ++ (bT k ad χ ++ (bH k ad χ ++ bC k ad χ))))) := (List.Perm.append_left _ ((List.Perm.append_left _ (pm_mid _ _ _)).trans (pm_mid _ _ _))).trans (pm_mid _ _ _)
theorem pH (k : KT) (ad : Nat → Nat → Nat) (χ : XS) : (wX3 k ad χ).Perm (bH k ad χ ++ (oX3 ad χ ++ (bN k ad χ ++ (bT k ad χ ++ (bK k ad χ ++ bC k ad χ))))) := (List.Perm.append_left _ ((List.Perm.append_left _ ((List.Perm.append_left _ (pm_mid _ _ _)).trans (pm_mid _ _ _))).trans (pm_mid _ _ _))).trans (pm_mid _ _ _)
theorem pC (k : KT) (ad : Nat → Nat → Nat) (χ : XS) : (wX3 k ad χ).Perm (bC k ad χ ++ (oX3 ad χ ++ (bN k ad χ ++ (bT k ad χ ++ (bK k ad χ ++ bH k ad χ))))) := (List.Perm.append_left _ ((List.Perm.append_left _ ((List.Perm.append_left _ ((List.Perm.append_left _ List.perm_append_comm).trans (pm_mid _ _ _))).trans (pm_mid _ _ _))).trans (pm_mid _ _ _))).trans (pm_mid _ _ _)
theorem pTN (k : KT) (ad : Nat → Nat → Nat) (χ : XS) : (wX3 k ad χ).Perm ((bT k ad χ ++ bN k ad χ) ++ (oX3 ad χ ++ (bK k ad χ ++ (bH k ad χ ++ bC k ad χ)))) := (pm_owt (oX3 ad χ) (bN k ad χ) [] (bT k ad χ) _)
theorem pNT (k : KT) (ad : Nat → Nat → Nat) (χ : XS) : (wX3 k ad χ).Perm ((bN k ad χ ++ bT k ad χ) ++ (oX3 ad χ ++ (bK k ad χ ++ (bH k ad χ ++ bC k ad χ)))) := (pm_two (oX3 ad χ) (bN k ad χ) [] (bT k ad χ) _)
theorem pKN (k : KT) (ad : Nat → Nat → Nat) (χ : XS) : (wX3 k ad χ).Perm ((bK k ad χ ++ bN k ad χ) ++ (oX3 ad χ ++ (bT k ad χ ++ (bH k ad χ ++ bC k ad χ)))) := (pm_owt (oX3 ad χ) (bN k ad χ) (bT k ad χ) (bK k ad χ) _)
theorem pTK (k : KT) (ad : Nat → Nat → Nat) (χ : XS) : (wX3 k ad χ).Perm ((bT k ad χ ++ bK k ad χ) ++ ((oX3 ad χ ++ bN k ad χ) ++ (bH k ad χ ++ bC k ad χ))) := by
  refine (List.Perm.of_eq ?_).trans (pm_two (oX3 ad χ ++ bN k ad χ) (bT k ad χ) [] (bK k ad χ) _)
  rw [List.append_assoc]; rfl
theorem pHN (k : KT) (ad : Nat → Nat → Nat) (χ : XS) : (wX3 k ad χ).Perm ((bH k ad χ ++ bN k ad χ) ++ (oX3 ad χ ++ ((bT k ad χ ++ bK k ad χ) ++ bC k ad χ))) := by
  refine (List.Perm.of_eq ?_).trans (pm_owt (oX3 ad χ) (bN k ad χ) (bT k ad χ ++ bK k ad χ) (bH k ad χ) _)
  unfold wX3; rw [List.append_assoc (bT k ad χ)]
abbrev rm_X2_states : Room := { frames := 0, cells := 0, slots := 0, locals := 0 }
theorem M_X2_states : MI yX2_states wsX2_states cX2_states 1 (some .int) 0 := ⟨⟨_, rfl⟩, by decide +kernel, by decide +kernel, by decide +kernel, by decide +kernel⟩
theorem iX2_states_X2 : ∀ w ∈ wsX20, w ∈ wsX2_states := fun _ h => List.mem_cons_of_mem _ (List.mem_append_right _ h)
def wpX2_states (η : HI) (post : Int32 → Prop) : Prop := post (hi_many η)
set_option maxHeartbeats 4000000 in
set_option maxRecDepth 100000 in
theorem c_X2_states (l : Launch) (B : va_G) (k : KT) (a : Nat → Nat) (b : Nat → Nat → Nat) (η : HI) (post : Int32 → Prop) (hw : wpX2_states η post) : Cti l yX2_states wsX2_states rm_X2_states 0 0 B k [.ref (a 0)] (wX2 k a b η) (fun _ : Unit => wX2 k a b η) (fun r _ => post r) := by
  refine Cti.of M_X2_states (Nat.le_of_ble_eq_true rfl) ?_
  intro p e s m args below meth c A C hd ls hl
  have hx := C.1; have hb := C.2.1; have hml := C.2.2.1; have hts := C.2.2.2.2.1
  have hl : lv_has ls 1 [(0, .ref (a 0))] := hl
  rw [wpX2_states] at hw
  refine lv_aload_n hx hb dX2_states_0 rfl (lv_at hl 0 rfl) ?_
  refine g_get (v := .int (hi_many η)) C hd iX2_states_X2 0 2 rfl rfl 2 (by decide) (List.mem_of_getElem? (i := 1) rfl) rfl dX2_states_1 ?_
  exact r_i C hd dX2_states_4 () rfl hw
abbrev rm_X2_record : Room := { frames := 2, cells := 0, slots := 0, locals := 61 }
theorem M_X2_record : MI yX2_record wsX2_record cX2_record 2 none 1 := ⟨⟨_, rfl⟩, by decide +kernel, by decide +kernel, by decide +kernel, by decide +kernel⟩
theorem iX2_record_X2 : ∀ w ∈ wsX20, w ∈ wsX2_record := fun _ h => List.mem_cons_of_mem _ (List.mem_append_left _ (List.mem_append_right _ h))
theorem iX2_record_X1 : ∀ w ∈ wsX10, w ∈ wsX2_record := fun _ h => List.mem_cons_of_mem _ (List.mem_append_right _ h)
def wpX2_record_J30 (σ : HS) (post : HI → Prop) (η30 : HI) : Prop := (vp_in (((hi_oldest η30) + (hi_many η30)) - ((hi_oldest η30) + (hi_many η30)) / 4 * 4) 4 ∧ wpX1_takeOver (hi_rooms η30 (((hi_oldest η30) + (hi_many η30)) - ((hi_oldest η30) + (hi_many η30)) / 4 * 4).toNatClampNeg) σ (fun σ47 => post (hi_setMany (hi_setRooms η30 (va_up (hi_rooms η30) (((hi_oldest η30) + (hi_many η30)) - ((hi_oldest η30) + (hi_many η30)) / 4 * 4).toNatClampNeg σ47)) ((hi_many η30) + 1))))
def wpX2_record (η : HI) (σ : HS) (post : HI → Prop) : Prop := (((hi_many η) = 4 → wpX2_record_J30 σ post (hi_setMany (hi_setOldest η (((hi_oldest η) + 1) - ((hi_oldest η) + 1) / 4 * 4)) ((hi_many η) - 1))) ∧ (¬ (hi_many η) = 4 → wpX2_record_J30 σ post η))
set_option maxHeartbeats 4000000 in
set_option maxRecDepth 100000 in
theorem c_X2_record (l : Launch) (B : va_G) (k : KT) (a : Nat → Nat) (b : Nat → Nat → Nat) (aq : Nat → Nat) (η : HI) (σ : HS) (post : HI → Prop) (hw : wpX2_record η σ post) : Ctv l yX2_record wsX2_record rm_X2_record 0 0 B k [.ref (a 0), .ref (aq 0)] (wX2 k a b η ++ wX1 k aq σ) (fun u => wX2 k a b u ++ wX1 k aq σ) post := by
  refine Ctv.of M_X2_record (Nat.le_of_ble_eq_true rfl) ?_
  intro p e s m args below meth c A C hd ls hl
  have hx := C.1; have hb := C.2.1; have hml := C.2.2.1; have hts := C.2.2.2.2.1
  have hl : lv_has ls 2 [(0, .ref (a 0)), (1, .ref (aq 0))] := hl
  have J30 : ∀ (η30 : HI) (H : Heap) (locs : List Loc) (ls : Array Slot), Wd B A s.heap (wX2 k a b η30 ++ wX1 k aq σ) H locs → lv_has ls 2 [(0, .ref (a 0)), (1, .ref (aq 0))] → wpX2_record_J30 σ post η30 → W p l e rm_X2_record s m args below meth c H locs 0 0 (Qv below args s B A (fun u => wX2 k a b u ++ wX1 k aq σ) post 0 0) (F0 m 30 ls []) := by
    intro η30 H locs ls hd hl hw
    rw [wpX2_record_J30] at hw
    refine lv_aload_n hx hb dX2_record_30 rfl (lv_at hl 0 rfl) ?_
    refine g_get (v := .ref (a 1)) C hd iX2_record_X2 0 2 rfl rfl 0 (by decide) (List.mem_of_getElem? (i := 3) rfl) rfl dX2_record_31 ?_
    refine lv_aload_n hx hb dX2_record_34 rfl (lv_at hl 0 rfl) ?_
    refine g_get (v := .int (hi_oldest η30)) C hd iX2_record_X2 0 2 rfl rfl 1 (by decide) (List.mem_of_getElem? (i := 2) rfl) rfl dX2_record_35 ?_
    refine lv_aload_n hx hb dX2_record_38 rfl (lv_at hl 0 rfl) ?_
    refine g_get (v := .int (hi_many η30)) C hd iX2_record_X2 0 2 rfl rfl 2 (by decide) (List.mem_of_getElem? (i := 1) rfl) rfl dX2_record_39 ?_
    refine lv_iadd hx hb dX2_record_42 ?_
    refine lv_iconst (v := 4) hx hb dX2_record_43 (by decide) ?_
    refine lv_irem hx hb dX2_record_44 (by decide) ?_
    obtain ⟨h5, hw⟩ := hw
    have hj : (((hi_oldest η30) + (hi_many η30)) - ((hi_oldest η30) + (hi_many η30)) / 4 * 4).toNatClampNeg < 4 := Nat.not_le.mp fun q => h5 (Or.inr q)
    refine g_qld (f := fun j => some (b j 0)) C hd 1 rfl h5 dX2_record_45 ?_
    refine lv_aload_n hx hb dX2_record_46 rfl (lv_at hl 1 rfl) ?_
    refine v_v C hd hl M_X1_takeOver gX2_record_X1_takeOver (c_X1_takeOver l B k (b (((hi_oldest η30) + (hi_many η30)) - ((hi_oldest η30) + (hi_many η30)) / 4 * 4).toNatClampNeg) aq (hi_rooms η30 (((hi_oldest η30) + (hi_many η30)) - ((hi_oldest η30) + (hi_many η30)) / 4 * 4).toNatClampNeg) σ _ hw) ⟨rfl, rfl⟩ ⟨Nat.le_of_ble_eq_true rfl, Nat.le_of_ble_eq_true rfl⟩ (wX2_pmr k a b η30 (wX1 k aq σ) hj) (fun u => wX2 k a b (hi_setRooms η30 (va_up (hi_rooms η30) (((hi_oldest η30) + (hi_many η30)) - ((hi_oldest η30) + (hi_many η30)) / 4 * 4).toNatClampNeg u)) ++ wX1 k aq σ) (fun u => wX2_pmrU k a b η30 (wX1 k aq σ) u hj) (2 + 9 * (((hi_oldest η30) + (hi_many η30)) - ((hi_oldest η30) + (hi_many η30)) / 4 * 4).toNatClampNeg) 1 (wX2_room hj) rfl rfl rfl rfl (Nat.le_of_ble_eq_true rfl) dX2_record_47 ⟨Nat.le_of_ble_eq_true rfl, Nat.le_of_ble_eq_true rfl⟩ (fun σ47 H locs hw hd => ?_)
    refine lv_aload_n hx hb dX2_record_50 rfl (lv_at hl 0 rfl) ?_
    refine lv_dup hx hb dX2_record_51 rfl ?_
    refine g_get (v := .int (hi_many η30)) C hd iX2_record_X2 0 2 rfl rfl 2 (by decide) (List.mem_of_getElem? (i := 1) rfl) rfl dX2_record_52 ?_
    refine lv_iconst (v := 1) hx hb dX2_record_55 (by decide) ?_
    refine lv_iadd hx hb dX2_record_56 ?_
    refine g_put C hd iX2_record_X2 tyX2 tyX2_ok nmX2 0 2 rfl rfl 2 (by decide) (List.mem_of_getElem? (i := 1) rfl) rfl rfl rfl (Nat.le_of_ble_eq_true rfl) (wX2 k a b (hi_setMany (hi_setRooms η30 (va_up (hi_rooms η30) (((hi_oldest η30) + (hi_many η30)) - ((hi_oldest η30) + (hi_many η30)) / 4 * 4).toNatClampNeg σ47)) ((hi_many η30) + 1)) ++ wX1 k aq σ) (set_l (Nat.le_of_ble_eq_true rfl) (wX2_putMany k a b _ _)) dX2_record_57 (fun H locs hd => ?_)
    exact r_v C hd dX2_record_60 (hi_setMany (hi_setRooms η30 (va_up (hi_rooms η30) (((hi_oldest η30) + (hi_many η30)) - ((hi_oldest η30) + (hi_many η30)) / 4 * 4).toNatClampNeg σ47)) ((hi_many η30) + 1)) rfl hw
  rw [wpX2_record] at hw
  refine lv_aload_n hx hb dX2_record_0 rfl (lv_at hl 0 rfl) ?_
  refine g_get (v := .int (hi_many η)) C hd iX2_record_X2 0 2 rfl rfl 2 (by decide) (List.mem_of_getElem? (i := 1) rfl) rfl dX2_record_1 ?_
  refine lv_iconst (v := 4) hx hb dX2_record_4 (by decide) ?_
  refine lv_icmp_ne (tgt := 30) hx hb dX2_record_5 (by decide) (fun c2 => ?_) (fun c2 => ?_)
  · replace hw := hw.2 c2
    exact J30 η _ _ _ hd (lv_sub hl [0, 1] rfl) hw
  · replace hw := hw.1 c2
    refine lv_aload_n hx hb dX2_record_8 rfl (lv_at hl 0 rfl) ?_
    refine lv_aload_n hx hb dX2_record_9 rfl (lv_at hl 0 rfl) ?_
    refine g_get (v := .int (hi_oldest η)) C hd iX2_record_X2 0 2 rfl rfl 1 (by decide) (List.mem_of_getElem? (i := 2) rfl) rfl dX2_record_10 ?_
    refine lv_iconst (v := 1) hx hb dX2_record_13 (by decide) ?_
    refine lv_iadd hx hb dX2_record_14 ?_
    refine lv_iconst (v := 4) hx hb dX2_record_15 (by decide) ?_
    refine lv_irem hx hb dX2_record_16 (by decide) ?_
    refine g_put C hd iX2_record_X2 tyX2 tyX2_ok nmX2 0 2 rfl rfl 1 (by decide) (List.mem_of_getElem? (i := 2) rfl) rfl rfl rfl (Nat.le_of_ble_eq_true rfl) (wX2 k a b (hi_setOldest η (((hi_oldest η) + 1) - ((hi_oldest η) + 1) / 4 * 4)) ++ wX1 k aq σ) (set_l (Nat.le_of_ble_eq_true rfl) (wX2_putOldest k a b _ _)) dX2_record_17 (fun H locs hd => ?_)
    refine lv_aload_n hx hb dX2_record_20 rfl (lv_at hl 0 rfl) ?_
    refine lv_dup hx hb dX2_record_21 rfl ?_
    refine g_get (v := .int (hi_many η)) C hd iX2_record_X2 0 2 rfl rfl 2 (by decide) (List.mem_of_getElem? (i := 1) rfl) rfl dX2_record_22 ?_
    refine lv_iconst (v := 1) hx hb dX2_record_25 (by decide) ?_
    refine lv_isub hx hb dX2_record_26 ?_
    refine g_put C hd iX2_record_X2 tyX2 tyX2_ok nmX2 0 2 rfl rfl 2 (by decide) (List.mem_of_getElem? (i := 1) rfl) rfl rfl rfl (Nat.le_of_ble_eq_true rfl) (wX2 k a b (hi_setMany (hi_setOldest η (((hi_oldest η) + 1) - ((hi_oldest η) + 1) / 4 * 4)) ((hi_many η) - 1)) ++ wX1 k aq σ) (set_l (Nat.le_of_ble_eq_true rfl) (wX2_putMany k a b _ _)) dX2_record_27 (fun H locs hd => ?_)
    exact J30 (hi_setMany (hi_setOldest η (((hi_oldest η) + 1) - ((hi_oldest η) + 1) / 4 * 4)) ((hi_many η) - 1)) _ _ _ hd (lv_sub hl [0, 1] rfl) hw
abbrev rm_X2_takeBack : Room := { frames := 2, cells := 0, slots := 0, locals := 61 }
theorem M_X2_takeBack : MI yX2_takeBack wsX2_takeBack cX2_takeBack 2 none 1 := ⟨⟨_, rfl⟩, by decide +kernel, by decide +kernel, by decide +kernel, by decide +kernel⟩
theorem iX2_takeBack_X2 : ∀ w ∈ wsX20, w ∈ wsX2_takeBack := fun _ h => List.mem_cons_of_mem _ (List.mem_append_left _ (List.mem_append_right _ h))
theorem iX2_takeBack_X1 : ∀ w ∈ wsX10, w ∈ wsX2_takeBack := fun _ h => List.mem_cons_of_mem _ (List.mem_append_right _ h)
def wpX2_takeBack (η : HI) (σ : HS) (post : HI → HS → Prop) : Prop := (((hi_many η) ≤ 0 → post η σ) ∧ (¬ (hi_many η) ≤ 0 → (vp_in (((hi_oldest η) + ((hi_many η) - 1)) - ((hi_oldest η) + ((hi_many η) - 1)) / 4 * 4) 4 ∧ wpX1_takeOver σ (hi_rooms η (((hi_oldest η) + ((hi_many η) - 1)) - ((hi_oldest η) + ((hi_many η) - 1)) / 4 * 4).toNatClampNeg) (fun σ34 => post (hi_setMany η ((hi_many η) - 1)) σ34))))
set_option maxHeartbeats 4000000 in
set_option maxRecDepth 100000 in
theorem c_X2_takeBack (l : Launch) (B : va_G) (k : KT) (a : Nat → Nat) (b : Nat → Nat → Nat) (aq : Nat → Nat) (η : HI) (σ : HS) (post : HI → HS → Prop) (hw : wpX2_takeBack η σ post) : Ctv l yX2_takeBack wsX2_takeBack rm_X2_takeBack 0 0 B k [.ref (a 0), .ref (aq 0)] (wX2 k a b η ++ wX1 k aq σ) (fun u : HI × HS => wX2 k a b u.1 ++ wX1 k aq u.2) (fun u : HI × HS => post u.1 u.2) := by
  refine Ctv.of M_X2_takeBack (Nat.le_of_ble_eq_true rfl) ?_
  intro p e s m args below meth c A C hd ls hl
  have hx := C.1; have hb := C.2.1; have hml := C.2.2.1; have hts := C.2.2.2.2.1
  have hl : lv_has ls 2 [(0, .ref (a 0)), (1, .ref (aq 0))] := hl
  rw [wpX2_takeBack] at hw
  refine lv_aload_n hx hb dX2_takeBack_0 rfl (lv_at hl 0 rfl) ?_
  refine g_get (v := .int (hi_many η)) C hd iX2_takeBack_X2 0 2 rfl rfl 2 (by decide) (List.mem_of_getElem? (i := 1) rfl) rfl dX2_takeBack_1 ?_
  refine lv_if_le (tgt := 37) hx hb dX2_takeBack_4 (by decide) (fun c2 => ?_) (fun c2 => ?_)
  · replace hw := hw.1 c2
    exact r_v C hd dX2_takeBack_37 (η, σ) rfl hw
  · replace hw := hw.2 c2
    refine lv_aload_n hx hb dX2_takeBack_7 rfl (lv_at hl 0 rfl) ?_
    refine lv_dup hx hb dX2_takeBack_8 rfl ?_
    refine g_get (v := .int (hi_many η)) C hd iX2_takeBack_X2 0 2 rfl rfl 2 (by decide) (List.mem_of_getElem? (i := 1) rfl) rfl dX2_takeBack_9 ?_
    refine lv_iconst (v := 1) hx hb dX2_takeBack_12 (by decide) ?_
    refine lv_isub hx hb dX2_takeBack_13 ?_
    refine g_put C hd iX2_takeBack_X2 tyX2 tyX2_ok nmX2 0 2 rfl rfl 2 (by decide) (List.mem_of_getElem? (i := 1) rfl) rfl rfl rfl (Nat.le_of_ble_eq_true rfl) (wX2 k a b (hi_setMany η ((hi_many η) - 1)) ++ wX1 k aq σ) (set_l (Nat.le_of_ble_eq_true rfl) (wX2_putMany k a b _ _)) dX2_takeBack_14 (fun H locs hd => ?_)
    refine lv_aload_n hx hb dX2_takeBack_17 rfl (lv_at hl 1 rfl) ?_
    refine lv_aload_n hx hb dX2_takeBack_18 rfl (lv_at hl 0 rfl) ?_
    refine g_get (v := .ref (a 1)) C hd iX2_takeBack_X2 0 2 rfl rfl 0 (by decide) (List.mem_of_getElem? (i := 2) rfl) rfl dX2_takeBack_19 ?_
    refine lv_aload_n hx hb dX2_takeBack_22 rfl (lv_at hl 0 rfl) ?_
    refine g_get (v := .int (hi_oldest η)) C hd iX2_takeBack_X2 0 2 rfl rfl 1 (by decide) (List.mem_of_getElem? (i := 3) rfl) rfl dX2_takeBack_23 ?_
    refine lv_aload_n hx hb dX2_takeBack_26 rfl (lv_at hl 0 rfl) ?_
    refine g_get (v := .int ((hi_many η) - 1)) C hd iX2_takeBack_X2 0 2 rfl rfl 2 (by decide) (List.mem_of_getElem? (i := 1) rfl) rfl dX2_takeBack_27 ?_
    refine lv_iadd hx hb dX2_takeBack_30 ?_
    refine lv_iconst (v := 4) hx hb dX2_takeBack_31 (by decide) ?_
    refine lv_irem hx hb dX2_takeBack_32 (by decide) ?_
    obtain ⟨h2, hw⟩ := hw
    have hj : (((hi_oldest η) + ((hi_many η) - 1)) - ((hi_oldest η) + ((hi_many η) - 1)) / 4 * 4).toNatClampNeg < 4 := Nat.not_le.mp fun q => h2 (Or.inr q)
    refine g_qld (f := fun j => some (b j 0)) C hd 1 rfl h2 dX2_takeBack_33 ?_
    refine v_v C hd hl M_X1_takeOver gX2_takeBack_X1_takeOver (c_X1_takeOver l B k aq (b (((hi_oldest η) + ((hi_many η) - 1)) - ((hi_oldest η) + ((hi_many η) - 1)) / 4 * 4).toNatClampNeg) σ (hi_rooms η (((hi_oldest η) + ((hi_many η) - 1)) - ((hi_oldest η) + ((hi_many η) - 1)) / 4 * 4).toNatClampNeg) _ hw) ⟨rfl, rfl⟩ ⟨Nat.le_of_ble_eq_true rfl, Nat.le_of_ble_eq_true rfl⟩ (wX2_pms k a b (hi_setMany η ((hi_many η) - 1)) (wX1 k aq σ) hj) (fun u => wX2 k a b (hi_setMany η ((hi_many η) - 1)) ++ wX1 k aq u) (fun u => wX2_pmsU k a b (hi_setMany η ((hi_many η) - 1)) (wX1 k aq σ) (wX1 k aq u) hj) 38 1 rfl rfl rfl rfl rfl (Nat.le_of_ble_eq_true rfl) dX2_takeBack_34 ⟨Nat.le_of_ble_eq_true rfl, Nat.le_of_ble_eq_true rfl⟩ (fun σ34 H locs hw hd => ?_)
    exact r_v C hd dX2_takeBack_37 (hi_setMany η ((hi_many η) - 1), σ34) rfl hw
