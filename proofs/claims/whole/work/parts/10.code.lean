def f_Cd_codeOf (x_p0 : Int32) : Int32 :=
  (x_p0 &&& 127)
set_option maxHeartbeats 4000000 in
set_option maxRecDepth 100000 in
theorem ct_Cd_codeOf (l : Launch) (dC : Nat → ClassId) (dI : Nat → Nat → Nat) (cI : ClassId) (x_p0 : Int32) : Met l y_Cd_codeOf w_Cd_codeOf ({ frames := 0, cells := 0, slots := 0, locals := 0 }) (pcR dC dI cI [] [.int x_p0]) (QcRead (f_Cd_codeOf x_p0)) 0 0 (fun _ => False) := by
  refine Met.ofW (cc := c_Cd_codeOf) (maxL := 1) (ret := (some .int)) (by decide) rfl ?_
  intro p e s m args below meth c s₁ B hml hv
  obtain ⟨rfl, hP, hK⟩ := hv
  have hx := B.exec
  have hb := B.bytes
  have hr := B.returns
  have hts : ∀ w ∈ wG, w.before _ s = true := fun w h => atoms_spec (ws := w_Cd_codeOf) B.pre w (List.mem_cons_of_mem _ h)
  have hown : s.vm.findClass "LabelledCore$Code" = some m.cls := findClass_of_methodNamed B.named
  have hlocks := B.notSynchronized
  have hl := lv_entry ([.int x_p0]) (n := 1) (Nat.le_of_ble_eq_true rfl)
  rw [lg_entry_eq]
  generalize (lg_sl ([.int x_p0]) ++ List.replicate (1 - (lg_sl ([.int x_p0])).length) Slot.unset).toArray = ls at hl ⊢
  have hl : lv_has ls 1 [(0, .int x_p0)] := hl
  refine lv_iload_n hx hb d_Cd_codeOf_0 rfl (lv_at hl 0 rfl) ?_
  refine lv_bipush (v := 127) hx hb d_Cd_codeOf_1 (by decide) ?_
  refine lv_iand hx hb d_Cd_codeOf_3 ?_
  have ef : (f_Cd_codeOf x_p0) = ((x_p0 &&& 127) : Int32) := rfl
  exact W.iret (v := (x_p0 &&& 127)) hx hb hr (fun t ht hW => ⟨by rw [ef], ht⟩) (fun _ h => by cases h) d_Cd_codeOf_4
def f_Cd_fieldD (x_p0 : Int32) : Int32 :=
  ((jU x_p0 7) &&& 31)
set_option maxHeartbeats 4000000 in
set_option maxRecDepth 100000 in
theorem ct_Cd_fieldD (l : Launch) (dC : Nat → ClassId) (dI : Nat → Nat → Nat) (cI : ClassId) (x_p0 : Int32) : Met l y_Cd_fieldD w_Cd_fieldD ({ frames := 0, cells := 0, slots := 0, locals := 0 }) (pcR dC dI cI [] [.int x_p0]) (QcRead (f_Cd_fieldD x_p0)) 0 0 (fun _ => False) := by
  refine Met.ofW (cc := c_Cd_fieldD) (maxL := 1) (ret := (some .int)) (by decide) rfl ?_
  intro p e s m args below meth c s₁ B hml hv
  obtain ⟨rfl, hP, hK⟩ := hv
  have hx := B.exec
  have hb := B.bytes
  have hr := B.returns
  have hts : ∀ w ∈ wG, w.before _ s = true := fun w h => atoms_spec (ws := w_Cd_fieldD) B.pre w (List.mem_cons_of_mem _ h)
  have hown : s.vm.findClass "LabelledCore$Code" = some m.cls := findClass_of_methodNamed B.named
  have hlocks := B.notSynchronized
  have hl := lv_entry ([.int x_p0]) (n := 1) (Nat.le_of_ble_eq_true rfl)
  rw [lg_entry_eq]
  generalize (lg_sl ([.int x_p0]) ++ List.replicate (1 - (lg_sl ([.int x_p0])).length) Slot.unset).toArray = ls at hl ⊢
  have hl : lv_has ls 1 [(0, .int x_p0)] := hl
  refine lv_iload_n hx hb d_Cd_fieldD_0 rfl (lv_at hl 0 rfl) ?_
  refine lv_bipush (v := 7) hx hb d_Cd_fieldD_1 (by decide) ?_
  refine lv_iushr (v := (jU x_p0 7)) hx hb d_Cd_fieldD_3 rfl ?_
  refine lv_bipush (v := 31) hx hb d_Cd_fieldD_4 (by decide) ?_
  refine lv_iand hx hb d_Cd_fieldD_6 ?_
  have ef : (f_Cd_fieldD x_p0) = (((jU x_p0 7) &&& 31) : Int32) := rfl
  exact W.iret (v := ((jU x_p0 7) &&& 31)) hx hb hr (fun t ht hW => ⟨by rw [ef], ht⟩) (fun _ h => by cases h) d_Cd_fieldD_7
def f_Cd_fieldF (x_p0 : Int32) : Int32 :=
  ((jU x_p0 12) &&& 7)
set_option maxHeartbeats 4000000 in
set_option maxRecDepth 100000 in
theorem ct_Cd_fieldF (l : Launch) (dC : Nat → ClassId) (dI : Nat → Nat → Nat) (cI : ClassId) (x_p0 : Int32) : Met l y_Cd_fieldF w_Cd_fieldF ({ frames := 0, cells := 0, slots := 0, locals := 0 }) (pcR dC dI cI [] [.int x_p0]) (QcRead (f_Cd_fieldF x_p0)) 0 0 (fun _ => False) := by
  refine Met.ofW (cc := c_Cd_fieldF) (maxL := 1) (ret := (some .int)) (by decide) rfl ?_
  intro p e s m args below meth c s₁ B hml hv
  obtain ⟨rfl, hP, hK⟩ := hv
  have hx := B.exec
  have hb := B.bytes
  have hr := B.returns
  have hts : ∀ w ∈ wG, w.before _ s = true := fun w h => atoms_spec (ws := w_Cd_fieldF) B.pre w (List.mem_cons_of_mem _ h)
  have hown : s.vm.findClass "LabelledCore$Code" = some m.cls := findClass_of_methodNamed B.named
  have hlocks := B.notSynchronized
  have hl := lv_entry ([.int x_p0]) (n := 1) (Nat.le_of_ble_eq_true rfl)
  rw [lg_entry_eq]
  generalize (lg_sl ([.int x_p0]) ++ List.replicate (1 - (lg_sl ([.int x_p0])).length) Slot.unset).toArray = ls at hl ⊢
  have hl : lv_has ls 1 [(0, .int x_p0)] := hl
  refine lv_iload_n hx hb d_Cd_fieldF_0 rfl (lv_at hl 0 rfl) ?_
  refine lv_bipush (v := 12) hx hb d_Cd_fieldF_1 (by decide) ?_
  refine lv_iushr (v := (jU x_p0 12)) hx hb d_Cd_fieldF_3 rfl ?_
  refine lv_bipush (v := 7) hx hb d_Cd_fieldF_4 (by decide) ?_
  refine lv_iand hx hb d_Cd_fieldF_6 ?_
  have ef : (f_Cd_fieldF x_p0) = (((jU x_p0 12) &&& 7) : Int32) := rfl
  exact W.iret (v := ((jU x_p0 12) &&& 7)) hx hb hr (fun t ht hW => ⟨by rw [ef], ht⟩) (fun _ h => by cases h) d_Cd_fieldF_7
def f_Cd_fieldA (x_p0 : Int32) : Int32 :=
  ((jU x_p0 15) &&& 31)
set_option maxHeartbeats 4000000 in
set_option maxRecDepth 100000 in
theorem ct_Cd_fieldA (l : Launch) (dC : Nat → ClassId) (dI : Nat → Nat → Nat) (cI : ClassId) (x_p0 : Int32) : Met l y_Cd_fieldA w_Cd_fieldA ({ frames := 0, cells := 0, slots := 0, locals := 0 }) (pcR dC dI cI [] [.int x_p0]) (QcRead (f_Cd_fieldA x_p0)) 0 0 (fun _ => False) := by
  refine Met.ofW (cc := c_Cd_fieldA) (maxL := 1) (ret := (some .int)) (by decide) rfl ?_
  intro p e s m args below meth c s₁ B hml hv
  obtain ⟨rfl, hP, hK⟩ := hv
  have hx := B.exec
  have hb := B.bytes
  have hr := B.returns
  have hts : ∀ w ∈ wG, w.before _ s = true := fun w h => atoms_spec (ws := w_Cd_fieldA) B.pre w (List.mem_cons_of_mem _ h)
  have hown : s.vm.findClass "LabelledCore$Code" = some m.cls := findClass_of_methodNamed B.named
  have hlocks := B.notSynchronized
  have hl := lv_entry ([.int x_p0]) (n := 1) (Nat.le_of_ble_eq_true rfl)
  rw [lg_entry_eq]
  generalize (lg_sl ([.int x_p0]) ++ List.replicate (1 - (lg_sl ([.int x_p0])).length) Slot.unset).toArray = ls at hl ⊢
  have hl : lv_has ls 1 [(0, .int x_p0)] := hl
  refine lv_iload_n hx hb d_Cd_fieldA_0 rfl (lv_at hl 0 rfl) ?_
  refine lv_bipush (v := 15) hx hb d_Cd_fieldA_1 (by decide) ?_
  refine lv_iushr (v := (jU x_p0 15)) hx hb d_Cd_fieldA_3 rfl ?_
  refine lv_bipush (v := 31) hx hb d_Cd_fieldA_4 (by decide) ?_
  refine lv_iand hx hb d_Cd_fieldA_6 ?_
  have ef : (f_Cd_fieldA x_p0) = (((jU x_p0 15) &&& 31) : Int32) := rfl
  exact W.iret (v := ((jU x_p0 15) &&& 31)) hx hb hr (fun t ht hW => ⟨by rw [ef], ht⟩) (fun _ h => by cases h) d_Cd_fieldA_7
def f_Cd_fieldB (x_p0 : Int32) : Int32 :=
  ((jU x_p0 20) &&& 31)
set_option maxHeartbeats 4000000 in
set_option maxRecDepth 100000 in
theorem ct_Cd_fieldB (l : Launch) (dC : Nat → ClassId) (dI : Nat → Nat → Nat) (cI : ClassId) (x_p0 : Int32) : Met l y_Cd_fieldB w_Cd_fieldB ({ frames := 0, cells := 0, slots := 0, locals := 0 }) (pcR dC dI cI [] [.int x_p0]) (QcRead (f_Cd_fieldB x_p0)) 0 0 (fun _ => False) := by
  refine Met.ofW (cc := c_Cd_fieldB) (maxL := 1) (ret := (some .int)) (by decide) rfl ?_
  intro p e s m args below meth c s₁ B hml hv
  obtain ⟨rfl, hP, hK⟩ := hv
  have hx := B.exec
  have hb := B.bytes
  have hr := B.returns
  have hts : ∀ w ∈ wG, w.before _ s = true := fun w h => atoms_spec (ws := w_Cd_fieldB) B.pre w (List.mem_cons_of_mem _ h)
  have hown : s.vm.findClass "LabelledCore$Code" = some m.cls := findClass_of_methodNamed B.named
  have hlocks := B.notSynchronized
  have hl := lv_entry ([.int x_p0]) (n := 1) (Nat.le_of_ble_eq_true rfl)
  rw [lg_entry_eq]
  generalize (lg_sl ([.int x_p0]) ++ List.replicate (1 - (lg_sl ([.int x_p0])).length) Slot.unset).toArray = ls at hl ⊢
  have hl : lv_has ls 1 [(0, .int x_p0)] := hl
  refine lv_iload_n hx hb d_Cd_fieldB_0 rfl (lv_at hl 0 rfl) ?_
  refine lv_bipush (v := 20) hx hb d_Cd_fieldB_1 (by decide) ?_
  refine lv_iushr (v := (jU x_p0 20)) hx hb d_Cd_fieldB_3 rfl ?_
  refine lv_bipush (v := 31) hx hb d_Cd_fieldB_4 (by decide) ?_
  refine lv_iand hx hb d_Cd_fieldB_6 ?_
  have ef : (f_Cd_fieldB x_p0) = (((jU x_p0 20) &&& 31) : Int32) := rfl
  exact W.iret (v := ((jU x_p0 20) &&& 31)) hx hb hr (fun t ht hW => ⟨by rw [ef], ht⟩) (fun _ h => by cases h) d_Cd_fieldB_7
def f_Cd_fieldG (x_p0 : Int32) : Int32 :=
  (jU x_p0 25)
set_option maxHeartbeats 4000000 in
set_option maxRecDepth 100000 in
theorem ct_Cd_fieldG (l : Launch) (dC : Nat → ClassId) (dI : Nat → Nat → Nat) (cI : ClassId) (x_p0 : Int32) : Met l y_Cd_fieldG w_Cd_fieldG ({ frames := 0, cells := 0, slots := 0, locals := 0 }) (pcR dC dI cI [] [.int x_p0]) (QcRead (f_Cd_fieldG x_p0)) 0 0 (fun _ => False) := by
  refine Met.ofW (cc := c_Cd_fieldG) (maxL := 1) (ret := (some .int)) (by decide) rfl ?_
  intro p e s m args below meth c s₁ B hml hv
  obtain ⟨rfl, hP, hK⟩ := hv
  have hx := B.exec
  have hb := B.bytes
  have hr := B.returns
  have hts : ∀ w ∈ wG, w.before _ s = true := fun w h => atoms_spec (ws := w_Cd_fieldG) B.pre w (List.mem_cons_of_mem _ h)
  have hown : s.vm.findClass "LabelledCore$Code" = some m.cls := findClass_of_methodNamed B.named
  have hlocks := B.notSynchronized
  have hl := lv_entry ([.int x_p0]) (n := 1) (Nat.le_of_ble_eq_true rfl)
  rw [lg_entry_eq]
  generalize (lg_sl ([.int x_p0]) ++ List.replicate (1 - (lg_sl ([.int x_p0])).length) Slot.unset).toArray = ls at hl ⊢
  have hl : lv_has ls 1 [(0, .int x_p0)] := hl
  refine lv_iload_n hx hb d_Cd_fieldG_0 rfl (lv_at hl 0 rfl) ?_
  refine lv_bipush (v := 25) hx hb d_Cd_fieldG_1 (by decide) ?_
  refine lv_iushr (v := (jU x_p0 25)) hx hb d_Cd_fieldG_3 rfl ?_
  have ef : (f_Cd_fieldG x_p0) = ((jU x_p0 25) : Int32) := rfl
  exact W.iret (v := (jU x_p0 25)) hx hb hr (fun t ht hW => ⟨by rw [ef], ht⟩) (fun _ h => by cases h) d_Cd_fieldG_4
def f_Cd_immediate (x_p0 : Int32) : Int32 :=
  (x_p0 >>> (20 &&& 31))
set_option maxHeartbeats 4000000 in
set_option maxRecDepth 100000 in
theorem ct_Cd_immediate (l : Launch) (dC : Nat → ClassId) (dI : Nat → Nat → Nat) (cI : ClassId) (x_p0 : Int32) : Met l y_Cd_immediate w_Cd_immediate ({ frames := 0, cells := 0, slots := 0, locals := 0 }) (pcR dC dI cI [] [.int x_p0]) (QcRead (f_Cd_immediate x_p0)) 0 0 (fun _ => False) := by
  refine Met.ofW (cc := c_Cd_immediate) (maxL := 1) (ret := (some .int)) (by decide) rfl ?_
  intro p e s m args below meth c s₁ B hml hv
  obtain ⟨rfl, hP, hK⟩ := hv
  have hx := B.exec
  have hb := B.bytes
  have hr := B.returns
  have hts : ∀ w ∈ wG, w.before _ s = true := fun w h => atoms_spec (ws := w_Cd_immediate) B.pre w (List.mem_cons_of_mem _ h)
  have hown : s.vm.findClass "LabelledCore$Code" = some m.cls := findClass_of_methodNamed B.named
  have hlocks := B.notSynchronized
  have hl := lv_entry ([.int x_p0]) (n := 1) (Nat.le_of_ble_eq_true rfl)
  rw [lg_entry_eq]
  generalize (lg_sl ([.int x_p0]) ++ List.replicate (1 - (lg_sl ([.int x_p0])).length) Slot.unset).toArray = ls at hl ⊢
  have hl : lv_has ls 1 [(0, .int x_p0)] := hl
  refine lv_iload_n hx hb d_Cd_immediate_0 rfl (lv_at hl 0 rfl) ?_
  refine lv_bipush (v := 20) hx hb d_Cd_immediate_1 (by decide) ?_
  refine lv_ishr hx hb d_Cd_immediate_3 ?_
  have ef : (f_Cd_immediate x_p0) = ((x_p0 >>> (20 &&& 31)) : Int32) := rfl
  exact W.iret (v := (x_p0 >>> (20 &&& 31))) hx hb hr (fun t ht hW => ⟨by rw [ef], ht⟩) (fun _ h => by cases h) d_Cd_immediate_4
def f_Cd_upperPart (x_p0 : Int32) : Int32 :=
  (x_p0 &&& (-4096))
set_option maxHeartbeats 4000000 in
set_option maxRecDepth 100000 in
theorem ct_Cd_upperPart (l : Launch) (dC : Nat → ClassId) (dI : Nat → Nat → Nat) (cI : ClassId) (x_p0 : Int32) : Met l y_Cd_upperPart w_Cd_upperPart ({ frames := 0, cells := 0, slots := 0, locals := 0 }) (pcR dC dI cI [] [.int x_p0]) (QcRead (f_Cd_upperPart x_p0)) 0 0 (fun _ => False) := by
  refine Met.ofW (cc := c_Cd_upperPart) (maxL := 1) (ret := (some .int)) (by decide) rfl ?_
  intro p e s m args below meth c s₁ B hml hv
  obtain ⟨rfl, hP, hK⟩ := hv
  have hx := B.exec
  have hb := B.bytes
  have hr := B.returns
  have hts : ∀ w ∈ wG, w.before _ s = true := fun w h => atoms_spec (ws := w_Cd_upperPart) B.pre w (List.mem_cons_of_mem _ h)
  have hown : s.vm.findClass "LabelledCore$Code" = some m.cls := findClass_of_methodNamed B.named
  have hlocks := B.notSynchronized
  have hl := lv_entry ([.int x_p0]) (n := 1) (Nat.le_of_ble_eq_true rfl)
  rw [lg_entry_eq]
  generalize (lg_sl ([.int x_p0]) ++ List.replicate (1 - (lg_sl ([.int x_p0])).length) Slot.unset).toArray = ls at hl ⊢
  have hl : lv_has ls 1 [(0, .int x_p0)] := hl
  refine lv_iload_n hx hb d_Cd_upperPart_0 rfl (lv_at hl 0 rfl) ?_
  refine lv_sipush (v := (-4096)) hx hb d_Cd_upperPart_1 (by decide) ?_
  refine lv_iand hx hb d_Cd_upperPart_4 ?_
  have ef : (f_Cd_upperPart x_p0) = ((x_p0 &&& (-4096)) : Int32) := rfl
  exact W.iret (v := (x_p0 &&& (-4096))) hx hb hr (fun t ht hW => ⟨by rw [ef], ht⟩) (fun _ h => by cases h) d_Cd_upperPart_5
def f_Cd_storeOffset (x_p0 : Int32) : Int32 :=
  (((x_p0 >>> (25 &&& 31)) <<< (5 &&& 31)) ||| (f_Cd_fieldD x_p0))
set_option maxHeartbeats 4000000 in
set_option maxRecDepth 100000 in
theorem ct_Cd_storeOffset (l : Launch) (dC : Nat → ClassId) (dI : Nat → Nat → Nat) (cI : ClassId) (x_p0 : Int32) : Met l y_Cd_storeOffset w_Cd_storeOffset ({ frames := 1, cells := 0, slots := 0, locals := 20 }) (pcR dC dI cI [] [.int x_p0]) (QcRead (f_Cd_storeOffset x_p0)) 0 0 (fun _ => False) := by
  refine Met.ofW (cc := c_Cd_storeOffset) (maxL := 1) (ret := (some .int)) (by decide) rfl ?_
  intro p e s m args below meth c s₁ B hml hv
  obtain ⟨rfl, hP, hK⟩ := hv
  have hx := B.exec
  have hb := B.bytes
  have hr := B.returns
  have hts : ∀ w ∈ wG, w.before _ s = true := fun w h => atoms_spec (ws := w_Cd_storeOffset) B.pre w (List.mem_cons_of_mem _ h)
  have hown : s.vm.findClass "LabelledCore$Code" = some m.cls := findClass_of_methodNamed B.named
  have hlocks := B.notSynchronized
  have hl := lv_entry ([.int x_p0]) (n := 1) (Nat.le_of_ble_eq_true rfl)
  rw [lg_entry_eq]
  generalize (lg_sl ([.int x_p0]) ++ List.replicate (1 - (lg_sl ([.int x_p0])).length) Slot.unset).toArray = ls at hl ⊢
  have hl : lv_has ls 1 [(0, .int x_p0)] := hl
  refine lv_iload_n hx hb d_Cd_storeOffset_0 rfl (lv_at hl 0 rfl) ?_
  refine lv_bipush (v := 25) hx hb d_Cd_storeOffset_1 (by decide) ?_
  refine lv_ishr hx hb d_Cd_storeOffset_3 ?_
  refine lv_iconst (v := 5) hx hb d_Cd_storeOffset_4 (by decide) ?_
  refine lv_ishl hx hb d_Cd_storeOffset_5 ?_
  refine lv_iload_n hx hb d_Cd_storeOffset_6 rfl (lv_at hl 0 rfl) ?_
  have hPc := hP.sub (ws' := []) [] rfl
  refine W.callR ((W.runS (As := [.int x_p0]) (rest := [.int ((x_p0 >>> (25 &&& 31)) <<< (5 &&& 31))]) ⟨hx, hb, hml, hown, hts⟩ (ct_Cd_fieldD l dC dI cI x_p0) (va_cwS 1 hts (gS wm_460 wm_461 wm_48 wm_462) rfl rfl rfl (by decide +kernel) ⟨Nat.le_of_ble_eq_true rfl, Nat.le_of_ble_eq_true rfl⟩) ⟨pcR_blind, pcR_pre hPc hK⟩ rfl rfl hl.1 rfl (lv_room (Nat.le_of_ble_eq_true rfl)) d_Cd_storeOffset_7 ⟨Nat.le_of_ble_eq_true rfl, Nat.le_of_ble_eq_true rfl⟩)) ?_
  refine W.eq (g2 := F0 m 10 ls [.int (f_Cd_fieldD x_p0), .int ((x_p0 >>> (25 &&& 31)) <<< (5 &&& 31))]) rfl ?_
  refine lv_ior hx hb d_Cd_storeOffset_10 ?_
  have ef : (f_Cd_storeOffset x_p0) = ((((x_p0 >>> (25 &&& 31)) <<< (5 &&& 31)) ||| (f_Cd_fieldD x_p0)) : Int32) := rfl
  exact W.iret (v := (((x_p0 >>> (25 &&& 31)) <<< (5 &&& 31)) ||| (f_Cd_fieldD x_p0))) hx hb hr (fun t ht hW => ⟨by rw [ef], ht⟩) (fun _ h => by cases h) d_Cd_storeOffset_11
def f_Cd_branchOffset (x_p0 : Int32) : Int32 :=
  (((((x_p0 >>> (31 &&& 31)) <<< (12 &&& 31)) ||| (((jU x_p0 7) &&& 1) <<< (11 &&& 31))) ||| (((jU x_p0 25) &&& 63) <<< (5 &&& 31))) ||| (((jU x_p0 8) &&& 15) <<< (1 &&& 31)))
set_option maxHeartbeats 4000000 in
set_option maxRecDepth 100000 in
theorem ct_Cd_branchOffset (l : Launch) (dC : Nat → ClassId) (dI : Nat → Nat → Nat) (cI : ClassId) (x_p0 : Int32) : Met l y_Cd_branchOffset w_Cd_branchOffset ({ frames := 0, cells := 0, slots := 0, locals := 0 }) (pcR dC dI cI [] [.int x_p0]) (QcRead (f_Cd_branchOffset x_p0)) 0 0 (fun _ => False) := by
  refine Met.ofW (cc := c_Cd_branchOffset) (maxL := 1) (ret := (some .int)) (by decide) rfl ?_
  intro p e s m args below meth c s₁ B hml hv
  obtain ⟨rfl, hP, hK⟩ := hv
  have hx := B.exec
  have hb := B.bytes
  have hr := B.returns
  have hts : ∀ w ∈ wG, w.before _ s = true := fun w h => atoms_spec (ws := w_Cd_branchOffset) B.pre w (List.mem_cons_of_mem _ h)
  have hown : s.vm.findClass "LabelledCore$Code" = some m.cls := findClass_of_methodNamed B.named
  have hlocks := B.notSynchronized
  have hl := lv_entry ([.int x_p0]) (n := 1) (Nat.le_of_ble_eq_true rfl)
  rw [lg_entry_eq]
  generalize (lg_sl ([.int x_p0]) ++ List.replicate (1 - (lg_sl ([.int x_p0])).length) Slot.unset).toArray = ls at hl ⊢
  have hl : lv_has ls 1 [(0, .int x_p0)] := hl
  refine lv_iload_n hx hb d_Cd_branchOffset_0 rfl (lv_at hl 0 rfl) ?_
  refine lv_bipush (v := 31) hx hb d_Cd_branchOffset_1 (by decide) ?_
  refine lv_ishr hx hb d_Cd_branchOffset_3 ?_
  refine lv_bipush (v := 12) hx hb d_Cd_branchOffset_4 (by decide) ?_
  refine lv_ishl hx hb d_Cd_branchOffset_6 ?_
  refine lv_iload_n hx hb d_Cd_branchOffset_7 rfl (lv_at hl 0 rfl) ?_
  refine lv_bipush (v := 7) hx hb d_Cd_branchOffset_8 (by decide) ?_
  refine lv_iushr (v := (jU x_p0 7)) hx hb d_Cd_branchOffset_10 rfl ?_
  refine lv_iconst (v := 1) hx hb d_Cd_branchOffset_11 (by decide) ?_
  refine lv_iand hx hb d_Cd_branchOffset_12 ?_
  refine lv_bipush (v := 11) hx hb d_Cd_branchOffset_13 (by decide) ?_
  refine lv_ishl hx hb d_Cd_branchOffset_15 ?_
  refine lv_ior hx hb d_Cd_branchOffset_16 ?_
  refine lv_iload_n hx hb d_Cd_branchOffset_17 rfl (lv_at hl 0 rfl) ?_
  refine lv_bipush (v := 25) hx hb d_Cd_branchOffset_18 (by decide) ?_
  refine lv_iushr (v := (jU x_p0 25)) hx hb d_Cd_branchOffset_20 rfl ?_
  refine lv_bipush (v := 63) hx hb d_Cd_branchOffset_21 (by decide) ?_
  refine lv_iand hx hb d_Cd_branchOffset_23 ?_
  refine lv_iconst (v := 5) hx hb d_Cd_branchOffset_24 (by decide) ?_
  refine lv_ishl hx hb d_Cd_branchOffset_25 ?_
  refine lv_ior hx hb d_Cd_branchOffset_26 ?_
  refine lv_iload_n hx hb d_Cd_branchOffset_27 rfl (lv_at hl 0 rfl) ?_
  refine lv_bipush (v := 8) hx hb d_Cd_branchOffset_28 (by decide) ?_
  refine lv_iushr (v := (jU x_p0 8)) hx hb d_Cd_branchOffset_30 rfl ?_
  refine lv_bipush (v := 15) hx hb d_Cd_branchOffset_31 (by decide) ?_
  refine lv_iand hx hb d_Cd_branchOffset_33 ?_
  refine lv_iconst (v := 1) hx hb d_Cd_branchOffset_34 (by decide) ?_
  refine lv_ishl hx hb d_Cd_branchOffset_35 ?_
  refine lv_ior hx hb d_Cd_branchOffset_36 ?_
  have ef : (f_Cd_branchOffset x_p0) = ((((((x_p0 >>> (31 &&& 31)) <<< (12 &&& 31)) ||| (((jU x_p0 7) &&& 1) <<< (11 &&& 31))) ||| (((jU x_p0 25) &&& 63) <<< (5 &&& 31))) ||| (((jU x_p0 8) &&& 15) <<< (1 &&& 31))) : Int32) := rfl
  exact W.iret (v := (((((x_p0 >>> (31 &&& 31)) <<< (12 &&& 31)) ||| (((jU x_p0 7) &&& 1) <<< (11 &&& 31))) ||| (((jU x_p0 25) &&& 63) <<< (5 &&& 31))) ||| (((jU x_p0 8) &&& 15) <<< (1 &&& 31)))) hx hb hr (fun t ht hW => ⟨by rw [ef], ht⟩) (fun _ h => by cases h) d_Cd_branchOffset_37
def f_Cd_callOffset (x_p0 : Int32) : Int32 :=
  (((((x_p0 >>> (31 &&& 31)) <<< (20 &&& 31)) ||| (((jU x_p0 12) &&& 255) <<< (12 &&& 31))) ||| (((jU x_p0 20) &&& 1) <<< (11 &&& 31))) ||| (((jU x_p0 21) &&& 1023) <<< (1 &&& 31)))
set_option maxHeartbeats 4000000 in
set_option maxRecDepth 100000 in
theorem ct_Cd_callOffset (l : Launch) (dC : Nat → ClassId) (dI : Nat → Nat → Nat) (cI : ClassId) (x_p0 : Int32) : Met l y_Cd_callOffset w_Cd_callOffset ({ frames := 0, cells := 0, slots := 0, locals := 0 }) (pcR dC dI cI [] [.int x_p0]) (QcRead (f_Cd_callOffset x_p0)) 0 0 (fun _ => False) := by
  refine Met.ofW (cc := c_Cd_callOffset) (maxL := 1) (ret := (some .int)) (by decide) rfl ?_
  intro p e s m args below meth c s₁ B hml hv
  obtain ⟨rfl, hP, hK⟩ := hv
  have hx := B.exec
  have hb := B.bytes
  have hr := B.returns
  have hts : ∀ w ∈ wG, w.before _ s = true := fun w h => atoms_spec (ws := w_Cd_callOffset) B.pre w (List.mem_cons_of_mem _ h)
  have hown : s.vm.findClass "LabelledCore$Code" = some m.cls := findClass_of_methodNamed B.named
  have hlocks := B.notSynchronized
  have hl := lv_entry ([.int x_p0]) (n := 1) (Nat.le_of_ble_eq_true rfl)
  rw [lg_entry_eq]
  generalize (lg_sl ([.int x_p0]) ++ List.replicate (1 - (lg_sl ([.int x_p0])).length) Slot.unset).toArray = ls at hl ⊢
  have hl : lv_has ls 1 [(0, .int x_p0)] := hl
  refine lv_iload_n hx hb d_Cd_callOffset_0 rfl (lv_at hl 0 rfl) ?_
  refine lv_bipush (v := 31) hx hb d_Cd_callOffset_1 (by decide) ?_
  refine lv_ishr hx hb d_Cd_callOffset_3 ?_
  refine lv_bipush (v := 20) hx hb d_Cd_callOffset_4 (by decide) ?_
  refine lv_ishl hx hb d_Cd_callOffset_6 ?_
  refine lv_iload_n hx hb d_Cd_callOffset_7 rfl (lv_at hl 0 rfl) ?_
  refine lv_bipush (v := 12) hx hb d_Cd_callOffset_8 (by decide) ?_
  refine lv_iushr (v := (jU x_p0 12)) hx hb d_Cd_callOffset_10 rfl ?_
  refine lv_sipush (v := 255) hx hb d_Cd_callOffset_11 (by decide) ?_
  refine lv_iand hx hb d_Cd_callOffset_14 ?_
  refine lv_bipush (v := 12) hx hb d_Cd_callOffset_15 (by decide) ?_
  refine lv_ishl hx hb d_Cd_callOffset_17 ?_
  refine lv_ior hx hb d_Cd_callOffset_18 ?_
  refine lv_iload_n hx hb d_Cd_callOffset_19 rfl (lv_at hl 0 rfl) ?_
  refine lv_bipush (v := 20) hx hb d_Cd_callOffset_20 (by decide) ?_
  refine lv_iushr (v := (jU x_p0 20)) hx hb d_Cd_callOffset_22 rfl ?_
  refine lv_iconst (v := 1) hx hb d_Cd_callOffset_23 (by decide) ?_
  refine lv_iand hx hb d_Cd_callOffset_24 ?_
  refine lv_bipush (v := 11) hx hb d_Cd_callOffset_25 (by decide) ?_
  refine lv_ishl hx hb d_Cd_callOffset_27 ?_
  refine lv_ior hx hb d_Cd_callOffset_28 ?_
  refine lv_iload_n hx hb d_Cd_callOffset_29 rfl (lv_at hl 0 rfl) ?_
  refine lv_bipush (v := 21) hx hb d_Cd_callOffset_30 (by decide) ?_
  refine lv_iushr (v := (jU x_p0 21)) hx hb d_Cd_callOffset_32 rfl ?_
  refine lv_sipush (v := 1023) hx hb d_Cd_callOffset_33 (by decide) ?_
  refine lv_iand hx hb d_Cd_callOffset_36 ?_
  refine lv_iconst (v := 1) hx hb d_Cd_callOffset_37 (by decide) ?_
  refine lv_ishl hx hb d_Cd_callOffset_38 ?_
  refine lv_ior hx hb d_Cd_callOffset_39 ?_
  have ef : (f_Cd_callOffset x_p0) = ((((((x_p0 >>> (31 &&& 31)) <<< (20 &&& 31)) ||| (((jU x_p0 12) &&& 255) <<< (12 &&& 31))) ||| (((jU x_p0 20) &&& 1) <<< (11 &&& 31))) ||| (((jU x_p0 21) &&& 1023) <<< (1 &&& 31))) : Int32) := rfl
  exact W.iret (v := (((((x_p0 >>> (31 &&& 31)) <<< (20 &&& 31)) ||| (((jU x_p0 12) &&& 255) <<< (12 &&& 31))) ||| (((jU x_p0 20) &&& 1) <<< (11 &&& 31))) ||| (((jU x_p0 21) &&& 1023) <<< (1 &&& 31)))) hx hb hr (fun t ht hW => ⟨by rw [ef], ht⟩) (fun _ h => by cases h) d_Cd_callOffset_40
def f_Cd_isRegisterWork (x_p0 : Int32) (x_p1 : Int32) : Int32 :=
  if x_p1 = 0 then
    1
  else
    if x_p1 = 32 then
      if x_p0 = 0 then
        1
      else
        if x_p0 = 5 then
          1
        else
          0
    else
      0
set_option maxHeartbeats 4000000 in
set_option maxRecDepth 100000 in
theorem ct_Cd_isRegisterWork (l : Launch) (dC : Nat → ClassId) (dI : Nat → Nat → Nat) (cI : ClassId) (x_p0 : Int32) (x_p1 : Int32) : Met l y_Cd_isRegisterWork w_Cd_isRegisterWork ({ frames := 0, cells := 0, slots := 0, locals := 0 }) (pcR dC dI cI [] [.int x_p0, .int x_p1]) (QcRead (f_Cd_isRegisterWork x_p0 x_p1)) 0 0 (fun _ => False) := by
  refine Met.ofW (cc := c_Cd_isRegisterWork) (maxL := 2) (ret := (some .boolean)) (by decide) rfl ?_
  intro p e s m args below meth c s₁ B hml hv
  obtain ⟨rfl, hP, hK⟩ := hv
  have hx := B.exec
  have hb := B.bytes
  have hr := B.returns
  have hts : ∀ w ∈ wG, w.before _ s = true := fun w h => atoms_spec (ws := w_Cd_isRegisterWork) B.pre w (List.mem_cons_of_mem _ h)
  have hown : s.vm.findClass "LabelledCore$Code" = some m.cls := findClass_of_methodNamed B.named
  have hlocks := B.notSynchronized
  have hl := lv_entry ([.int x_p0, .int x_p1]) (n := 2) (Nat.le_of_ble_eq_true rfl)
  rw [lg_entry_eq]
  generalize (lg_sl ([.int x_p0, .int x_p1]) ++ List.replicate (2 - (lg_sl ([.int x_p0, .int x_p1])).length) Slot.unset).toArray = ls at hl ⊢
  have hl : lv_has ls 2 [(0, .int x_p0), (1, .int x_p1)] := hl
  refine lv_iload_n hx hb d_Cd_isRegisterWork_0 rfl (lv_at hl 1 rfl) ?_
  refine lv_if_eq (tgt := 19) hx hb d_Cd_isRegisterWork_1 (by decide) (fun c_1 => ?_) (fun c_1 => ?_)
  · refine lv_iconst (v := 1) hx hb d_Cd_isRegisterWork_19 (by decide) ?_
    refine lv_goto (tgt := 24) hx hb d_Cd_isRegisterWork_20 (by decide) ?_
    have ef : (f_Cd_isRegisterWork x_p0 x_p1) = (1 : Int32) := (if_pos c_1).trans rfl
    exact W.zret (v := 1) hx hb hr rfl (fun t ht hW => ⟨by rw [ef], ht⟩) (fun _ h => by cases h) d_Cd_isRegisterWork_24
  · refine lv_iload_n hx hb d_Cd_isRegisterWork_4 rfl (lv_at hl 1 rfl) ?_
    refine lv_bipush (v := 32) hx hb d_Cd_isRegisterWork_5 (by decide) ?_
    refine lv_icmp_ne (tgt := 23) hx hb d_Cd_isRegisterWork_7 (by decide) (fun c_2 => ?_) (fun c_2 => ?_)
    · refine lv_iconst (v := 0) hx hb d_Cd_isRegisterWork_23 (by decide) ?_
      have ef : (f_Cd_isRegisterWork x_p0 x_p1) = (0 : Int32) := (if_neg c_1).trans ((if_neg c_2).trans rfl)
      exact W.zret (v := 0) hx hb hr rfl (fun t ht hW => ⟨by rw [ef], ht⟩) (fun _ h => by cases h) d_Cd_isRegisterWork_24
    · refine lv_iload_n hx hb d_Cd_isRegisterWork_10 rfl (lv_at hl 0 rfl) ?_
      refine lv_if_eq (tgt := 19) hx hb d_Cd_isRegisterWork_11 (by decide) (fun c_3 => ?_) (fun c_3 => ?_)
      · refine lv_iconst (v := 1) hx hb d_Cd_isRegisterWork_19 (by decide) ?_
        refine lv_goto (tgt := 24) hx hb d_Cd_isRegisterWork_20 (by decide) ?_
        have ef : (f_Cd_isRegisterWork x_p0 x_p1) = (1 : Int32) := (if_neg c_1).trans ((if_pos c_2).trans ((if_pos c_3).trans rfl))
        exact W.zret (v := 1) hx hb hr rfl (fun t ht hW => ⟨by rw [ef], ht⟩) (fun _ h => by cases h) d_Cd_isRegisterWork_24
      · refine lv_iload_n hx hb d_Cd_isRegisterWork_14 rfl (lv_at hl 0 rfl) ?_
        refine lv_iconst (v := 5) hx hb d_Cd_isRegisterWork_15 (by decide) ?_
        refine lv_icmp_ne (tgt := 23) hx hb d_Cd_isRegisterWork_16 (by decide) (fun c_4 => ?_) (fun c_4 => ?_)
        · refine lv_iconst (v := 0) hx hb d_Cd_isRegisterWork_23 (by decide) ?_
          have ef : (f_Cd_isRegisterWork x_p0 x_p1) = (0 : Int32) := (if_neg c_1).trans ((if_pos c_2).trans ((if_neg c_3).trans ((if_neg c_4).trans rfl)))
          exact W.zret (v := 0) hx hb hr rfl (fun t ht hW => ⟨by rw [ef], ht⟩) (fun _ h => by cases h) d_Cd_isRegisterWork_24
        · refine lv_iconst (v := 1) hx hb d_Cd_isRegisterWork_19 (by decide) ?_
          refine lv_goto (tgt := 24) hx hb d_Cd_isRegisterWork_20 (by decide) ?_
          have ef : (f_Cd_isRegisterWork x_p0 x_p1) = (1 : Int32) := (if_neg c_1).trans ((if_pos c_2).trans ((if_neg c_3).trans ((if_pos c_4).trans rfl)))
          exact W.zret (v := 1) hx hb hr rfl (fun t ht hW => ⟨by rw [ef], ht⟩) (fun _ h => by cases h) d_Cd_isRegisterWork_24
def f_Cd_isNumberWork (x_p0 : Int32) (x_p1 : Int32) : Int32 :=
  if x_p0 = 1 then
    if x_p1 = 0 then
      1
    else
      0
  else
    if x_p0 = 5 then
      if x_p1 = 0 then
        1
      else
        if x_p1 = 32 then
          1
        else
          0
    else
      1
set_option maxHeartbeats 4000000 in
set_option maxRecDepth 100000 in
theorem ct_Cd_isNumberWork (l : Launch) (dC : Nat → ClassId) (dI : Nat → Nat → Nat) (cI : ClassId) (x_p0 : Int32) (x_p1 : Int32) : Met l y_Cd_isNumberWork w_Cd_isNumberWork ({ frames := 0, cells := 0, slots := 0, locals := 0 }) (pcR dC dI cI [] [.int x_p0, .int x_p1]) (QcRead (f_Cd_isNumberWork x_p0 x_p1)) 0 0 (fun _ => False) := by
  refine Met.ofW (cc := c_Cd_isNumberWork) (maxL := 2) (ret := (some .boolean)) (by decide) rfl ?_
  intro p e s m args below meth c s₁ B hml hv
  obtain ⟨rfl, hP, hK⟩ := hv
  have hx := B.exec
  have hb := B.bytes
  have hr := B.returns
  have hts : ∀ w ∈ wG, w.before _ s = true := fun w h => atoms_spec (ws := w_Cd_isNumberWork) B.pre w (List.mem_cons_of_mem _ h)
  have hown : s.vm.findClass "LabelledCore$Code" = some m.cls := findClass_of_methodNamed B.named
  have hlocks := B.notSynchronized
  have hl := lv_entry ([.int x_p0, .int x_p1]) (n := 2) (Nat.le_of_ble_eq_true rfl)
  rw [lg_entry_eq]
  generalize (lg_sl ([.int x_p0, .int x_p1]) ++ List.replicate (2 - (lg_sl ([.int x_p0, .int x_p1])).length) Slot.unset).toArray = ls at hl ⊢
  have hl : lv_has ls 2 [(0, .int x_p0), (1, .int x_p1)] := hl
  refine lv_iload_n hx hb d_Cd_isNumberWork_0 rfl (lv_at hl 0 rfl) ?_
  refine lv_iconst (v := 1) hx hb d_Cd_isNumberWork_1 (by decide) ?_
  refine lv_icmp_ne (tgt := 15) hx hb d_Cd_isNumberWork_2 (by decide) (fun c_1 => ?_) (fun c_1 => ?_)
  · refine lv_iload_n hx hb d_Cd_isNumberWork_15 rfl (lv_at hl 0 rfl) ?_
    refine lv_iconst (v := 5) hx hb d_Cd_isNumberWork_16 (by decide) ?_
    refine lv_icmp_ne (tgt := 30) hx hb d_Cd_isNumberWork_17 (by decide) (fun c_2 => ?_) (fun c_2 => ?_)
    · refine lv_iconst (v := 1) hx hb d_Cd_isNumberWork_30 (by decide) ?_
      refine lv_goto (tgt := 35) hx hb d_Cd_isNumberWork_31 (by decide) ?_
      have ef : (f_Cd_isNumberWork x_p0 x_p1) = (1 : Int32) := (if_neg c_1).trans ((if_neg c_2).trans rfl)
      exact W.zret (v := 1) hx hb hr rfl (fun t ht hW => ⟨by rw [ef], ht⟩) (fun _ h => by cases h) d_Cd_isNumberWork_35
    · refine lv_iload_n hx hb d_Cd_isNumberWork_20 rfl (lv_at hl 1 rfl) ?_
      refine lv_if_eq (tgt := 30) hx hb d_Cd_isNumberWork_21 (by decide) (fun c_3 => ?_) (fun c_3 => ?_)
      · refine lv_iconst (v := 1) hx hb d_Cd_isNumberWork_30 (by decide) ?_
        refine lv_goto (tgt := 35) hx hb d_Cd_isNumberWork_31 (by decide) ?_
        have ef : (f_Cd_isNumberWork x_p0 x_p1) = (1 : Int32) := (if_neg c_1).trans ((if_pos c_2).trans ((if_pos c_3).trans rfl))
        exact W.zret (v := 1) hx hb hr rfl (fun t ht hW => ⟨by rw [ef], ht⟩) (fun _ h => by cases h) d_Cd_isNumberWork_35
      · refine lv_iload_n hx hb d_Cd_isNumberWork_24 rfl (lv_at hl 1 rfl) ?_
        refine lv_bipush (v := 32) hx hb d_Cd_isNumberWork_25 (by decide) ?_
        refine lv_icmp_ne (tgt := 34) hx hb d_Cd_isNumberWork_27 (by decide) (fun c_4 => ?_) (fun c_4 => ?_)
        · refine lv_iconst (v := 0) hx hb d_Cd_isNumberWork_34 (by decide) ?_
          have ef : (f_Cd_isNumberWork x_p0 x_p1) = (0 : Int32) := (if_neg c_1).trans ((if_pos c_2).trans ((if_neg c_3).trans ((if_neg c_4).trans rfl)))
          exact W.zret (v := 0) hx hb hr rfl (fun t ht hW => ⟨by rw [ef], ht⟩) (fun _ h => by cases h) d_Cd_isNumberWork_35
        · refine lv_iconst (v := 1) hx hb d_Cd_isNumberWork_30 (by decide) ?_
          refine lv_goto (tgt := 35) hx hb d_Cd_isNumberWork_31 (by decide) ?_
          have ef : (f_Cd_isNumberWork x_p0 x_p1) = (1 : Int32) := (if_neg c_1).trans ((if_pos c_2).trans ((if_neg c_3).trans ((if_pos c_4).trans rfl)))
          exact W.zret (v := 1) hx hb hr rfl (fun t ht hW => ⟨by rw [ef], ht⟩) (fun _ h => by cases h) d_Cd_isNumberWork_35
  · refine lv_iload_n hx hb d_Cd_isNumberWork_5 rfl (lv_at hl 1 rfl) ?_
    refine lv_if_ne (tgt := 13) hx hb d_Cd_isNumberWork_6 (by decide) (fun c_5 => ?_) (fun c_5 => ?_)
    · refine lv_iconst (v := 0) hx hb d_Cd_isNumberWork_13 (by decide) ?_
      have ef : (f_Cd_isNumberWork x_p0 x_p1) = (0 : Int32) := (if_pos c_1).trans ((if_neg c_5).trans rfl)
      exact W.zret (v := 0) hx hb hr rfl (fun t ht hW => ⟨by rw [ef], ht⟩) (fun _ h => by cases h) d_Cd_isNumberWork_14
    · refine lv_iconst (v := 1) hx hb d_Cd_isNumberWork_9 (by decide) ?_
      refine lv_goto (tgt := 14) hx hb d_Cd_isNumberWork_10 (by decide) ?_
      have ef : (f_Cd_isNumberWork x_p0 x_p1) = (1 : Int32) := (if_pos c_1).trans ((if_pos c_5).trans rfl)
      exact W.zret (v := 1) hx hb hr rfl (fun t ht hW => ⟨by rw [ef], ht⟩) (fun _ h => by cases h) d_Cd_isNumberWork_14
def f_Cd_groupOf (x_p0 : Int32) : Int32 :=
  if (f_Cd_codeOf x_p0) = 3 then
    if (f_Cd_fieldF x_p0) = 0 then
      1
    else
      if (f_Cd_fieldF x_p0) = 2 then
        1
      else
        if (f_Cd_fieldF x_p0) = 4 then
          1
        else
          10
  else
    if (f_Cd_codeOf x_p0) = 11 then
      if (f_Cd_fieldF x_p0) = 0 then
        7
      else
        if (f_Cd_fieldF x_p0) = 1 then
          8
        else
          if (f_Cd_fieldF x_p0) = 2 then
            9
          else
            10
    else
      if (f_Cd_codeOf x_p0) = 19 then
        if (f_Cd_isNumberWork (f_Cd_fieldF x_p0) (f_Cd_fieldG x_p0)) = 0 then
          10
        else
          0
      else
        if (f_Cd_codeOf x_p0) = 23 then
          0
        else
          if (f_Cd_codeOf x_p0) = 35 then
            if (f_Cd_fieldF x_p0) = 2 then
              2
            else
              if (f_Cd_fieldF x_p0) = 0 then
                3
              else
                10
          else
            if (f_Cd_codeOf x_p0) = 51 then
              if (f_Cd_isRegisterWork (f_Cd_fieldF x_p0) (f_Cd_fieldG x_p0)) = 0 then
                10
              else
                0
            else
              if (f_Cd_codeOf x_p0) = 55 then
                0
              else
                if (f_Cd_codeOf x_p0) = 99 then
                  if (f_Cd_fieldF x_p0) = 2 then
                    10
                  else
                    if (f_Cd_fieldF x_p0) = 3 then
                      10
                    else
                      4
                else
                  if (f_Cd_codeOf x_p0) = 103 then
                    if (f_Cd_fieldF x_p0) = 0 then
                      6
                    else
                      10
                  else
                    if (f_Cd_codeOf x_p0) = 111 then
                      5
                    else
                      10
set_option maxHeartbeats 4000000 in
set_option maxRecDepth 100000 in
theorem ct_Cd_groupOf (l : Launch) (dC : Nat → ClassId) (dI : Nat → Nat → Nat) (cI : ClassId) (x_p0 : Int32) : Met l y_Cd_groupOf w_Cd_groupOf ({ frames := 1, cells := 0, slots := 0, locals := 21 }) (pcR dC dI cI [] [.int x_p0]) (QcRead (f_Cd_groupOf x_p0)) 0 0 (fun _ => False) := by
  refine Met.ofW (cc := c_Cd_groupOf) (maxL := 2) (ret := (some .int)) (by decide) rfl ?_
  intro p e s m args below meth c s₁ B hml hv
  obtain ⟨rfl, hP, hK⟩ := hv
  have hx := B.exec
  have hb := B.bytes
  have hr := B.returns
  have hts : ∀ w ∈ wG, w.before _ s = true := fun w h => atoms_spec (ws := w_Cd_groupOf) B.pre w (List.mem_cons_of_mem _ h)
  have hown : s.vm.findClass "LabelledCore$Code" = some m.cls := findClass_of_methodNamed B.named
  have hlocks := B.notSynchronized
  have hl := lv_entry ([.int x_p0]) (n := 2) (Nat.le_of_ble_eq_true rfl)
  rw [lg_entry_eq]
  generalize (lg_sl ([.int x_p0]) ++ List.replicate (2 - (lg_sl ([.int x_p0])).length) Slot.unset).toArray = ls at hl ⊢
  have hl : lv_has ls 2 [(0, .int x_p0)] := hl
  refine lv_iload_n hx hb d_Cd_groupOf_0 rfl (lv_at hl 0 rfl) ?_
  have hPc := hP.sub (ws' := []) [] rfl
  refine W.callR ((W.runS (As := [.int x_p0]) (rest := []) ⟨hx, hb, hml, hown, hts⟩ (ct_Cd_fieldF l dC dI cI x_p0) (va_cwS 1 hts (gS wm_435 wm_436 wm_48 wm_437) rfl rfl rfl (by decide +kernel) ⟨Nat.le_of_ble_eq_true rfl, Nat.le_of_ble_eq_true rfl⟩) ⟨pcR_blind, pcR_pre hPc hK⟩ rfl rfl hl.1 rfl (lv_room (Nat.le_of_ble_eq_true rfl)) d_Cd_groupOf_1 ⟨Nat.le_of_ble_eq_true rfl, Nat.le_of_ble_eq_true rfl⟩)) ?_
  refine W.eq (g2 := F0 m 4 ls [.int (f_Cd_fieldF x_p0)]) rfl ?_
  refine lv_istore_n (lv' := [(1, .int (f_Cd_fieldF x_p0)), (0, .int x_p0)]) hx hb d_Cd_groupOf_4 rfl hl (by decide) rfl (fun ls hl => ?_)
  refine lv_iload_n hx hb d_Cd_groupOf_5 rfl (lv_at hl 1 rfl) ?_
  have hPc := hP.sub (ws' := []) [] rfl
  refine W.callR ((W.runS (As := [.int x_p0]) (rest := []) ⟨hx, hb, hml, hown, hts⟩ (ct_Cd_codeOf l dC dI cI x_p0) (va_cwS 1 hts (gS wm_438 wm_439 wm_48 wm_440) rfl rfl rfl (by decide +kernel) ⟨Nat.le_of_ble_eq_true rfl, Nat.le_of_ble_eq_true rfl⟩) ⟨pcR_blind, pcR_pre hPc hK⟩ rfl rfl hl.1 rfl (lv_room (Nat.le_of_ble_eq_true rfl)) d_Cd_groupOf_6 ⟨Nat.le_of_ble_eq_true rfl, Nat.le_of_ble_eq_true rfl⟩)) ?_
  refine W.eq (g2 := F0 m 9 ls [.int (f_Cd_codeOf x_p0)]) rfl ?_
  by_cases c_1 : (f_Cd_codeOf x_p0) = 3
  · refine lv_lookup (off := 129) (tgt := 138) hx hb d_Cd_groupOf_9 (by decide) (by rw [c_1]; decide +kernel) (by decide) ?_
    refine lv_iload_n hx hb d_Cd_groupOf_138 rfl (lv_at hl 0 rfl) ?_
    refine lv_if_eq (tgt := 152) hx hb d_Cd_groupOf_139 (by decide) (fun c_2 => ?_) (fun c_2 => ?_)
    · refine lv_iconst (v := 1) hx hb d_Cd_groupOf_152 (by decide) ?_
      refine lv_goto (tgt := 158) hx hb d_Cd_groupOf_153 (by decide) ?_
      have ef : (f_Cd_groupOf x_p0) = (1 : Int32) := (if_pos c_1).trans ((if_pos c_2).trans rfl)
      exact W.iret (v := 1) hx hb hr (fun t ht hW => ⟨by rw [ef], ht⟩) (fun _ h => by cases h) d_Cd_groupOf_158
    · refine lv_iload_n hx hb d_Cd_groupOf_142 rfl (lv_at hl 0 rfl) ?_
      refine lv_iconst (v := 2) hx hb d_Cd_groupOf_143 (by decide) ?_
      refine lv_icmp_eq (tgt := 152) hx hb d_Cd_groupOf_144 (by decide) (fun c_3 => ?_) (fun c_3 => ?_)
      · refine lv_iconst (v := 1) hx hb d_Cd_groupOf_152 (by decide) ?_
        refine lv_goto (tgt := 158) hx hb d_Cd_groupOf_153 (by decide) ?_
        have ef : (f_Cd_groupOf x_p0) = (1 : Int32) := (if_pos c_1).trans ((if_neg c_2).trans ((if_pos c_3).trans rfl))
        exact W.iret (v := 1) hx hb hr (fun t ht hW => ⟨by rw [ef], ht⟩) (fun _ h => by cases h) d_Cd_groupOf_158
      · refine lv_iload_n hx hb d_Cd_groupOf_147 rfl (lv_at hl 0 rfl) ?_
        refine lv_iconst (v := 4) hx hb d_Cd_groupOf_148 (by decide) ?_
        refine lv_icmp_ne (tgt := 156) hx hb d_Cd_groupOf_149 (by decide) (fun c_4 => ?_) (fun c_4 => ?_)
        · refine lv_bipush (v := 10) hx hb d_Cd_groupOf_156 (by decide) ?_
          have ef : (f_Cd_groupOf x_p0) = (10 : Int32) := (if_pos c_1).trans ((if_neg c_2).trans ((if_neg c_3).trans ((if_neg c_4).trans rfl)))
          exact W.iret (v := 10) hx hb hr (fun t ht hW => ⟨by rw [ef], ht⟩) (fun _ h => by cases h) d_Cd_groupOf_158
        · refine lv_iconst (v := 1) hx hb d_Cd_groupOf_152 (by decide) ?_
          refine lv_goto (tgt := 158) hx hb d_Cd_groupOf_153 (by decide) ?_
          have ef : (f_Cd_groupOf x_p0) = (1 : Int32) := (if_pos c_1).trans ((if_neg c_2).trans ((if_neg c_3).trans ((if_pos c_4).trans rfl)))
          exact W.iret (v := 1) hx hb hr (fun t ht hW => ⟨by rw [ef], ht⟩) (fun _ h => by cases h) d_Cd_groupOf_158
  · by_cases c_5 : (f_Cd_codeOf x_p0) = 11
    · refine lv_lookup (off := 201) (tgt := 210) hx hb d_Cd_groupOf_9 (by decide) (by rw [c_5]; decide +kernel) (by decide) ?_
      refine lv_iload_n hx hb d_Cd_groupOf_210 rfl (lv_at hl 0 rfl) ?_
      refine lv_if_ne (tgt := 219) hx hb d_Cd_groupOf_211 (by decide) (fun c_6 => ?_) (fun c_6 => ?_)
      · refine lv_iload_n hx hb d_Cd_groupOf_219 rfl (lv_at hl 0 rfl) ?_
        refine lv_iconst (v := 1) hx hb d_Cd_groupOf_220 (by decide) ?_
        refine lv_icmp_ne (tgt := 229) hx hb d_Cd_groupOf_221 (by decide) (fun c_7 => ?_) (fun c_7 => ?_)
        · refine lv_iload_n hx hb d_Cd_groupOf_229 rfl (lv_at hl 0 rfl) ?_
          refine lv_iconst (v := 2) hx hb d_Cd_groupOf_230 (by decide) ?_
          refine lv_icmp_ne (tgt := 239) hx hb d_Cd_groupOf_231 (by decide) (fun c_8 => ?_) (fun c_8 => ?_)
          · refine lv_bipush (v := 10) hx hb d_Cd_groupOf_239 (by decide) ?_
            have ef : (f_Cd_groupOf x_p0) = (10 : Int32) := (if_neg c_1).trans ((if_pos c_5).trans ((if_neg c_6).trans ((if_neg c_7).trans ((if_neg c_8).trans rfl))))
            exact W.iret (v := 10) hx hb hr (fun t ht hW => ⟨by rw [ef], ht⟩) (fun _ h => by cases h) d_Cd_groupOf_241
          · refine lv_bipush (v := 9) hx hb d_Cd_groupOf_234 (by decide) ?_
            refine lv_goto (tgt := 241) hx hb d_Cd_groupOf_236 (by decide) ?_
            have ef : (f_Cd_groupOf x_p0) = (9 : Int32) := (if_neg c_1).trans ((if_pos c_5).trans ((if_neg c_6).trans ((if_neg c_7).trans ((if_pos c_8).trans rfl))))
            exact W.iret (v := 9) hx hb hr (fun t ht hW => ⟨by rw [ef], ht⟩) (fun _ h => by cases h) d_Cd_groupOf_241
        · refine lv_bipush (v := 8) hx hb d_Cd_groupOf_224 (by decide) ?_
          refine lv_goto (tgt := 241) hx hb d_Cd_groupOf_226 (by decide) ?_
          have ef : (f_Cd_groupOf x_p0) = (8 : Int32) := (if_neg c_1).trans ((if_pos c_5).trans ((if_neg c_6).trans ((if_pos c_7).trans rfl)))
          exact W.iret (v := 8) hx hb hr (fun t ht hW => ⟨by rw [ef], ht⟩) (fun _ h => by cases h) d_Cd_groupOf_241
      · refine lv_bipush (v := 7) hx hb d_Cd_groupOf_214 (by decide) ?_
        refine lv_goto (tgt := 241) hx hb d_Cd_groupOf_216 (by decide) ?_
        have ef : (f_Cd_groupOf x_p0) = (7 : Int32) := (if_neg c_1).trans ((if_pos c_5).trans ((if_pos c_6).trans rfl))
        exact W.iret (v := 7) hx hb hr (fun t ht hW => ⟨by rw [ef], ht⟩) (fun _ h => by cases h) d_Cd_groupOf_241
    · by_cases c_9 : (f_Cd_codeOf x_p0) = 19
      · refine lv_lookup (off := 109) (tgt := 118) hx hb d_Cd_groupOf_9 (by decide) (by rw [c_9]; decide +kernel) (by decide) ?_
        refine lv_iload_n hx hb d_Cd_groupOf_118 rfl (lv_at hl 0 rfl) ?_
        refine lv_iload_n hx hb d_Cd_groupOf_119 rfl (lv_at hl 1 rfl) ?_
        have hPc := hP.sub (ws' := []) [] rfl
        refine W.callR ((W.runS (As := [.int x_p0]) (rest := [.int (f_Cd_fieldF x_p0)]) ⟨hx, hb, hml, hown, hts⟩ (ct_Cd_fieldG l dC dI cI x_p0) (va_cwS 1 hts (gS wm_441 wm_442 wm_48 wm_443) rfl rfl rfl (by decide +kernel) ⟨Nat.le_of_ble_eq_true rfl, Nat.le_of_ble_eq_true rfl⟩) ⟨pcR_blind, pcR_pre hPc hK⟩ rfl rfl hl.1 rfl (lv_room (Nat.le_of_ble_eq_true rfl)) d_Cd_groupOf_120 ⟨Nat.le_of_ble_eq_true rfl, Nat.le_of_ble_eq_true rfl⟩)) ?_
        refine W.eq (g2 := F0 m 123 ls [.int (f_Cd_fieldG x_p0), .int (f_Cd_fieldF x_p0)]) rfl ?_
        have hPc := hP.sub (ws' := []) [] rfl
        refine W.callR ((W.runS (As := [.int (f_Cd_fieldF x_p0), .int (f_Cd_fieldG x_p0)]) (rest := []) ⟨hx, hb, hml, hown, hts⟩ (ct_Cd_isNumberWork l dC dI cI (f_Cd_fieldF x_p0) (f_Cd_fieldG x_p0)) (va_cwS 2 hts (gS wm_447 wm_448 wm_48 wm_449) rfl rfl rfl (by decide +kernel) ⟨Nat.le_of_ble_eq_true rfl, Nat.le_of_ble_eq_true rfl⟩) ⟨pcR_blind, pcR_pre hPc hK⟩ rfl rfl hl.1 rfl (lv_room (Nat.le_of_ble_eq_true rfl)) d_Cd_groupOf_123 ⟨Nat.le_of_ble_eq_true rfl, Nat.le_of_ble_eq_true rfl⟩)) ?_
        refine W.eq (g2 := F0 m 126 ls [.int (f_Cd_isNumberWork (f_Cd_fieldF x_p0) (f_Cd_fieldG x_p0))]) rfl ?_
        refine lv_if_eq (tgt := 133) hx hb d_Cd_groupOf_126 (by decide) (fun c_10 => ?_) (fun c_10 => ?_)
        · refine lv_bipush (v := 10) hx hb d_Cd_groupOf_133 (by decide) ?_
          have ef : (f_Cd_groupOf x_p0) = (10 : Int32) := (if_neg c_1).trans ((if_neg c_5).trans ((if_pos c_9).trans ((if_pos c_10).trans rfl)))
          exact W.iret (v := 10) hx hb hr (fun t ht hW => ⟨by rw [ef], ht⟩) (fun _ h => by cases h) d_Cd_groupOf_135
        · refine lv_iconst (v := 0) hx hb d_Cd_groupOf_129 (by decide) ?_
          refine lv_goto (tgt := 135) hx hb d_Cd_groupOf_130 (by decide) ?_
          have ef : (f_Cd_groupOf x_p0) = (0 : Int32) := (if_neg c_1).trans ((if_neg c_5).trans ((if_pos c_9).trans ((if_neg c_10).trans rfl)))
          exact W.iret (v := 0) hx hb hr (fun t ht hW => ⟨by rw [ef], ht⟩) (fun _ h => by cases h) d_Cd_groupOf_135
      · by_cases c_11 : (f_Cd_codeOf x_p0) = 23
        · refine lv_lookup (off := 127) (tgt := 136) hx hb d_Cd_groupOf_9 (by decide) (by rw [c_11]; decide +kernel) (by decide) ?_
          refine lv_iconst (v := 0) hx hb d_Cd_groupOf_136 (by decide) ?_
          have ef : (f_Cd_groupOf x_p0) = (0 : Int32) := (if_neg c_1).trans ((if_neg c_5).trans ((if_neg c_9).trans ((if_pos c_11).trans rfl)))
          exact W.iret (v := 0) hx hb hr (fun t ht hW => ⟨by rw [ef], ht⟩) (fun _ h => by cases h) d_Cd_groupOf_137
        · by_cases c_12 : (f_Cd_codeOf x_p0) = 35
          · refine lv_lookup (off := 150) (tgt := 159) hx hb d_Cd_groupOf_9 (by decide) (by rw [c_12]; decide +kernel) (by decide) ?_
            refine lv_iload_n hx hb d_Cd_groupOf_159 rfl (lv_at hl 0 rfl) ?_
            refine lv_iconst (v := 2) hx hb d_Cd_groupOf_160 (by decide) ?_
            refine lv_icmp_ne (tgt := 168) hx hb d_Cd_groupOf_161 (by decide) (fun c_13 => ?_) (fun c_13 => ?_)
            · refine lv_iload_n hx hb d_Cd_groupOf_168 rfl (lv_at hl 0 rfl) ?_
              refine lv_if_ne (tgt := 176) hx hb d_Cd_groupOf_169 (by decide) (fun c_14 => ?_) (fun c_14 => ?_)
              · refine lv_bipush (v := 10) hx hb d_Cd_groupOf_176 (by decide) ?_
                have ef : (f_Cd_groupOf x_p0) = (10 : Int32) := (if_neg c_1).trans ((if_neg c_5).trans ((if_neg c_9).trans ((if_neg c_11).trans ((if_pos c_12).trans ((if_neg c_13).trans ((if_neg c_14).trans rfl))))))
                exact W.iret (v := 10) hx hb hr (fun t ht hW => ⟨by rw [ef], ht⟩) (fun _ h => by cases h) d_Cd_groupOf_178
              · refine lv_iconst (v := 3) hx hb d_Cd_groupOf_172 (by decide) ?_
                refine lv_goto (tgt := 178) hx hb d_Cd_groupOf_173 (by decide) ?_
                have ef : (f_Cd_groupOf x_p0) = (3 : Int32) := (if_neg c_1).trans ((if_neg c_5).trans ((if_neg c_9).trans ((if_neg c_11).trans ((if_pos c_12).trans ((if_neg c_13).trans ((if_pos c_14).trans rfl))))))
                exact W.iret (v := 3) hx hb hr (fun t ht hW => ⟨by rw [ef], ht⟩) (fun _ h => by cases h) d_Cd_groupOf_178
            · refine lv_iconst (v := 2) hx hb d_Cd_groupOf_164 (by decide) ?_
              refine lv_goto (tgt := 178) hx hb d_Cd_groupOf_165 (by decide) ?_
              have ef : (f_Cd_groupOf x_p0) = (2 : Int32) := (if_neg c_1).trans ((if_neg c_5).trans ((if_neg c_9).trans ((if_neg c_11).trans ((if_pos c_12).trans ((if_pos c_13).trans rfl)))))
              exact W.iret (v := 2) hx hb hr (fun t ht hW => ⟨by rw [ef], ht⟩) (fun _ h => by cases h) d_Cd_groupOf_178
          · by_cases c_15 : (f_Cd_codeOf x_p0) = 51
            · refine lv_lookup (off := 91) (tgt := 100) hx hb d_Cd_groupOf_9 (by decide) (by rw [c_15]; decide +kernel) (by decide) ?_
              refine lv_iload_n hx hb d_Cd_groupOf_100 rfl (lv_at hl 0 rfl) ?_
              refine lv_iload_n hx hb d_Cd_groupOf_101 rfl (lv_at hl 1 rfl) ?_
              have hPc := hP.sub (ws' := []) [] rfl
              refine W.callR ((W.runS (As := [.int x_p0]) (rest := [.int (f_Cd_fieldF x_p0)]) ⟨hx, hb, hml, hown, hts⟩ (ct_Cd_fieldG l dC dI cI x_p0) (va_cwS 1 hts (gS wm_441 wm_442 wm_48 wm_443) rfl rfl rfl (by decide +kernel) ⟨Nat.le_of_ble_eq_true rfl, Nat.le_of_ble_eq_true rfl⟩) ⟨pcR_blind, pcR_pre hPc hK⟩ rfl rfl hl.1 rfl (lv_room (Nat.le_of_ble_eq_true rfl)) d_Cd_groupOf_102 ⟨Nat.le_of_ble_eq_true rfl, Nat.le_of_ble_eq_true rfl⟩)) ?_
              refine W.eq (g2 := F0 m 105 ls [.int (f_Cd_fieldG x_p0), .int (f_Cd_fieldF x_p0)]) rfl ?_
              have hPc := hP.sub (ws' := []) [] rfl
              refine W.callR ((W.runS (As := [.int (f_Cd_fieldF x_p0), .int (f_Cd_fieldG x_p0)]) (rest := []) ⟨hx, hb, hml, hown, hts⟩ (ct_Cd_isRegisterWork l dC dI cI (f_Cd_fieldF x_p0) (f_Cd_fieldG x_p0)) (va_cwS 2 hts (gS wm_444 wm_445 wm_48 wm_446) rfl rfl rfl (by decide +kernel) ⟨Nat.le_of_ble_eq_true rfl, Nat.le_of_ble_eq_true rfl⟩) ⟨pcR_blind, pcR_pre hPc hK⟩ rfl rfl hl.1 rfl (lv_room (Nat.le_of_ble_eq_true rfl)) d_Cd_groupOf_105 ⟨Nat.le_of_ble_eq_true rfl, Nat.le_of_ble_eq_true rfl⟩)) ?_
              refine W.eq (g2 := F0 m 108 ls [.int (f_Cd_isRegisterWork (f_Cd_fieldF x_p0) (f_Cd_fieldG x_p0))]) rfl ?_
              refine lv_if_eq (tgt := 115) hx hb d_Cd_groupOf_108 (by decide) (fun c_16 => ?_) (fun c_16 => ?_)
              · refine lv_bipush (v := 10) hx hb d_Cd_groupOf_115 (by decide) ?_
                have ef : (f_Cd_groupOf x_p0) = (10 : Int32) := (if_neg c_1).trans ((if_neg c_5).trans ((if_neg c_9).trans ((if_neg c_11).trans ((if_neg c_12).trans ((if_pos c_15).trans ((if_pos c_16).trans rfl))))))
                exact W.iret (v := 10) hx hb hr (fun t ht hW => ⟨by rw [ef], ht⟩) (fun _ h => by cases h) d_Cd_groupOf_117
              · refine lv_iconst (v := 0) hx hb d_Cd_groupOf_111 (by decide) ?_
                refine lv_goto (tgt := 117) hx hb d_Cd_groupOf_112 (by decide) ?_
                have ef : (f_Cd_groupOf x_p0) = (0 : Int32) := (if_neg c_1).trans ((if_neg c_5).trans ((if_neg c_9).trans ((if_neg c_11).trans ((if_neg c_12).trans ((if_pos c_15).trans ((if_neg c_16).trans rfl))))))
                exact W.iret (v := 0) hx hb hr (fun t ht hW => ⟨by rw [ef], ht⟩) (fun _ h => by cases h) d_Cd_groupOf_117
            · by_cases c_17 : (f_Cd_codeOf x_p0) = 55
              · refine lv_lookup (off := 127) (tgt := 136) hx hb d_Cd_groupOf_9 (by decide) (by rw [c_17]; decide +kernel) (by decide) ?_
                refine lv_iconst (v := 0) hx hb d_Cd_groupOf_136 (by decide) ?_
                have ef : (f_Cd_groupOf x_p0) = (0 : Int32) := (if_neg c_1).trans ((if_neg c_5).trans ((if_neg c_9).trans ((if_neg c_11).trans ((if_neg c_12).trans ((if_neg c_15).trans ((if_pos c_17).trans rfl))))))
                exact W.iret (v := 0) hx hb hr (fun t ht hW => ⟨by rw [ef], ht⟩) (fun _ h => by cases h) d_Cd_groupOf_137
              · by_cases c_18 : (f_Cd_codeOf x_p0) = 99
                · refine lv_lookup (off := 170) (tgt := 179) hx hb d_Cd_groupOf_9 (by decide) (by rw [c_18]; decide +kernel) (by decide) ?_
                  refine lv_iload_n hx hb d_Cd_groupOf_179 rfl (lv_at hl 0 rfl) ?_
                  refine lv_iconst (v := 2) hx hb d_Cd_groupOf_180 (by decide) ?_
                  refine lv_icmp_eq (tgt := 193) hx hb d_Cd_groupOf_181 (by decide) (fun c_19 => ?_) (fun c_19 => ?_)
                  · refine lv_bipush (v := 10) hx hb d_Cd_groupOf_193 (by decide) ?_
                    have ef : (f_Cd_groupOf x_p0) = (10 : Int32) := (if_neg c_1).trans ((if_neg c_5).trans ((if_neg c_9).trans ((if_neg c_11).trans ((if_neg c_12).trans ((if_neg c_15).trans ((if_neg c_17).trans ((if_pos c_18).trans ((if_pos c_19).trans rfl))))))))
                    exact W.iret (v := 10) hx hb hr (fun t ht hW => ⟨by rw [ef], ht⟩) (fun _ h => by cases h) d_Cd_groupOf_195
                  · refine lv_iload_n hx hb d_Cd_groupOf_184 rfl (lv_at hl 0 rfl) ?_
                    refine lv_iconst (v := 3) hx hb d_Cd_groupOf_185 (by decide) ?_
                    refine lv_icmp_eq (tgt := 193) hx hb d_Cd_groupOf_186 (by decide) (fun c_20 => ?_) (fun c_20 => ?_)
                    · refine lv_bipush (v := 10) hx hb d_Cd_groupOf_193 (by decide) ?_
                      have ef : (f_Cd_groupOf x_p0) = (10 : Int32) := (if_neg c_1).trans ((if_neg c_5).trans ((if_neg c_9).trans ((if_neg c_11).trans ((if_neg c_12).trans ((if_neg c_15).trans ((if_neg c_17).trans ((if_pos c_18).trans ((if_neg c_19).trans ((if_pos c_20).trans rfl)))))))))
                      exact W.iret (v := 10) hx hb hr (fun t ht hW => ⟨by rw [ef], ht⟩) (fun _ h => by cases h) d_Cd_groupOf_195
                    · refine lv_iconst (v := 4) hx hb d_Cd_groupOf_189 (by decide) ?_
                      refine lv_goto (tgt := 195) hx hb d_Cd_groupOf_190 (by decide) ?_
                      have ef : (f_Cd_groupOf x_p0) = (4 : Int32) := (if_neg c_1).trans ((if_neg c_5).trans ((if_neg c_9).trans ((if_neg c_11).trans ((if_neg c_12).trans ((if_neg c_15).trans ((if_neg c_17).trans ((if_pos c_18).trans ((if_neg c_19).trans ((if_neg c_20).trans rfl)))))))))
                      exact W.iret (v := 4) hx hb hr (fun t ht hW => ⟨by rw [ef], ht⟩) (fun _ h => by cases h) d_Cd_groupOf_195
                · by_cases c_21 : (f_Cd_codeOf x_p0) = 103
                  · refine lv_lookup (off := 189) (tgt := 198) hx hb d_Cd_groupOf_9 (by decide) (by rw [c_21]; decide +kernel) (by decide) ?_
                    refine lv_iload_n hx hb d_Cd_groupOf_198 rfl (lv_at hl 0 rfl) ?_
                    refine lv_if_ne (tgt := 207) hx hb d_Cd_groupOf_199 (by decide) (fun c_22 => ?_) (fun c_22 => ?_)
                    · refine lv_bipush (v := 10) hx hb d_Cd_groupOf_207 (by decide) ?_
                      have ef : (f_Cd_groupOf x_p0) = (10 : Int32) := (if_neg c_1).trans ((if_neg c_5).trans ((if_neg c_9).trans ((if_neg c_11).trans ((if_neg c_12).trans ((if_neg c_15).trans ((if_neg c_17).trans ((if_neg c_18).trans ((if_pos c_21).trans ((if_neg c_22).trans rfl)))))))))
                      exact W.iret (v := 10) hx hb hr (fun t ht hW => ⟨by rw [ef], ht⟩) (fun _ h => by cases h) d_Cd_groupOf_209
                    · refine lv_bipush (v := 6) hx hb d_Cd_groupOf_202 (by decide) ?_
                      refine lv_goto (tgt := 209) hx hb d_Cd_groupOf_204 (by decide) ?_
                      have ef : (f_Cd_groupOf x_p0) = (6 : Int32) := (if_neg c_1).trans ((if_neg c_5).trans ((if_neg c_9).trans ((if_neg c_11).trans ((if_neg c_12).trans ((if_neg c_15).trans ((if_neg c_17).trans ((if_neg c_18).trans ((if_pos c_21).trans ((if_pos c_22).trans rfl)))))))))
                      exact W.iret (v := 6) hx hb hr (fun t ht hW => ⟨by rw [ef], ht⟩) (fun _ h => by cases h) d_Cd_groupOf_209
                  · by_cases c_23 : (f_Cd_codeOf x_p0) = 111
                    · refine lv_lookup (off := 187) (tgt := 196) hx hb d_Cd_groupOf_9 (by decide) (by rw [c_23]; decide +kernel) (by decide) ?_
                      refine lv_iconst (v := 5) hx hb d_Cd_groupOf_196 (by decide) ?_
                      have ef : (f_Cd_groupOf x_p0) = (5 : Int32) := (if_neg c_1).trans ((if_neg c_5).trans ((if_neg c_9).trans ((if_neg c_11).trans ((if_neg c_12).trans ((if_neg c_15).trans ((if_neg c_17).trans ((if_neg c_18).trans ((if_neg c_21).trans ((if_pos c_23).trans rfl)))))))))
                      exact W.iret (v := 5) hx hb hr (fun t ht hW => ⟨by rw [ef], ht⟩) (fun _ h => by cases h) d_Cd_groupOf_197
                    · refine lv_lookup (off := 233) (tgt := 242) hx hb d_Cd_groupOf_9 (by decide) (by rw [lv_osw c_1 (show (3 : Int32).toInt = 3 by decide), lv_osw c_5 (show (11 : Int32).toInt = 11 by decide), lv_osw c_9 (show (19 : Int32).toInt = 19 by decide), lv_osw c_11 (show (23 : Int32).toInt = 23 by decide), lv_osw c_12 (show (35 : Int32).toInt = 35 by decide), lv_osw c_15 (show (51 : Int32).toInt = 51 by decide), lv_osw c_17 (show (55 : Int32).toInt = 55 by decide), lv_osw c_18 (show (99 : Int32).toInt = 99 by decide), lv_osw c_21 (show (103 : Int32).toInt = 103 by decide), lv_osw c_23 (show (111 : Int32).toInt = 111 by decide)]; rfl) (by decide) ?_
                      refine lv_bipush (v := 10) hx hb d_Cd_groupOf_242 (by decide) ?_
                      have ef : (f_Cd_groupOf x_p0) = (10 : Int32) := (if_neg c_1).trans ((if_neg c_5).trans ((if_neg c_9).trans ((if_neg c_11).trans ((if_neg c_12).trans ((if_neg c_15).trans ((if_neg c_17).trans ((if_neg c_18).trans ((if_neg c_21).trans ((if_neg c_23).trans rfl)))))))))
                      exact W.iret (v := 10) hx hb hr (fun t ht hW => ⟨by rw [ef], ht⟩) (fun _ h => by cases h) d_Cd_groupOf_244
def f_Cd_usesMemory (x_p0 : Int32) : Int32 :=
  if x_p0 = 1 then
    1
  else
    if x_p0 = 2 then
      1
    else
      if x_p0 = 3 then
        1
      else
        0
set_option maxHeartbeats 4000000 in
set_option maxRecDepth 100000 in
theorem ct_Cd_usesMemory (l : Launch) (dC : Nat → ClassId) (dI : Nat → Nat → Nat) (cI : ClassId) (x_p0 : Int32) : Met l y_Cd_usesMemory w_Cd_usesMemory ({ frames := 0, cells := 0, slots := 0, locals := 0 }) (pcR dC dI cI [] [.int x_p0]) (QcRead (f_Cd_usesMemory x_p0)) 0 0 (fun _ => False) := by
  refine Met.ofW (cc := c_Cd_usesMemory) (maxL := 1) (ret := (some .boolean)) (by decide) rfl ?_
  intro p e s m args below meth c s₁ B hml hv
  obtain ⟨rfl, hP, hK⟩ := hv
  have hx := B.exec
  have hb := B.bytes
  have hr := B.returns
  have hts : ∀ w ∈ wG, w.before _ s = true := fun w h => atoms_spec (ws := w_Cd_usesMemory) B.pre w (List.mem_cons_of_mem _ h)
  have hown : s.vm.findClass "LabelledCore$Code" = some m.cls := findClass_of_methodNamed B.named
  have hlocks := B.notSynchronized
  have hl := lv_entry ([.int x_p0]) (n := 1) (Nat.le_of_ble_eq_true rfl)
  rw [lg_entry_eq]
  generalize (lg_sl ([.int x_p0]) ++ List.replicate (1 - (lg_sl ([.int x_p0])).length) Slot.unset).toArray = ls at hl ⊢
  have hl : lv_has ls 1 [(0, .int x_p0)] := hl
  refine lv_iload_n hx hb d_Cd_usesMemory_0 rfl (lv_at hl 0 rfl) ?_
  refine lv_iconst (v := 1) hx hb d_Cd_usesMemory_1 (by decide) ?_
  refine lv_icmp_eq (tgt := 15) hx hb d_Cd_usesMemory_2 (by decide) (fun c_1 => ?_) (fun c_1 => ?_)
  · refine lv_iconst (v := 1) hx hb d_Cd_usesMemory_15 (by decide) ?_
    refine lv_goto (tgt := 20) hx hb d_Cd_usesMemory_16 (by decide) ?_
    have ef : (f_Cd_usesMemory x_p0) = (1 : Int32) := (if_pos c_1).trans rfl
    exact W.zret (v := 1) hx hb hr rfl (fun t ht hW => ⟨by rw [ef], ht⟩) (fun _ h => by cases h) d_Cd_usesMemory_20
  · refine lv_iload_n hx hb d_Cd_usesMemory_5 rfl (lv_at hl 0 rfl) ?_
    refine lv_iconst (v := 2) hx hb d_Cd_usesMemory_6 (by decide) ?_
    refine lv_icmp_eq (tgt := 15) hx hb d_Cd_usesMemory_7 (by decide) (fun c_2 => ?_) (fun c_2 => ?_)
    · refine lv_iconst (v := 1) hx hb d_Cd_usesMemory_15 (by decide) ?_
      refine lv_goto (tgt := 20) hx hb d_Cd_usesMemory_16 (by decide) ?_
      have ef : (f_Cd_usesMemory x_p0) = (1 : Int32) := (if_neg c_1).trans ((if_pos c_2).trans rfl)
      exact W.zret (v := 1) hx hb hr rfl (fun t ht hW => ⟨by rw [ef], ht⟩) (fun _ h => by cases h) d_Cd_usesMemory_20
    · refine lv_iload_n hx hb d_Cd_usesMemory_10 rfl (lv_at hl 0 rfl) ?_
      refine lv_iconst (v := 3) hx hb d_Cd_usesMemory_11 (by decide) ?_
      refine lv_icmp_ne (tgt := 19) hx hb d_Cd_usesMemory_12 (by decide) (fun c_3 => ?_) (fun c_3 => ?_)
      · refine lv_iconst (v := 0) hx hb d_Cd_usesMemory_19 (by decide) ?_
        have ef : (f_Cd_usesMemory x_p0) = (0 : Int32) := (if_neg c_1).trans ((if_neg c_2).trans ((if_neg c_3).trans rfl))
        exact W.zret (v := 0) hx hb hr rfl (fun t ht hW => ⟨by rw [ef], ht⟩) (fun _ h => by cases h) d_Cd_usesMemory_20
      · refine lv_iconst (v := 1) hx hb d_Cd_usesMemory_15 (by decide) ?_
        refine lv_goto (tgt := 20) hx hb d_Cd_usesMemory_16 (by decide) ?_
        have ef : (f_Cd_usesMemory x_p0) = (1 : Int32) := (if_neg c_1).trans ((if_neg c_2).trans ((if_pos c_3).trans rfl))
        exact W.zret (v := 1) hx hb hr rfl (fun t ht hW => ⟨by rw [ef], ht⟩) (fun _ h => by cases h) d_Cd_usesMemory_20
def f_Cd_isWhole (x_p0 : Int32) : Int32 :=
  if (f_Cd_fieldF x_p0) = 2 then
    1
  else
    0
set_option maxHeartbeats 4000000 in
set_option maxRecDepth 100000 in
theorem ct_Cd_isWhole (l : Launch) (dC : Nat → ClassId) (dI : Nat → Nat → Nat) (cI : ClassId) (x_p0 : Int32) : Met l y_Cd_isWhole w_Cd_isWhole ({ frames := 1, cells := 0, slots := 0, locals := 20 }) (pcR dC dI cI [] [.int x_p0]) (QcRead (f_Cd_isWhole x_p0)) 0 0 (fun _ => False) := by
  refine Met.ofW (cc := c_Cd_isWhole) (maxL := 1) (ret := (some .boolean)) (by decide) rfl ?_
  intro p e s m args below meth c s₁ B hml hv
  obtain ⟨rfl, hP, hK⟩ := hv
  have hx := B.exec
  have hb := B.bytes
  have hr := B.returns
  have hts : ∀ w ∈ wG, w.before _ s = true := fun w h => atoms_spec (ws := w_Cd_isWhole) B.pre w (List.mem_cons_of_mem _ h)
  have hown : s.vm.findClass "LabelledCore$Code" = some m.cls := findClass_of_methodNamed B.named
  have hlocks := B.notSynchronized
  have hl := lv_entry ([.int x_p0]) (n := 1) (Nat.le_of_ble_eq_true rfl)
  rw [lg_entry_eq]
  generalize (lg_sl ([.int x_p0]) ++ List.replicate (1 - (lg_sl ([.int x_p0])).length) Slot.unset).toArray = ls at hl ⊢
  have hl : lv_has ls 1 [(0, .int x_p0)] := hl
  refine lv_iload_n hx hb d_Cd_isWhole_0 rfl (lv_at hl 0 rfl) ?_
  have hPc := hP.sub (ws' := []) [] rfl
  refine W.callR ((W.runS (As := [.int x_p0]) (rest := []) ⟨hx, hb, hml, hown, hts⟩ (ct_Cd_fieldF l dC dI cI x_p0) (va_cwS 1 hts (gS wm_435 wm_436 wm_48 wm_437) rfl rfl rfl (by decide +kernel) ⟨Nat.le_of_ble_eq_true rfl, Nat.le_of_ble_eq_true rfl⟩) ⟨pcR_blind, pcR_pre hPc hK⟩ rfl rfl hl.1 rfl (lv_room (Nat.le_of_ble_eq_true rfl)) d_Cd_isWhole_1 ⟨Nat.le_of_ble_eq_true rfl, Nat.le_of_ble_eq_true rfl⟩)) ?_
  refine W.eq (g2 := F0 m 4 ls [.int (f_Cd_fieldF x_p0)]) rfl ?_
  refine lv_iconst (v := 2) hx hb d_Cd_isWhole_4 (by decide) ?_
  refine lv_icmp_ne (tgt := 12) hx hb d_Cd_isWhole_5 (by decide) (fun c_1 => ?_) (fun c_1 => ?_)
  · refine lv_iconst (v := 0) hx hb d_Cd_isWhole_12 (by decide) ?_
    have ef : (f_Cd_isWhole x_p0) = (0 : Int32) := (if_neg c_1).trans rfl
    exact W.zret (v := 0) hx hb hr rfl (fun t ht hW => ⟨by rw [ef], ht⟩) (fun _ h => by cases h) d_Cd_isWhole_13
  · refine lv_iconst (v := 1) hx hb d_Cd_isWhole_8 (by decide) ?_
    refine lv_goto (tgt := 13) hx hb d_Cd_isWhole_9 (by decide) ?_
    have ef : (f_Cd_isWhole x_p0) = (1 : Int32) := (if_pos c_1).trans rfl
    exact W.zret (v := 1) hx hb hr rfl (fun t ht hW => ⟨by rw [ef], ht⟩) (fun _ h => by cases h) d_Cd_isWhole_13
def f_Cd_readsA (x_p0 : Int32) : Int32 :=
  if (f_Cd_codeOf x_p0) = 3 then
    1
  else
    if (f_Cd_codeOf x_p0) = 11 then
      if (f_Cd_fieldF x_p0) = 0 then
        1
      else
        0
    else
      if (f_Cd_codeOf x_p0) = 19 then
        1
      else
        if (f_Cd_codeOf x_p0) = 35 then
          1
        else
          if (f_Cd_codeOf x_p0) = 51 then
            1
          else
            if (f_Cd_codeOf x_p0) = 99 then
              1
            else
              if (f_Cd_codeOf x_p0) = 103 then
                1
              else
                0
set_option maxHeartbeats 4000000 in
set_option maxRecDepth 100000 in
theorem ct_Cd_readsA (l : Launch) (dC : Nat → ClassId) (dI : Nat → Nat → Nat) (cI : ClassId) (x_p0 : Int32) : Met l y_Cd_readsA w_Cd_readsA ({ frames := 1, cells := 0, slots := 0, locals := 20 }) (pcR dC dI cI [] [.int x_p0]) (QcRead (f_Cd_readsA x_p0)) 0 0 (fun _ => False) := by
  refine Met.ofW (cc := c_Cd_readsA) (maxL := 1) (ret := (some .boolean)) (by decide) rfl ?_
  intro p e s m args below meth c s₁ B hml hv
  obtain ⟨rfl, hP, hK⟩ := hv
  have hx := B.exec
  have hb := B.bytes
  have hr := B.returns
  have hts : ∀ w ∈ wG, w.before _ s = true := fun w h => atoms_spec (ws := w_Cd_readsA) B.pre w (List.mem_cons_of_mem _ h)
  have hown : s.vm.findClass "LabelledCore$Code" = some m.cls := findClass_of_methodNamed B.named
  have hlocks := B.notSynchronized
  have hl := lv_entry ([.int x_p0]) (n := 1) (Nat.le_of_ble_eq_true rfl)
  rw [lg_entry_eq]
  generalize (lg_sl ([.int x_p0]) ++ List.replicate (1 - (lg_sl ([.int x_p0])).length) Slot.unset).toArray = ls at hl ⊢
  have hl : lv_has ls 1 [(0, .int x_p0)] := hl
  refine lv_iload_n hx hb d_Cd_readsA_0 rfl (lv_at hl 0 rfl) ?_
  have hPc := hP.sub (ws' := []) [] rfl
  refine W.callR ((W.runS (As := [.int x_p0]) (rest := []) ⟨hx, hb, hml, hown, hts⟩ (ct_Cd_codeOf l dC dI cI x_p0) (va_cwS 1 hts (gS wm_438 wm_439 wm_48 wm_440) rfl rfl rfl (by decide +kernel) ⟨Nat.le_of_ble_eq_true rfl, Nat.le_of_ble_eq_true rfl⟩) ⟨pcR_blind, pcR_pre hPc hK⟩ rfl rfl hl.1 rfl (lv_room (Nat.le_of_ble_eq_true rfl)) d_Cd_readsA_1 ⟨Nat.le_of_ble_eq_true rfl, Nat.le_of_ble_eq_true rfl⟩)) ?_
  refine W.eq (g2 := F0 m 4 ls [.int (f_Cd_codeOf x_p0)]) rfl ?_
  by_cases c_1 : (f_Cd_codeOf x_p0) = 3
  · refine lv_lookup (off := 68) (tgt := 72) hx hb d_Cd_readsA_4 (by decide) (by rw [c_1]; decide +kernel) (by decide) ?_
    refine lv_iconst (v := 1) hx hb d_Cd_readsA_72 (by decide) ?_
    have ef : (f_Cd_readsA x_p0) = (1 : Int32) := (if_pos c_1).trans rfl
    exact W.zret (v := 1) hx hb hr rfl (fun t ht hW => ⟨by rw [ef], ht⟩) (fun _ h => by cases h) d_Cd_readsA_73
  · by_cases c_2 : (f_Cd_codeOf x_p0) = 11
    · refine lv_lookup (off := 70) (tgt := 74) hx hb d_Cd_readsA_4 (by decide) (by rw [c_2]; decide +kernel) (by decide) ?_
      refine lv_iload_n hx hb d_Cd_readsA_74 rfl (lv_at hl 0 rfl) ?_
      have hPc := hP.sub (ws' := []) [] rfl
      refine W.callR ((W.runS (As := [.int x_p0]) (rest := []) ⟨hx, hb, hml, hown, hts⟩ (ct_Cd_fieldF l dC dI cI x_p0) (va_cwS 1 hts (gS wm_435 wm_436 wm_48 wm_437) rfl rfl rfl (by decide +kernel) ⟨Nat.le_of_ble_eq_true rfl, Nat.le_of_ble_eq_true rfl⟩) ⟨pcR_blind, pcR_pre hPc hK⟩ rfl rfl hl.1 rfl (lv_room (Nat.le_of_ble_eq_true rfl)) d_Cd_readsA_75 ⟨Nat.le_of_ble_eq_true rfl, Nat.le_of_ble_eq_true rfl⟩)) ?_
      refine W.eq (g2 := F0 m 78 ls [.int (f_Cd_fieldF x_p0)]) rfl ?_
      refine lv_if_ne (tgt := 85) hx hb d_Cd_readsA_78 (by decide) (fun c_3 => ?_) (fun c_3 => ?_)
      · refine lv_iconst (v := 0) hx hb d_Cd_readsA_85 (by decide) ?_
        have ef : (f_Cd_readsA x_p0) = (0 : Int32) := (if_neg c_1).trans ((if_pos c_2).trans ((if_neg c_3).trans rfl))
        exact W.zret (v := 0) hx hb hr rfl (fun t ht hW => ⟨by rw [ef], ht⟩) (fun _ h => by cases h) d_Cd_readsA_86
      · refine lv_iconst (v := 1) hx hb d_Cd_readsA_81 (by decide) ?_
        refine lv_goto (tgt := 86) hx hb d_Cd_readsA_82 (by decide) ?_
        have ef : (f_Cd_readsA x_p0) = (1 : Int32) := (if_neg c_1).trans ((if_pos c_2).trans ((if_pos c_3).trans rfl))
        exact W.zret (v := 1) hx hb hr rfl (fun t ht hW => ⟨by rw [ef], ht⟩) (fun _ h => by cases h) d_Cd_readsA_86
    · by_cases c_4 : (f_Cd_codeOf x_p0) = 19
      · refine lv_lookup (off := 68) (tgt := 72) hx hb d_Cd_readsA_4 (by decide) (by rw [c_4]; decide +kernel) (by decide) ?_
        refine lv_iconst (v := 1) hx hb d_Cd_readsA_72 (by decide) ?_
        have ef : (f_Cd_readsA x_p0) = (1 : Int32) := (if_neg c_1).trans ((if_neg c_2).trans ((if_pos c_4).trans rfl))
        exact W.zret (v := 1) hx hb hr rfl (fun t ht hW => ⟨by rw [ef], ht⟩) (fun _ h => by cases h) d_Cd_readsA_73
      · by_cases c_5 : (f_Cd_codeOf x_p0) = 35
        · refine lv_lookup (off := 68) (tgt := 72) hx hb d_Cd_readsA_4 (by decide) (by rw [c_5]; decide +kernel) (by decide) ?_
          refine lv_iconst (v := 1) hx hb d_Cd_readsA_72 (by decide) ?_
          have ef : (f_Cd_readsA x_p0) = (1 : Int32) := (if_neg c_1).trans ((if_neg c_2).trans ((if_neg c_4).trans ((if_pos c_5).trans rfl)))
          exact W.zret (v := 1) hx hb hr rfl (fun t ht hW => ⟨by rw [ef], ht⟩) (fun _ h => by cases h) d_Cd_readsA_73
        · by_cases c_6 : (f_Cd_codeOf x_p0) = 51
          · refine lv_lookup (off := 68) (tgt := 72) hx hb d_Cd_readsA_4 (by decide) (by rw [c_6]; decide +kernel) (by decide) ?_
            refine lv_iconst (v := 1) hx hb d_Cd_readsA_72 (by decide) ?_
            have ef : (f_Cd_readsA x_p0) = (1 : Int32) := (if_neg c_1).trans ((if_neg c_2).trans ((if_neg c_4).trans ((if_neg c_5).trans ((if_pos c_6).trans rfl))))
            exact W.zret (v := 1) hx hb hr rfl (fun t ht hW => ⟨by rw [ef], ht⟩) (fun _ h => by cases h) d_Cd_readsA_73
          · by_cases c_7 : (f_Cd_codeOf x_p0) = 99
            · refine lv_lookup (off := 68) (tgt := 72) hx hb d_Cd_readsA_4 (by decide) (by rw [c_7]; decide +kernel) (by decide) ?_
              refine lv_iconst (v := 1) hx hb d_Cd_readsA_72 (by decide) ?_
              have ef : (f_Cd_readsA x_p0) = (1 : Int32) := (if_neg c_1).trans ((if_neg c_2).trans ((if_neg c_4).trans ((if_neg c_5).trans ((if_neg c_6).trans ((if_pos c_7).trans rfl)))))
              exact W.zret (v := 1) hx hb hr rfl (fun t ht hW => ⟨by rw [ef], ht⟩) (fun _ h => by cases h) d_Cd_readsA_73
            · by_cases c_8 : (f_Cd_codeOf x_p0) = 103
              · refine lv_lookup (off := 68) (tgt := 72) hx hb d_Cd_readsA_4 (by decide) (by rw [c_8]; decide +kernel) (by decide) ?_
                refine lv_iconst (v := 1) hx hb d_Cd_readsA_72 (by decide) ?_
                have ef : (f_Cd_readsA x_p0) = (1 : Int32) := (if_neg c_1).trans ((if_neg c_2).trans ((if_neg c_4).trans ((if_neg c_5).trans ((if_neg c_6).trans ((if_neg c_7).trans ((if_pos c_8).trans rfl))))))
                exact W.zret (v := 1) hx hb hr rfl (fun t ht hW => ⟨by rw [ef], ht⟩) (fun _ h => by cases h) d_Cd_readsA_73
              · refine lv_lookup (off := 83) (tgt := 87) hx hb d_Cd_readsA_4 (by decide) (by rw [lv_osw c_1 (show (3 : Int32).toInt = 3 by decide), lv_osw c_2 (show (11 : Int32).toInt = 11 by decide), lv_osw c_4 (show (19 : Int32).toInt = 19 by decide), lv_osw c_5 (show (35 : Int32).toInt = 35 by decide), lv_osw c_6 (show (51 : Int32).toInt = 51 by decide), lv_osw c_7 (show (99 : Int32).toInt = 99 by decide), lv_osw c_8 (show (103 : Int32).toInt = 103 by decide)]; rfl) (by decide) ?_
                refine lv_iconst (v := 0) hx hb d_Cd_readsA_87 (by decide) ?_
                have ef : (f_Cd_readsA x_p0) = (0 : Int32) := (if_neg c_1).trans ((if_neg c_2).trans ((if_neg c_4).trans ((if_neg c_5).trans ((if_neg c_6).trans ((if_neg c_7).trans ((if_neg c_8).trans rfl))))))
                exact W.zret (v := 0) hx hb hr rfl (fun t ht hW => ⟨by rw [ef], ht⟩) (fun _ h => by cases h) d_Cd_readsA_88
def f_Cd_readsB (x_p0 : Int32) : Int32 :=
  if (f_Cd_codeOf x_p0) = 51 then
    1
  else
    if (f_Cd_codeOf x_p0) = 35 then
      1
    else
      if (f_Cd_codeOf x_p0) = 99 then
        1
      else
        0
set_option maxHeartbeats 4000000 in
set_option maxRecDepth 100000 in
theorem ct_Cd_readsB (l : Launch) (dC : Nat → ClassId) (dI : Nat → Nat → Nat) (cI : ClassId) (x_p0 : Int32) : Met l y_Cd_readsB w_Cd_readsB ({ frames := 1, cells := 0, slots := 0, locals := 20 }) (pcR dC dI cI [] [.int x_p0]) (QcRead (f_Cd_readsB x_p0)) 0 0 (fun _ => False) := by
  refine Met.ofW (cc := c_Cd_readsB) (maxL := 2) (ret := (some .boolean)) (by decide) rfl ?_
  intro p e s m args below meth c s₁ B hml hv
  obtain ⟨rfl, hP, hK⟩ := hv
  have hx := B.exec
  have hb := B.bytes
  have hr := B.returns
  have hts : ∀ w ∈ wG, w.before _ s = true := fun w h => atoms_spec (ws := w_Cd_readsB) B.pre w (List.mem_cons_of_mem _ h)
  have hown : s.vm.findClass "LabelledCore$Code" = some m.cls := findClass_of_methodNamed B.named
  have hlocks := B.notSynchronized
  have hl := lv_entry ([.int x_p0]) (n := 2) (Nat.le_of_ble_eq_true rfl)
  rw [lg_entry_eq]
  generalize (lg_sl ([.int x_p0]) ++ List.replicate (2 - (lg_sl ([.int x_p0])).length) Slot.unset).toArray = ls at hl ⊢
  have hl : lv_has ls 2 [(0, .int x_p0)] := hl
  refine lv_iload_n hx hb d_Cd_readsB_0 rfl (lv_at hl 0 rfl) ?_
  have hPc := hP.sub (ws' := []) [] rfl
  refine W.callR ((W.runS (As := [.int x_p0]) (rest := []) ⟨hx, hb, hml, hown, hts⟩ (ct_Cd_codeOf l dC dI cI x_p0) (va_cwS 1 hts (gS wm_438 wm_439 wm_48 wm_440) rfl rfl rfl (by decide +kernel) ⟨Nat.le_of_ble_eq_true rfl, Nat.le_of_ble_eq_true rfl⟩) ⟨pcR_blind, pcR_pre hPc hK⟩ rfl rfl hl.1 rfl (lv_room (Nat.le_of_ble_eq_true rfl)) d_Cd_readsB_1 ⟨Nat.le_of_ble_eq_true rfl, Nat.le_of_ble_eq_true rfl⟩)) ?_
  refine W.eq (g2 := F0 m 4 ls [.int (f_Cd_codeOf x_p0)]) rfl ?_
  refine lv_istore_n (lv' := [(1, .int (f_Cd_codeOf x_p0)), (0, .int x_p0)]) hx hb d_Cd_readsB_4 rfl hl (by decide) rfl (fun ls hl => ?_)
  refine lv_iload_n hx hb d_Cd_readsB_5 rfl (lv_at hl 0 rfl) ?_
  refine lv_bipush (v := 51) hx hb d_Cd_readsB_6 (by decide) ?_
  refine lv_icmp_eq (tgt := 23) hx hb d_Cd_readsB_8 (by decide) (fun c_1 => ?_) (fun c_1 => ?_)
  · refine lv_iconst (v := 1) hx hb d_Cd_readsB_23 (by decide) ?_
    refine lv_goto (tgt := 28) hx hb d_Cd_readsB_24 (by decide) ?_
    have ef : (f_Cd_readsB x_p0) = (1 : Int32) := (if_pos c_1).trans rfl
    exact W.zret (v := 1) hx hb hr rfl (fun t ht hW => ⟨by rw [ef], ht⟩) (fun _ h => by cases h) d_Cd_readsB_28
  · refine lv_iload_n hx hb d_Cd_readsB_11 rfl (lv_at hl 0 rfl) ?_
    refine lv_bipush (v := 35) hx hb d_Cd_readsB_12 (by decide) ?_
    refine lv_icmp_eq (tgt := 23) hx hb d_Cd_readsB_14 (by decide) (fun c_2 => ?_) (fun c_2 => ?_)
    · refine lv_iconst (v := 1) hx hb d_Cd_readsB_23 (by decide) ?_
      refine lv_goto (tgt := 28) hx hb d_Cd_readsB_24 (by decide) ?_
      have ef : (f_Cd_readsB x_p0) = (1 : Int32) := (if_neg c_1).trans ((if_pos c_2).trans rfl)
      exact W.zret (v := 1) hx hb hr rfl (fun t ht hW => ⟨by rw [ef], ht⟩) (fun _ h => by cases h) d_Cd_readsB_28
    · refine lv_iload_n hx hb d_Cd_readsB_17 rfl (lv_at hl 0 rfl) ?_
      refine lv_bipush (v := 99) hx hb d_Cd_readsB_18 (by decide) ?_
      refine lv_icmp_ne (tgt := 27) hx hb d_Cd_readsB_20 (by decide) (fun c_3 => ?_) (fun c_3 => ?_)
      · refine lv_iconst (v := 0) hx hb d_Cd_readsB_27 (by decide) ?_
        have ef : (f_Cd_readsB x_p0) = (0 : Int32) := (if_neg c_1).trans ((if_neg c_2).trans ((if_neg c_3).trans rfl))
        exact W.zret (v := 0) hx hb hr rfl (fun t ht hW => ⟨by rw [ef], ht⟩) (fun _ h => by cases h) d_Cd_readsB_28
      · refine lv_iconst (v := 1) hx hb d_Cd_readsB_23 (by decide) ?_
        refine lv_goto (tgt := 28) hx hb d_Cd_readsB_24 (by decide) ?_
        have ef : (f_Cd_readsB x_p0) = (1 : Int32) := (if_neg c_1).trans ((if_neg c_2).trans ((if_pos c_3).trans rfl))
        exact W.zret (v := 1) hx hb hr rfl (fun t ht hW => ⟨by rw [ef], ht⟩) (fun _ h => by cases h) d_Cd_readsB_28
def f_Cd_isLessUnsigned (x_p0 : Int32) (x_p1 : Int32) : Int32 :=
  if (x_p1 ^^^ (-2147483648)) ≤ (x_p0 ^^^ (-2147483648)) then
    0
  else
    1
set_option maxHeartbeats 4000000 in
set_option maxRecDepth 100000 in
theorem ct_Cd_isLessUnsigned (l : Launch) (dC : Nat → ClassId) (dI : Nat → Nat → Nat) (cI : ClassId) (x_p0 : Int32) (x_p1 : Int32) : Met l y_Cd_isLessUnsigned w_Cd_isLessUnsigned ({ frames := 0, cells := 0, slots := 0, locals := 0 }) (pcR dC dI cI [] [.int x_p0, .int x_p1]) (QcRead (f_Cd_isLessUnsigned x_p0 x_p1)) 0 0 (fun _ => False) := by
  refine Met.ofW (cc := c_Cd_isLessUnsigned) (maxL := 2) (ret := (some .boolean)) (by decide) rfl ?_
  intro p e s m args below meth c s₁ B hml hv
  obtain ⟨rfl, hP, hK⟩ := hv
  have hx := B.exec
  have hb := B.bytes
  have hr := B.returns
  have hts : ∀ w ∈ wG, w.before _ s = true := fun w h => atoms_spec (ws := w_Cd_isLessUnsigned) B.pre w (List.mem_cons_of_mem _ h)
  have hown : s.vm.findClass "LabelledCore$Code" = some m.cls := findClass_of_methodNamed B.named
  have hlocks := B.notSynchronized
  have hl := lv_entry ([.int x_p0, .int x_p1]) (n := 2) (Nat.le_of_ble_eq_true rfl)
  rw [lg_entry_eq]
  generalize (lg_sl ([.int x_p0, .int x_p1]) ++ List.replicate (2 - (lg_sl ([.int x_p0, .int x_p1])).length) Slot.unset).toArray = ls at hl ⊢
  have hl : lv_has ls 2 [(0, .int x_p0), (1, .int x_p1)] := hl
  refine lv_iload_n hx hb d_Cd_isLessUnsigned_0 rfl (lv_at hl 0 rfl) ?_
  refine lv_ldc (v := (-2147483648)) hx hb hown (hts _ wm_850) d_Cd_isLessUnsigned_1 ?_
  refine lv_ixor hx hb d_Cd_isLessUnsigned_3 ?_
  refine lv_iload_n hx hb d_Cd_isLessUnsigned_4 rfl (lv_at hl 1 rfl) ?_
  refine lv_ldc (v := (-2147483648)) hx hb hown (hts _ wm_850) d_Cd_isLessUnsigned_5 ?_
  refine lv_ixor hx hb d_Cd_isLessUnsigned_7 ?_
  refine lv_icmp_ge (tgt := 15) hx hb d_Cd_isLessUnsigned_8 (by decide) (fun c_1 => ?_) (fun c_1 => ?_)
  · refine lv_iconst (v := 0) hx hb d_Cd_isLessUnsigned_15 (by decide) ?_
    have ef : (f_Cd_isLessUnsigned x_p0 x_p1) = (0 : Int32) := (if_pos c_1).trans rfl
    exact W.zret (v := 0) hx hb hr rfl (fun t ht hW => ⟨by rw [ef], ht⟩) (fun _ h => by cases h) d_Cd_isLessUnsigned_16
  · refine lv_iconst (v := 1) hx hb d_Cd_isLessUnsigned_11 (by decide) ?_
    refine lv_goto (tgt := 16) hx hb d_Cd_isLessUnsigned_12 (by decide) ?_
    have ef : (f_Cd_isLessUnsigned x_p0 x_p1) = (1 : Int32) := (if_neg c_1).trans rfl
    exact W.zret (v := 1) hx hb hr rfl (fun t ht hW => ⟨by rw [ef], ht⟩) (fun _ h => by cases h) d_Cd_isLessUnsigned_16
def f_Cd_combine (x_p0 : Int32) (x_p1 : Int32) (x_p2 : Int32) (x_p3 : Int32) : Int32 :=
  if x_p0 = 0 then
    if x_p1 = 0 then
      (x_p2 + x_p3)
    else
      (x_p2 - x_p3)
  else
    if x_p0 = 1 then
      (x_p2 <<< ((x_p3 &&& 31) &&& 31))
    else
      if x_p0 = 2 then
        if x_p3 ≤ x_p2 then
          0
        else
          1
      else
        if x_p0 = 3 then
          if (f_Cd_isLessUnsigned x_p2 x_p3) = 0 then
            0
          else
            1
        else
          if x_p0 = 4 then
            (x_p2 ^^^ x_p3)
          else
            if x_p0 = 5 then
              if x_p1 = 0 then
                (jU x_p2 (x_p3 &&& 31))
              else
                (x_p2 >>> ((x_p3 &&& 31) &&& 31))
            else
              if x_p0 = 6 then
                (x_p2 ||| x_p3)
              else
                (x_p2 &&& x_p3)
set_option maxHeartbeats 4000000 in
set_option maxRecDepth 100000 in
theorem ct_Cd_combine (l : Launch) (dC : Nat → ClassId) (dI : Nat → Nat → Nat) (cI : ClassId) (x_p0 : Int32) (x_p1 : Int32) (x_p2 : Int32) (x_p3 : Int32) : Met l y_Cd_combine w_Cd_combine ({ frames := 1, cells := 0, slots := 0, locals := 21 }) (pcR dC dI cI [] [.int x_p0, .int x_p1, .int x_p2, .int x_p3]) (QcRead (f_Cd_combine x_p0 x_p1 x_p2 x_p3)) 0 0 (fun _ => False) := by
  refine Met.ofW (cc := c_Cd_combine) (maxL := 4) (ret := (some .int)) (by decide) rfl ?_
  intro p e s m args below meth c s₁ B hml hv
  obtain ⟨rfl, hP, hK⟩ := hv
  have hx := B.exec
  have hb := B.bytes
  have hr := B.returns
  have hts : ∀ w ∈ wG, w.before _ s = true := fun w h => atoms_spec (ws := w_Cd_combine) B.pre w (List.mem_cons_of_mem _ h)
  have hown : s.vm.findClass "LabelledCore$Code" = some m.cls := findClass_of_methodNamed B.named
  have hlocks := B.notSynchronized
  have hl := lv_entry ([.int x_p0, .int x_p1, .int x_p2, .int x_p3]) (n := 4) (Nat.le_of_ble_eq_true rfl)
  rw [lg_entry_eq]
  generalize (lg_sl ([.int x_p0, .int x_p1, .int x_p2, .int x_p3]) ++ List.replicate (4 - (lg_sl ([.int x_p0, .int x_p1, .int x_p2, .int x_p3])).length) Slot.unset).toArray = ls at hl ⊢
  have hl : lv_has ls 4 [(0, .int x_p0), (1, .int x_p1), (2, .int x_p2), (3, .int x_p3)] := hl
  refine lv_iload_n hx hb d_Cd_combine_0 rfl (lv_at hl 0 rfl) ?_
  by_cases c_1 : x_p0 = 0
  · refine lv_tableIn (off := 43) (tgt := 44) hx hb d_Cd_combine_1 (by rw [c_1]; decide +kernel) (by rw [c_1]; decide +kernel) (by rw [c_1]; decide +kernel) (by decide) ?_
    refine lv_iload_n hx hb d_Cd_combine_44 rfl (lv_at hl 1 rfl) ?_
    refine lv_if_eq (tgt := 54) hx hb d_Cd_combine_45 (by decide) (fun c_2 => ?_) (fun c_2 => ?_)
    · refine lv_iload_n hx hb d_Cd_combine_54 rfl (lv_at hl 2 rfl) ?_
      refine lv_iload_n hx hb d_Cd_combine_55 rfl (lv_at hl 3 rfl) ?_
      refine lv_iadd hx hb d_Cd_combine_56 ?_
      have ef : (f_Cd_combine x_p0 x_p1 x_p2 x_p3) = ((x_p2 + x_p3) : Int32) := (if_pos c_1).trans ((if_pos c_2).trans rfl)
      exact W.iret (v := (x_p2 + x_p3)) hx hb hr (fun t ht hW => ⟨by rw [ef], ht⟩) (fun _ h => by cases h) d_Cd_combine_57
    · refine lv_iload_n hx hb d_Cd_combine_48 rfl (lv_at hl 2 rfl) ?_
      refine lv_iload_n hx hb d_Cd_combine_49 rfl (lv_at hl 3 rfl) ?_
      refine lv_isub hx hb d_Cd_combine_50 ?_
      refine lv_goto (tgt := 57) hx hb d_Cd_combine_51 (by decide) ?_
      have ef : (f_Cd_combine x_p0 x_p1 x_p2 x_p3) = ((x_p2 - x_p3) : Int32) := (if_pos c_1).trans ((if_neg c_2).trans rfl)
      exact W.iret (v := (x_p2 - x_p3)) hx hb hr (fun t ht hW => ⟨by rw [ef], ht⟩) (fun _ h => by cases h) d_Cd_combine_57
  · by_cases c_3 : x_p0 = 1
    · refine lv_tableIn (off := 57) (tgt := 58) hx hb d_Cd_combine_1 (by rw [c_3]; decide +kernel) (by rw [c_3]; decide +kernel) (by rw [c_3]; decide +kernel) (by decide) ?_
      refine lv_iload_n hx hb d_Cd_combine_58 rfl (lv_at hl 2 rfl) ?_
      refine lv_iload_n hx hb d_Cd_combine_59 rfl (lv_at hl 3 rfl) ?_
      refine lv_bipush (v := 31) hx hb d_Cd_combine_60 (by decide) ?_
      refine lv_iand hx hb d_Cd_combine_62 ?_
      refine lv_ishl hx hb d_Cd_combine_63 ?_
      have ef : (f_Cd_combine x_p0 x_p1 x_p2 x_p3) = ((x_p2 <<< ((x_p3 &&& 31) &&& 31)) : Int32) := (if_neg c_1).trans ((if_pos c_3).trans rfl)
      exact W.iret (v := (x_p2 <<< ((x_p3 &&& 31) &&& 31))) hx hb hr (fun t ht hW => ⟨by rw [ef], ht⟩) (fun _ h => by cases h) d_Cd_combine_64
    · by_cases c_4 : x_p0 = 2
      · refine lv_tableIn (off := 64) (tgt := 65) hx hb d_Cd_combine_1 (by rw [c_4]; decide +kernel) (by rw [c_4]; decide +kernel) (by rw [c_4]; decide +kernel) (by decide) ?_
        refine lv_iload_n hx hb d_Cd_combine_65 rfl (lv_at hl 2 rfl) ?_
        refine lv_iload_n hx hb d_Cd_combine_66 rfl (lv_at hl 3 rfl) ?_
        refine lv_icmp_ge (tgt := 74) hx hb d_Cd_combine_67 (by decide) (fun c_5 => ?_) (fun c_5 => ?_)
        · refine lv_iconst (v := 0) hx hb d_Cd_combine_74 (by decide) ?_
          have ef : (f_Cd_combine x_p0 x_p1 x_p2 x_p3) = (0 : Int32) := (if_neg c_1).trans ((if_neg c_3).trans ((if_pos c_4).trans ((if_pos c_5).trans rfl)))
          exact W.iret (v := 0) hx hb hr (fun t ht hW => ⟨by rw [ef], ht⟩) (fun _ h => by cases h) d_Cd_combine_75
        · refine lv_iconst (v := 1) hx hb d_Cd_combine_70 (by decide) ?_
          refine lv_goto (tgt := 75) hx hb d_Cd_combine_71 (by decide) ?_
          have ef : (f_Cd_combine x_p0 x_p1 x_p2 x_p3) = (1 : Int32) := (if_neg c_1).trans ((if_neg c_3).trans ((if_pos c_4).trans ((if_neg c_5).trans rfl)))
          exact W.iret (v := 1) hx hb hr (fun t ht hW => ⟨by rw [ef], ht⟩) (fun _ h => by cases h) d_Cd_combine_75
      · by_cases c_6 : x_p0 = 3
        · refine lv_tableIn (off := 75) (tgt := 76) hx hb d_Cd_combine_1 (by rw [c_6]; decide +kernel) (by rw [c_6]; decide +kernel) (by rw [c_6]; decide +kernel) (by decide) ?_
          refine lv_iload_n hx hb d_Cd_combine_76 rfl (lv_at hl 2 rfl) ?_
          refine lv_iload_n hx hb d_Cd_combine_77 rfl (lv_at hl 3 rfl) ?_
          have hPc := hP.sub (ws' := []) [] rfl
          refine W.callR ((W.runS (As := [.int x_p2, .int x_p3]) (rest := []) ⟨hx, hb, hml, hown, hts⟩ (ct_Cd_isLessUnsigned l dC dI cI x_p2 x_p3) (va_cwS 2 hts (gS wm_847 wm_848 wm_48 wm_849) rfl rfl rfl (by decide +kernel) ⟨Nat.le_of_ble_eq_true rfl, Nat.le_of_ble_eq_true rfl⟩) ⟨pcR_blind, pcR_pre hPc hK⟩ rfl rfl hl.1 rfl (lv_room (Nat.le_of_ble_eq_true rfl)) d_Cd_combine_78 ⟨Nat.le_of_ble_eq_true rfl, Nat.le_of_ble_eq_true rfl⟩)) ?_
          refine W.eq (g2 := F0 m 81 ls [.int (f_Cd_isLessUnsigned x_p2 x_p3)]) rfl ?_
          refine lv_if_eq (tgt := 88) hx hb d_Cd_combine_81 (by decide) (fun c_7 => ?_) (fun c_7 => ?_)
          · refine lv_iconst (v := 0) hx hb d_Cd_combine_88 (by decide) ?_
            have ef : (f_Cd_combine x_p0 x_p1 x_p2 x_p3) = (0 : Int32) := (if_neg c_1).trans ((if_neg c_3).trans ((if_neg c_4).trans ((if_pos c_6).trans ((if_pos c_7).trans rfl))))
            exact W.iret (v := 0) hx hb hr (fun t ht hW => ⟨by rw [ef], ht⟩) (fun _ h => by cases h) d_Cd_combine_89
          · refine lv_iconst (v := 1) hx hb d_Cd_combine_84 (by decide) ?_
            refine lv_goto (tgt := 89) hx hb d_Cd_combine_85 (by decide) ?_
            have ef : (f_Cd_combine x_p0 x_p1 x_p2 x_p3) = (1 : Int32) := (if_neg c_1).trans ((if_neg c_3).trans ((if_neg c_4).trans ((if_pos c_6).trans ((if_neg c_7).trans rfl))))
            exact W.iret (v := 1) hx hb hr (fun t ht hW => ⟨by rw [ef], ht⟩) (fun _ h => by cases h) d_Cd_combine_89
        · by_cases c_8 : x_p0 = 4
          · refine lv_tableIn (off := 89) (tgt := 90) hx hb d_Cd_combine_1 (by rw [c_8]; decide +kernel) (by rw [c_8]; decide +kernel) (by rw [c_8]; decide +kernel) (by decide) ?_
            refine lv_iload_n hx hb d_Cd_combine_90 rfl (lv_at hl 2 rfl) ?_
            refine lv_iload_n hx hb d_Cd_combine_91 rfl (lv_at hl 3 rfl) ?_
            refine lv_ixor hx hb d_Cd_combine_92 ?_
            have ef : (f_Cd_combine x_p0 x_p1 x_p2 x_p3) = ((x_p2 ^^^ x_p3) : Int32) := (if_neg c_1).trans ((if_neg c_3).trans ((if_neg c_4).trans ((if_neg c_6).trans ((if_pos c_8).trans rfl))))
            exact W.iret (v := (x_p2 ^^^ x_p3)) hx hb hr (fun t ht hW => ⟨by rw [ef], ht⟩) (fun _ h => by cases h) d_Cd_combine_93
          · by_cases c_9 : x_p0 = 5
            · refine lv_tableIn (off := 93) (tgt := 94) hx hb d_Cd_combine_1 (by rw [c_9]; decide +kernel) (by rw [c_9]; decide +kernel) (by rw [c_9]; decide +kernel) (by decide) ?_
              refine lv_iload_n hx hb d_Cd_combine_94 rfl (lv_at hl 1 rfl) ?_
              refine lv_if_eq (tgt := 107) hx hb d_Cd_combine_95 (by decide) (fun c_10 => ?_) (fun c_10 => ?_)
              · refine lv_iload_n hx hb d_Cd_combine_107 rfl (lv_at hl 2 rfl) ?_
                refine lv_iload_n hx hb d_Cd_combine_108 rfl (lv_at hl 3 rfl) ?_
                refine lv_bipush (v := 31) hx hb d_Cd_combine_109 (by decide) ?_
                refine lv_iand hx hb d_Cd_combine_111 ?_
                refine lv_iushr (v := (jU x_p2 (x_p3 &&& 31))) hx hb d_Cd_combine_112 rfl ?_
                have ef : (f_Cd_combine x_p0 x_p1 x_p2 x_p3) = ((jU x_p2 (x_p3 &&& 31)) : Int32) := (if_neg c_1).trans ((if_neg c_3).trans ((if_neg c_4).trans ((if_neg c_6).trans ((if_neg c_8).trans ((if_pos c_9).trans ((if_pos c_10).trans rfl))))))
                exact W.iret (v := (jU x_p2 (x_p3 &&& 31))) hx hb hr (fun t ht hW => ⟨by rw [ef], ht⟩) (fun _ h => by cases h) d_Cd_combine_113
              · refine lv_iload_n hx hb d_Cd_combine_98 rfl (lv_at hl 2 rfl) ?_
                refine lv_iload_n hx hb d_Cd_combine_99 rfl (lv_at hl 3 rfl) ?_
                refine lv_bipush (v := 31) hx hb d_Cd_combine_100 (by decide) ?_
                refine lv_iand hx hb d_Cd_combine_102 ?_
                refine lv_ishr hx hb d_Cd_combine_103 ?_
                refine lv_goto (tgt := 113) hx hb d_Cd_combine_104 (by decide) ?_
                have ef : (f_Cd_combine x_p0 x_p1 x_p2 x_p3) = ((x_p2 >>> ((x_p3 &&& 31) &&& 31)) : Int32) := (if_neg c_1).trans ((if_neg c_3).trans ((if_neg c_4).trans ((if_neg c_6).trans ((if_neg c_8).trans ((if_pos c_9).trans ((if_neg c_10).trans rfl))))))
                exact W.iret (v := (x_p2 >>> ((x_p3 &&& 31) &&& 31))) hx hb hr (fun t ht hW => ⟨by rw [ef], ht⟩) (fun _ h => by cases h) d_Cd_combine_113
            · by_cases c_11 : x_p0 = 6
              · refine lv_tableIn (off := 113) (tgt := 114) hx hb d_Cd_combine_1 (by rw [c_11]; decide +kernel) (by rw [c_11]; decide +kernel) (by rw [c_11]; decide +kernel) (by decide) ?_
                refine lv_iload_n hx hb d_Cd_combine_114 rfl (lv_at hl 2 rfl) ?_
                refine lv_iload_n hx hb d_Cd_combine_115 rfl (lv_at hl 3 rfl) ?_
                refine lv_ior hx hb d_Cd_combine_116 ?_
                have ef : (f_Cd_combine x_p0 x_p1 x_p2 x_p3) = ((x_p2 ||| x_p3) : Int32) := (if_neg c_1).trans ((if_neg c_3).trans ((if_neg c_4).trans ((if_neg c_6).trans ((if_neg c_8).trans ((if_neg c_9).trans ((if_pos c_11).trans rfl))))))
                exact W.iret (v := (x_p2 ||| x_p3)) hx hb hr (fun t ht hW => ⟨by rw [ef], ht⟩) (fun _ h => by cases h) d_Cd_combine_117
              · refine lv_tableOut (tgt := 118) hx hb d_Cd_combine_1 (by have q0 := lv_neT c_1 (show (0 : Int32).toInt = 0 by decide); have q1 := lv_neT c_3 (show (1 : Int32).toInt = 1 by decide); have q2 := lv_neT c_4 (show (2 : Int32).toInt = 2 by decide); have q3 := lv_neT c_6 (show (3 : Int32).toInt = 3 by decide); have q4 := lv_neT c_8 (show (4 : Int32).toInt = 4 by decide); have q5 := lv_neT c_9 (show (5 : Int32).toInt = 5 by decide); have q6 := lv_neT c_11 (show (6 : Int32).toInt = 6 by decide); omega) (by decide) ?_
                refine lv_iload_n hx hb d_Cd_combine_118 rfl (lv_at hl 2 rfl) ?_
                refine lv_iload_n hx hb d_Cd_combine_119 rfl (lv_at hl 3 rfl) ?_
                refine lv_iand hx hb d_Cd_combine_120 ?_
                have ef : (f_Cd_combine x_p0 x_p1 x_p2 x_p3) = ((x_p2 &&& x_p3) : Int32) := (if_neg c_1).trans ((if_neg c_3).trans ((if_neg c_4).trans ((if_neg c_6).trans ((if_neg c_8).trans ((if_neg c_9).trans ((if_neg c_11).trans rfl))))))
                exact W.iret (v := (x_p2 &&& x_p3)) hx hb hr (fun t ht hW => ⟨by rw [ef], ht⟩) (fun _ h => by cases h) d_Cd_combine_121

theorem nb_f_Cd_isLessUnsigned (a b : Int32) : narrow .boolean (.int (f_Cd_isLessUnsigned a b)) = .int (f_Cd_isLessUnsigned a b) := by
  unfold f_Cd_isLessUnsigned
  split <;> rfl
def f_Cd_compares (x_p0 : Int32) (x_p1 : Int32) (x_p2 : Int32) : Int32 :=
  if x_p0 = 0 then
    if x_p1 = x_p2 then
      1
    else
      0
  else
    if x_p0 = 1 then
      if x_p1 = x_p2 then
        0
      else
        1
    else
      if x_p0 = 2 then
        if (f_Cd_isLessUnsigned x_p1 x_p2) = 0 then
          1
        else
          0
      else
        if x_p0 = 3 then
          if (f_Cd_isLessUnsigned x_p1 x_p2) = 0 then
            1
          else
            0
        else
          if x_p0 = 4 then
            if x_p2 ≤ x_p1 then
              0
            else
              1
          else
            if x_p0 = 5 then
              if x_p1 < x_p2 then
                0
              else
                1
            else
              if x_p0 = 6 then
                (f_Cd_isLessUnsigned x_p1 x_p2)
              else
                if (f_Cd_isLessUnsigned x_p1 x_p2) = 0 then
                  1
                else
                  0
set_option maxHeartbeats 4000000 in
set_option maxRecDepth 100000 in
theorem ct_Cd_compares (l : Launch) (dC : Nat → ClassId) (dI : Nat → Nat → Nat) (cI : ClassId) (x_p0 : Int32) (x_p1 : Int32) (x_p2 : Int32) : Met l y_Cd_compares w_Cd_compares ({ frames := 1, cells := 0, slots := 0, locals := 21 }) (pcR dC dI cI [] [.int x_p0, .int x_p1, .int x_p2]) (QcRead (f_Cd_compares x_p0 x_p1 x_p2)) 0 0 (fun _ => False) := by
  refine Met.ofW (cc := c_Cd_compares) (maxL := 3) (ret := (some .boolean)) (by decide) rfl ?_
  intro p e s m args below meth c s₁ B hml hv
  obtain ⟨rfl, hP, hK⟩ := hv
  have hx := B.exec
  have hb := B.bytes
  have hr := B.returns
  have hts : ∀ w ∈ wG, w.before _ s = true := fun w h => atoms_spec (ws := w_Cd_compares) B.pre w (List.mem_cons_of_mem _ h)
  have hown : s.vm.findClass "LabelledCore$Code" = some m.cls := findClass_of_methodNamed B.named
  have hlocks := B.notSynchronized
  have hl := lv_entry ([.int x_p0, .int x_p1, .int x_p2]) (n := 3) (Nat.le_of_ble_eq_true rfl)
  rw [lg_entry_eq]
  generalize (lg_sl ([.int x_p0, .int x_p1, .int x_p2]) ++ List.replicate (3 - (lg_sl ([.int x_p0, .int x_p1, .int x_p2])).length) Slot.unset).toArray = ls at hl ⊢
  have hl : lv_has ls 3 [(0, .int x_p0), (1, .int x_p1), (2, .int x_p2)] := hl
  refine lv_iload_n hx hb d_Cd_compares_0 rfl (lv_at hl 0 rfl) ?_
  by_cases c_1 : x_p0 = 0
  · refine lv_tableIn (off := 43) (tgt := 44) hx hb d_Cd_compares_1 (by rw [c_1]; decide +kernel) (by rw [c_1]; decide +kernel) (by rw [c_1]; decide +kernel) (by decide) ?_
    refine lv_iload_n hx hb d_Cd_compares_44 rfl (lv_at hl 1 rfl) ?_
    refine lv_iload_n hx hb d_Cd_compares_45 rfl (lv_at hl 2 rfl) ?_
    refine lv_icmp_ne (tgt := 53) hx hb d_Cd_compares_46 (by decide) (fun c_2 => ?_) (fun c_2 => ?_)
    · refine lv_iconst (v := 0) hx hb d_Cd_compares_53 (by decide) ?_
      have ef : (f_Cd_compares x_p0 x_p1 x_p2) = (0 : Int32) := (if_pos c_1).trans ((if_neg c_2).trans rfl)
      exact W.zret (v := 0) hx hb hr rfl (fun t ht hW => ⟨by rw [ef], ht⟩) (fun _ h => by cases h) d_Cd_compares_54
    · refine lv_iconst (v := 1) hx hb d_Cd_compares_49 (by decide) ?_
      refine lv_goto (tgt := 54) hx hb d_Cd_compares_50 (by decide) ?_
      have ef : (f_Cd_compares x_p0 x_p1 x_p2) = (1 : Int32) := (if_pos c_1).trans ((if_pos c_2).trans rfl)
      exact W.zret (v := 1) hx hb hr rfl (fun t ht hW => ⟨by rw [ef], ht⟩) (fun _ h => by cases h) d_Cd_compares_54
  · by_cases c_3 : x_p0 = 1
    · refine lv_tableIn (off := 54) (tgt := 55) hx hb d_Cd_compares_1 (by rw [c_3]; decide +kernel) (by rw [c_3]; decide +kernel) (by rw [c_3]; decide +kernel) (by decide) ?_
      refine lv_iload_n hx hb d_Cd_compares_55 rfl (lv_at hl 1 rfl) ?_
      refine lv_iload_n hx hb d_Cd_compares_56 rfl (lv_at hl 2 rfl) ?_
      refine lv_icmp_eq (tgt := 64) hx hb d_Cd_compares_57 (by decide) (fun c_4 => ?_) (fun c_4 => ?_)
      · refine lv_iconst (v := 0) hx hb d_Cd_compares_64 (by decide) ?_
        have ef : (f_Cd_compares x_p0 x_p1 x_p2) = (0 : Int32) := (if_neg c_1).trans ((if_pos c_3).trans ((if_pos c_4).trans rfl))
        exact W.zret (v := 0) hx hb hr rfl (fun t ht hW => ⟨by rw [ef], ht⟩) (fun _ h => by cases h) d_Cd_compares_65
      · refine lv_iconst (v := 1) hx hb d_Cd_compares_60 (by decide) ?_
        refine lv_goto (tgt := 65) hx hb d_Cd_compares_61 (by decide) ?_
        have ef : (f_Cd_compares x_p0 x_p1 x_p2) = (1 : Int32) := (if_neg c_1).trans ((if_pos c_3).trans ((if_neg c_4).trans rfl))
        exact W.zret (v := 1) hx hb hr rfl (fun t ht hW => ⟨by rw [ef], ht⟩) (fun _ h => by cases h) d_Cd_compares_65
    · by_cases c_5 : x_p0 = 2
      · refine lv_tableIn (off := 93) (tgt := 94) hx hb d_Cd_compares_1 (by rw [c_5]; decide +kernel) (by rw [c_5]; decide +kernel) (by rw [c_5]; decide +kernel) (by decide) ?_
        refine lv_iload_n hx hb d_Cd_compares_94 rfl (lv_at hl 1 rfl) ?_
        refine lv_iload_n hx hb d_Cd_compares_95 rfl (lv_at hl 2 rfl) ?_
        have hPc := hP.sub (ws' := []) [] rfl
        refine W.callR ((W.runS (As := [.int x_p1, .int x_p2]) (rest := []) ⟨hx, hb, hml, hown, hts⟩ (ct_Cd_isLessUnsigned l dC dI cI x_p1 x_p2) (va_cwS 2 hts (gS wm_847 wm_848 wm_48 wm_849) rfl rfl rfl (by decide +kernel) ⟨Nat.le_of_ble_eq_true rfl, Nat.le_of_ble_eq_true rfl⟩) ⟨pcR_blind, pcR_pre hPc hK⟩ rfl rfl hl.1 rfl (lv_room (Nat.le_of_ble_eq_true rfl)) d_Cd_compares_96 ⟨Nat.le_of_ble_eq_true rfl, Nat.le_of_ble_eq_true rfl⟩)) ?_
        refine W.eq (g2 := F0 m 99 ls [.int (f_Cd_isLessUnsigned x_p1 x_p2)]) rfl ?_
        refine lv_if_ne (tgt := 106) hx hb d_Cd_compares_99 (by decide) (fun c_6 => ?_) (fun c_6 => ?_)
        · refine lv_iconst (v := 0) hx hb d_Cd_compares_106 (by decide) ?_
          have ef : (f_Cd_compares x_p0 x_p1 x_p2) = (0 : Int32) := (if_neg c_1).trans ((if_neg c_3).trans ((if_pos c_5).trans ((if_neg c_6).trans rfl)))
          exact W.zret (v := 0) hx hb hr rfl (fun t ht hW => ⟨by rw [ef], ht⟩) (fun _ h => by cases h) d_Cd_compares_107
        · refine lv_iconst (v := 1) hx hb d_Cd_compares_102 (by decide) ?_
          refine lv_goto (tgt := 107) hx hb d_Cd_compares_103 (by decide) ?_
          have ef : (f_Cd_compares x_p0 x_p1 x_p2) = (1 : Int32) := (if_neg c_1).trans ((if_neg c_3).trans ((if_pos c_5).trans ((if_pos c_6).trans rfl)))
          exact W.zret (v := 1) hx hb hr rfl (fun t ht hW => ⟨by rw [ef], ht⟩) (fun _ h => by cases h) d_Cd_compares_107
      · by_cases c_7 : x_p0 = 3
        · refine lv_tableIn (off := 93) (tgt := 94) hx hb d_Cd_compares_1 (by rw [c_7]; decide +kernel) (by rw [c_7]; decide +kernel) (by rw [c_7]; decide +kernel) (by decide) ?_
          refine lv_iload_n hx hb d_Cd_compares_94 rfl (lv_at hl 1 rfl) ?_
          refine lv_iload_n hx hb d_Cd_compares_95 rfl (lv_at hl 2 rfl) ?_
          have hPc := hP.sub (ws' := []) [] rfl
          refine W.callR ((W.runS (As := [.int x_p1, .int x_p2]) (rest := []) ⟨hx, hb, hml, hown, hts⟩ (ct_Cd_isLessUnsigned l dC dI cI x_p1 x_p2) (va_cwS 2 hts (gS wm_847 wm_848 wm_48 wm_849) rfl rfl rfl (by decide +kernel) ⟨Nat.le_of_ble_eq_true rfl, Nat.le_of_ble_eq_true rfl⟩) ⟨pcR_blind, pcR_pre hPc hK⟩ rfl rfl hl.1 rfl (lv_room (Nat.le_of_ble_eq_true rfl)) d_Cd_compares_96 ⟨Nat.le_of_ble_eq_true rfl, Nat.le_of_ble_eq_true rfl⟩)) ?_
          refine W.eq (g2 := F0 m 99 ls [.int (f_Cd_isLessUnsigned x_p1 x_p2)]) rfl ?_
          refine lv_if_ne (tgt := 106) hx hb d_Cd_compares_99 (by decide) (fun c_8 => ?_) (fun c_8 => ?_)
          · refine lv_iconst (v := 0) hx hb d_Cd_compares_106 (by decide) ?_
            have ef : (f_Cd_compares x_p0 x_p1 x_p2) = (0 : Int32) := (if_neg c_1).trans ((if_neg c_3).trans ((if_neg c_5).trans ((if_pos c_7).trans ((if_neg c_8).trans rfl))))
            exact W.zret (v := 0) hx hb hr rfl (fun t ht hW => ⟨by rw [ef], ht⟩) (fun _ h => by cases h) d_Cd_compares_107
          · refine lv_iconst (v := 1) hx hb d_Cd_compares_102 (by decide) ?_
            refine lv_goto (tgt := 107) hx hb d_Cd_compares_103 (by decide) ?_
            have ef : (f_Cd_compares x_p0 x_p1 x_p2) = (1 : Int32) := (if_neg c_1).trans ((if_neg c_3).trans ((if_neg c_5).trans ((if_pos c_7).trans ((if_pos c_8).trans rfl))))
            exact W.zret (v := 1) hx hb hr rfl (fun t ht hW => ⟨by rw [ef], ht⟩) (fun _ h => by cases h) d_Cd_compares_107
        · by_cases c_9 : x_p0 = 4
          · refine lv_tableIn (off := 65) (tgt := 66) hx hb d_Cd_compares_1 (by rw [c_9]; decide +kernel) (by rw [c_9]; decide +kernel) (by rw [c_9]; decide +kernel) (by decide) ?_
            refine lv_iload_n hx hb d_Cd_compares_66 rfl (lv_at hl 1 rfl) ?_
            refine lv_iload_n hx hb d_Cd_compares_67 rfl (lv_at hl 2 rfl) ?_
            refine lv_icmp_ge (tgt := 75) hx hb d_Cd_compares_68 (by decide) (fun c_10 => ?_) (fun c_10 => ?_)
            · refine lv_iconst (v := 0) hx hb d_Cd_compares_75 (by decide) ?_
              have ef : (f_Cd_compares x_p0 x_p1 x_p2) = (0 : Int32) := (if_neg c_1).trans ((if_neg c_3).trans ((if_neg c_5).trans ((if_neg c_7).trans ((if_pos c_9).trans ((if_pos c_10).trans rfl)))))
              exact W.zret (v := 0) hx hb hr rfl (fun t ht hW => ⟨by rw [ef], ht⟩) (fun _ h => by cases h) d_Cd_compares_76
            · refine lv_iconst (v := 1) hx hb d_Cd_compares_71 (by decide) ?_
              refine lv_goto (tgt := 76) hx hb d_Cd_compares_72 (by decide) ?_
              have ef : (f_Cd_compares x_p0 x_p1 x_p2) = (1 : Int32) := (if_neg c_1).trans ((if_neg c_3).trans ((if_neg c_5).trans ((if_neg c_7).trans ((if_pos c_9).trans ((if_neg c_10).trans rfl)))))
              exact W.zret (v := 1) hx hb hr rfl (fun t ht hW => ⟨by rw [ef], ht⟩) (fun _ h => by cases h) d_Cd_compares_76
          · by_cases c_11 : x_p0 = 5
            · refine lv_tableIn (off := 76) (tgt := 77) hx hb d_Cd_compares_1 (by rw [c_11]; decide +kernel) (by rw [c_11]; decide +kernel) (by rw [c_11]; decide +kernel) (by decide) ?_
              refine lv_iload_n hx hb d_Cd_compares_77 rfl (lv_at hl 1 rfl) ?_
              refine lv_iload_n hx hb d_Cd_compares_78 rfl (lv_at hl 2 rfl) ?_
              refine lv_icmp_lt (tgt := 86) hx hb d_Cd_compares_79 (by decide) (fun c_12 => ?_) (fun c_12 => ?_)
              · refine lv_iconst (v := 0) hx hb d_Cd_compares_86 (by decide) ?_
                have ef : (f_Cd_compares x_p0 x_p1 x_p2) = (0 : Int32) := (if_neg c_1).trans ((if_neg c_3).trans ((if_neg c_5).trans ((if_neg c_7).trans ((if_neg c_9).trans ((if_pos c_11).trans ((if_pos c_12).trans rfl))))))
                exact W.zret (v := 0) hx hb hr rfl (fun t ht hW => ⟨by rw [ef], ht⟩) (fun _ h => by cases h) d_Cd_compares_87
              · refine lv_iconst (v := 1) hx hb d_Cd_compares_82 (by decide) ?_
                refine lv_goto (tgt := 87) hx hb d_Cd_compares_83 (by decide) ?_
                have ef : (f_Cd_compares x_p0 x_p1 x_p2) = (1 : Int32) := (if_neg c_1).trans ((if_neg c_3).trans ((if_neg c_5).trans ((if_neg c_7).trans ((if_neg c_9).trans ((if_pos c_11).trans ((if_neg c_12).trans rfl))))))
                exact W.zret (v := 1) hx hb hr rfl (fun t ht hW => ⟨by rw [ef], ht⟩) (fun _ h => by cases h) d_Cd_compares_87
            · by_cases c_13 : x_p0 = 6
              · refine lv_tableIn (off := 87) (tgt := 88) hx hb d_Cd_compares_1 (by rw [c_13]; decide +kernel) (by rw [c_13]; decide +kernel) (by rw [c_13]; decide +kernel) (by decide) ?_
                refine lv_iload_n hx hb d_Cd_compares_88 rfl (lv_at hl 1 rfl) ?_
                refine lv_iload_n hx hb d_Cd_compares_89 rfl (lv_at hl 2 rfl) ?_
                have hPc := hP.sub (ws' := []) [] rfl
                refine W.callR ((W.runS (As := [.int x_p1, .int x_p2]) (rest := []) ⟨hx, hb, hml, hown, hts⟩ (ct_Cd_isLessUnsigned l dC dI cI x_p1 x_p2) (va_cwS 2 hts (gS wm_847 wm_848 wm_48 wm_849) rfl rfl rfl (by decide +kernel) ⟨Nat.le_of_ble_eq_true rfl, Nat.le_of_ble_eq_true rfl⟩) ⟨pcR_blind, pcR_pre hPc hK⟩ rfl rfl hl.1 rfl (lv_room (Nat.le_of_ble_eq_true rfl)) d_Cd_compares_90 ⟨Nat.le_of_ble_eq_true rfl, Nat.le_of_ble_eq_true rfl⟩)) ?_
                refine W.eq (g2 := F0 m 93 ls [.int (f_Cd_isLessUnsigned x_p1 x_p2)]) rfl ?_
                have ef : (f_Cd_compares x_p0 x_p1 x_p2) = ((f_Cd_isLessUnsigned x_p1 x_p2) : Int32) := (if_neg c_1).trans ((if_neg c_3).trans ((if_neg c_5).trans ((if_neg c_7).trans ((if_neg c_9).trans ((if_neg c_11).trans ((if_pos c_13).trans rfl))))))
                exact W.zret (v := (f_Cd_isLessUnsigned x_p1 x_p2)) hx hb hr (nb_f_Cd_isLessUnsigned ..) (fun t ht hW => ⟨by rw [ef], ht⟩) (fun _ h => by cases h) d_Cd_compares_93
              · refine lv_tableOut (tgt := 94) hx hb d_Cd_compares_1 (by have q0 := lv_neT c_1 (show (0 : Int32).toInt = 0 by decide); have q1 := lv_neT c_3 (show (1 : Int32).toInt = 1 by decide); have q2 := lv_neT c_5 (show (2 : Int32).toInt = 2 by decide); have q3 := lv_neT c_7 (show (3 : Int32).toInt = 3 by decide); have q4 := lv_neT c_9 (show (4 : Int32).toInt = 4 by decide); have q5 := lv_neT c_11 (show (5 : Int32).toInt = 5 by decide); have q6 := lv_neT c_13 (show (6 : Int32).toInt = 6 by decide); omega) (by decide) ?_
                refine lv_iload_n hx hb d_Cd_compares_94 rfl (lv_at hl 1 rfl) ?_
                refine lv_iload_n hx hb d_Cd_compares_95 rfl (lv_at hl 2 rfl) ?_
                have hPc := hP.sub (ws' := []) [] rfl
                refine W.callR ((W.runS (As := [.int x_p1, .int x_p2]) (rest := []) ⟨hx, hb, hml, hown, hts⟩ (ct_Cd_isLessUnsigned l dC dI cI x_p1 x_p2) (va_cwS 2 hts (gS wm_847 wm_848 wm_48 wm_849) rfl rfl rfl (by decide +kernel) ⟨Nat.le_of_ble_eq_true rfl, Nat.le_of_ble_eq_true rfl⟩) ⟨pcR_blind, pcR_pre hPc hK⟩ rfl rfl hl.1 rfl (lv_room (Nat.le_of_ble_eq_true rfl)) d_Cd_compares_96 ⟨Nat.le_of_ble_eq_true rfl, Nat.le_of_ble_eq_true rfl⟩)) ?_
                refine W.eq (g2 := F0 m 99 ls [.int (f_Cd_isLessUnsigned x_p1 x_p2)]) rfl ?_
                refine lv_if_ne (tgt := 106) hx hb d_Cd_compares_99 (by decide) (fun c_14 => ?_) (fun c_14 => ?_)
                · refine lv_iconst (v := 0) hx hb d_Cd_compares_106 (by decide) ?_
                  have ef : (f_Cd_compares x_p0 x_p1 x_p2) = (0 : Int32) := (if_neg c_1).trans ((if_neg c_3).trans ((if_neg c_5).trans ((if_neg c_7).trans ((if_neg c_9).trans ((if_neg c_11).trans ((if_neg c_13).trans ((if_neg c_14).trans rfl)))))))
                  exact W.zret (v := 0) hx hb hr rfl (fun t ht hW => ⟨by rw [ef], ht⟩) (fun _ h => by cases h) d_Cd_compares_107
                · refine lv_iconst (v := 1) hx hb d_Cd_compares_102 (by decide) ?_
                  refine lv_goto (tgt := 107) hx hb d_Cd_compares_103 (by decide) ?_
                  have ef : (f_Cd_compares x_p0 x_p1 x_p2) = (1 : Int32) := (if_neg c_1).trans ((if_neg c_3).trans ((if_neg c_5).trans ((if_neg c_7).trans ((if_neg c_9).trans ((if_neg c_11).trans ((if_neg c_13).trans ((if_pos c_14).trans rfl)))))))
                  exact W.zret (v := 1) hx hb hr rfl (fun t ht hW => ⟨by rw [ef], ht⟩) (fun _ h => by cases h) d_Cd_compares_107
