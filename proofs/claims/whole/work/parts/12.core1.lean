
theorem in_Cd_fieldA (w : Int32) : vp_in (f_Cd_fieldA w) 32 := in_and31 _
theorem in_Cd_fieldB (w : Int32) : vp_in (f_Cd_fieldB w) 32 := in_and31 _
theorem in_Cd_fieldD (w : Int32) : vp_in (f_Cd_fieldD w) 32 := in_and31 _
theorem nb_f_Cd_compares (f a b : Int32) : narrow .boolean (.int (f_Cd_compares f a b)) = .int (f_Cd_compares f a b) := by
  unfold f_Cd_compares
  repeat' split
  all_goals first
    | rfl
    | exact nb_f_Cd_isLessUnsigned _ _
def f_Co_isMask (x_p0 : Int32) : Int32 :=
  if x_p0 < 0 then
    0
  else
    if 15 < x_p0 then
      0
    else
      1
set_option maxHeartbeats 4000000 in
set_option maxRecDepth 100000 in
theorem ct_Co_isMask (l : Launch) (dC : Nat → ClassId) (dI : Nat → Nat → Nat) (cI : ClassId) (x_p0 : Int32) : Met l y_Co_isMask w_Co_isMask ({ frames := 0, cells := 0, slots := 0, locals := 0 }) (pcR dC dI cI [] [.int x_p0]) (QcRead (f_Co_isMask x_p0)) 0 0 (fun _ => False) := by
  refine Met.ofW (cc := c_Co_isMask) (maxL := 1) (ret := (some .boolean)) (by decide) rfl ?_
  intro p e s m args below meth c s₁ B hml hv
  obtain ⟨rfl, hP, hK⟩ := hv
  have hx := B.exec
  have hb := B.bytes
  have hr := B.returns
  have hts : ∀ w ∈ wG, w.before _ s = true := fun w h => atoms_spec (ws := w_Co_isMask) B.pre w (List.mem_cons_of_mem _ h)
  have hown : s.vm.findClass "LabelledCore" = some m.cls := findClass_of_methodNamed B.named
  have hlocks := B.notSynchronized
  have hl := lv_entry ([.int x_p0]) (n := 1) (Nat.le_of_ble_eq_true rfl)
  rw [lg_entry_eq]
  generalize (lg_sl ([.int x_p0]) ++ List.replicate (1 - (lg_sl ([.int x_p0])).length) Slot.unset).toArray = ls at hl ⊢
  have hl : lv_has ls 1 [(0, .int x_p0)] := hl
  refine lv_iload_n hx hb d_Co_isMask_0 rfl (lv_at hl 0 rfl) ?_
  refine lv_if_lt (tgt := 14) hx hb d_Co_isMask_1 (by decide) (fun c_1 => ?_) (fun c_1 => ?_)
  · refine lv_iconst (v := 0) hx hb d_Co_isMask_14 (by decide) ?_
    have ef : (f_Co_isMask x_p0) = (0 : Int32) := (if_pos c_1).trans rfl
    exact W.zret (v := 0) hx hb hr rfl (fun t ht hW => ⟨by rw [ef], ht⟩) (fun _ h => by cases h) d_Co_isMask_15
  · refine lv_iload_n hx hb d_Co_isMask_4 rfl (lv_at hl 0 rfl) ?_
    refine lv_bipush (v := 15) hx hb d_Co_isMask_5 (by decide) ?_
    refine lv_icmp_gt (tgt := 14) hx hb d_Co_isMask_7 (by decide) (fun c_2 => ?_) (fun c_2 => ?_)
    · refine lv_iconst (v := 0) hx hb d_Co_isMask_14 (by decide) ?_
      have ef : (f_Co_isMask x_p0) = (0 : Int32) := (if_neg c_1).trans ((if_pos c_2).trans rfl)
      exact W.zret (v := 0) hx hb hr rfl (fun t ht hW => ⟨by rw [ef], ht⟩) (fun _ h => by cases h) d_Co_isMask_15
    · refine lv_iconst (v := 1) hx hb d_Co_isMask_10 (by decide) ?_
      refine lv_goto (tgt := 15) hx hb d_Co_isMask_11 (by decide) ?_
      have ef : (f_Co_isMask x_p0) = (1 : Int32) := (if_neg c_1).trans ((if_neg c_2).trans rfl)
      exact W.zret (v := 1) hx hb hr rfl (fun t ht hW => ⟨by rw [ef], ht⟩) (fun _ h => by cases h) d_Co_isMask_15
set_option maxHeartbeats 4000000 in
set_option maxRecDepth 100000 in
theorem ct_Co_end (l : Launch) (dC : Nat → ClassId) (dI : Nat → Nat → Nat) (cI : ClassId) (sz : Nat) (h0 a_program a_registers a_store a_waiting a_gone a_kernel a_known a_asked : Nat) (v_words : Int32) (v_outcome : Int32) (v_pc : Int32) (v_pcLabel : Int32) (v_done : Int32) (v_misses : Int32) (v_longMisses : Int32) (v_resultLabel : Int32) (v_nextLabel : Int32) (x_p0 : Int32) : Met l y_Co_end w_Co_end ({ frames := 0, cells := 0, slots := 0, locals := 0 }) (pcW dC dI cI [(h0, .inr (5, [.ref a_program, .ref a_registers, .ref a_store, .ref a_waiting, .ref a_gone, .ref a_kernel, .ref a_known, .ref a_asked, .int v_words, .int v_outcome, .int v_pc, .int v_pcLabel, .int v_done, .int v_misses, .int v_longMisses, .int v_resultLabel, .int v_nextLabel]))] sz [.ref h0, .int x_p0]) (va_Qi (fun (r : Int32) (_ : Unit) => r = 0) (fun _ t => atW dC dI cI [(h0, .inr (5, [.ref a_program, .ref a_registers, .ref a_store, .ref a_waiting, .ref a_gone, .ref a_kernel, .ref a_known, .ref a_asked, .int v_words, .int x_p0, .int v_pc, .int v_pcLabel, .int v_done, .int v_misses, .int v_longMisses, .int v_resultLabel, .int v_nextLabel]))] (va_A [(h0, .inr (5, [.ref a_program, .ref a_registers, .ref a_store, .ref a_waiting, .ref a_gone, .ref a_kernel, .ref a_known, .ref a_asked, .int v_words, .int v_outcome, .int v_pc, .int v_pcLabel, .int v_done, .int v_misses, .int v_longMisses, .int v_resultLabel, .int v_nextLabel]))] sz) t) (va_A [(h0, .inr (5, [.ref a_program, .ref a_registers, .ref a_store, .ref a_waiting, .ref a_gone, .ref a_kernel, .ref a_known, .ref a_asked, .int v_words, .int v_outcome, .int v_pc, .int v_pcLabel, .int v_done, .int v_misses, .int v_longMisses, .int v_resultLabel, .int v_nextLabel]))] sz)) 0 0 (va_A [(h0, .inr (5, [.ref a_program, .ref a_registers, .ref a_store, .ref a_waiting, .ref a_gone, .ref a_kernel, .ref a_known, .ref a_asked, .int v_words, .int v_outcome, .int v_pc, .int v_pcLabel, .int v_done, .int v_misses, .int v_longMisses, .int v_resultLabel, .int v_nextLabel]))] sz) := by
  refine Met.ofW (cc := c_Co_end) (maxL := 2) (ret := (some .boolean)) (by decide) rfl ?_
  intro p e s m args below meth c s₁ B hml hv
  obtain ⟨rfl, hsz, hP, hK, hD0⟩ := hv
  have hx := B.exec
  have hb := B.bytes
  have hr := B.returns
  have hts : ∀ w ∈ wG, w.before _ s = true := fun w h => atoms_spec (ws := w_Co_end) B.pre w (List.mem_cons_of_mem _ h)
  have hown : s.vm.findClass "LabelledCore" = some m.cls := findClass_of_methodNamed B.named
  have hlocks := B.notSynchronized
  subst hsz
  have hD := hD0.self (sz := s.heap.size)
  generalize hAe : va_A [(h0, .inr (5, [.ref a_program, .ref a_registers, .ref a_store, .ref a_waiting, .ref a_gone, .ref a_kernel, .ref a_known, .ref a_asked, .int v_words, .int v_outcome, .int v_pc, .int v_pcLabel, .int v_done, .int v_misses, .int v_longMisses, .int v_resultLabel, .int v_nextLabel]))] s.heap.size = A at hD ⊢
  have hA : ∀ q : Nat, s.heap.size ≤ q → A q := fun q h => by rw [← hAe]; exact Or.inr h
  have hS : va_S A s.heap s.heap [] := va_S.rf
  have hP : va_P (dC, dI) clsL [(h0, .inr (5, [.ref a_program, .ref a_registers, .ref a_store, .ref a_waiting, .ref a_gone, .ref a_kernel, .ref a_known, .ref a_asked, .int v_words, .int v_outcome, .int v_pc, .int v_pcLabel, .int v_done, .int v_misses, .int v_longMisses, .int v_resultLabel, .int v_nextLabel]))] s.heap := hP
  have hl := lv_entry ([.ref h0, .int x_p0]) (n := 2) (Nat.le_of_ble_eq_true rfl)
  rw [lg_entry_eq]
  generalize (lg_sl ([.ref h0, .int x_p0]) ++ List.replicate (2 - (lg_sl ([.ref h0, .int x_p0])).length) Slot.unset).toArray = ls at hl ⊢
  have hl : lv_has ls 2 [(0, .ref h0), (1, .int x_p0)] := hl
  refine lv_aload_n hx hb d_Co_end_0 rfl (lv_at hl 0 rfl) ?_
  refine lv_iload_n hx hb d_Co_end_1 rfl (lv_at hl 1 rfl) ?_
  refine va_put (D := (dC, dI)) (ci := 5) (v := .int x_p0) (ty := .int) (C := "LabelledCore") (T := T_Co) (N := 17) hx hb hts in_Co t_Co ty_Co nm_Co hown hK hP hD hS 0 rfl rfl 9 (by decide) (hts _ wm_208) (fun _ h9 => h9) rfl (by decide +kernel) rfl rfl (Nat.le_of_ble_eq_true rfl) d_Co_end_2 (fun H locs hP hD hS => ?_)
  have hP : va_P (dC, dI) clsL [(h0, .inr (5, [.ref a_program, .ref a_registers, .ref a_store, .ref a_waiting, .ref a_gone, .ref a_kernel, .ref a_known, .ref a_asked, .int v_words, .int x_p0, .int v_pc, .int v_pcLabel, .int v_done, .int v_misses, .int v_longMisses, .int v_resultLabel, .int v_nextLabel]))] H := hP
  have hD : va_D A [(h0, .inr (5, [.ref a_program, .ref a_registers, .ref a_store, .ref a_waiting, .ref a_gone, .ref a_kernel, .ref a_known, .ref a_asked, .int v_words, .int x_p0, .int v_pc, .int v_pcLabel, .int v_done, .int v_misses, .int v_longMisses, .int v_resultLabel, .int v_nextLabel]))] := hD
  refine lv_iconst (v := 0) hx hb d_Co_end_5 (by decide) ?_
  have hP9 := hP.sub (ws' := [(h0, .inr (5, [.ref a_program, .ref a_registers, .ref a_store, .ref a_waiting, .ref a_gone, .ref a_kernel, .ref a_known, .ref a_asked, .int v_words, .int x_p0, .int v_pc, .int v_pcLabel, .int v_done, .int v_misses, .int v_longMisses, .int v_resultLabel, .int v_nextLabel]))]) [0] rfl
  have hD9 := hD.sub (ws' := [(h0, .inr (5, [.ref a_program, .ref a_registers, .ref a_store, .ref a_waiting, .ref a_gone, .ref a_kernel, .ref a_known, .ref a_asked, .int v_words, .int x_p0, .int v_pc, .int v_pcLabel, .int v_done, .int v_misses, .int v_longMisses, .int v_resultLabel, .int v_nextLabel]))]) [0] (by decide) rfl
  exact W.zret (v := 0) hx hb hr rfl (fun t ht hW => ⟨⟨0, (), rfl, rfl, by rw [ht]; exact hP9, va_K.moved hW.alike hK, hD9⟩, hS.F ht⟩) hS.2.2 d_Co_end_6
def f_Co_addressOf (g_registers_numbers : Nat → Int32) (x_p0 : Int32) (x_p1 : Int32) : Int32 :=
  if x_p1 = 1 then
    ((g_registers_numbers (Int32.toNatClampNeg (f_Cd_fieldA x_p0))) + (f_Cd_immediate x_p0))
  else
    ((g_registers_numbers (Int32.toNatClampNeg (f_Cd_fieldA x_p0))) + (f_Cd_storeOffset x_p0))
set_option maxHeartbeats 4000000 in
set_option maxRecDepth 100000 in
theorem ct_Co_addressOf (l : Launch) (dC : Nat → ClassId) (dI : Nat → Nat → Nat) (cI : ClassId) (h0 a_program a_registers a_store a_waiting a_gone a_kernel a_known a_asked a_registers_numbers a_registers_labels : Nat) (v_words : Int32) (v_outcome : Int32) (v_pc : Int32) (v_pcLabel : Int32) (v_done : Int32) (v_misses : Int32) (v_longMisses : Int32) (v_resultLabel : Int32) (v_nextLabel : Int32) (g_registers_numbers : Nat → Int32) (x_p0 : Int32) (x_p1 : Int32) : Met l y_Co_addressOf w_Co_addressOf ({ frames := 2, cells := 0, slots := 0, locals := 40 }) (pcR dC dI cI [(h0, .inr (5, [.ref a_program, .ref a_registers, .ref a_store, .ref a_waiting, .ref a_gone, .ref a_kernel, .ref a_known, .ref a_asked, .int v_words, .int v_outcome, .int v_pc, .int v_pcLabel, .int v_done, .int v_misses, .int v_longMisses, .int v_resultLabel, .int v_nextLabel])), (a_registers, .inr (0, [.ref a_registers_numbers, .ref a_registers_labels])), (a_registers_numbers, .inl (cI, 32, .inl g_registers_numbers))] [.ref h0, .int x_p0, .int x_p1]) (QcRead (f_Co_addressOf g_registers_numbers x_p0 x_p1)) 0 0 (fun _ => False) := by
  refine Met.ofW (cc := c_Co_addressOf) (maxL := 4) (ret := (some .int)) (by decide) rfl ?_
  intro p e s m args below meth c s₁ B hml hv
  obtain ⟨rfl, hP, hK⟩ := hv
  have hx := B.exec
  have hb := B.bytes
  have hr := B.returns
  have hts : ∀ w ∈ wG, w.before _ s = true := fun w h => atoms_spec (ws := w_Co_addressOf) B.pre w (List.mem_cons_of_mem _ h)
  have hown : s.vm.findClass "LabelledCore" = some m.cls := findClass_of_methodNamed B.named
  have hlocks := B.notSynchronized
  have hl := lv_entry ([.ref h0, .int x_p0, .int x_p1]) (n := 4) (Nat.le_of_ble_eq_true rfl)
  rw [lg_entry_eq]
  generalize (lg_sl ([.ref h0, .int x_p0, .int x_p1]) ++ List.replicate (4 - (lg_sl ([.ref h0, .int x_p0, .int x_p1])).length) Slot.unset).toArray = ls at hl ⊢
  have hl : lv_has ls 4 [(0, .ref h0), (1, .int x_p0), (2, .int x_p1)] := hl
  refine lv_iload_n hx hb d_Co_addressOf_0 rfl (lv_at hl 2 rfl) ?_
  refine lv_iconst (v := 1) hx hb d_Co_addressOf_1 (by decide) ?_
  refine lv_icmp_ne (tgt := 12) hx hb d_Co_addressOf_2 (by decide) (fun c_1 => ?_) (fun c_1 => ?_)
  · refine lv_iload_n hx hb d_Co_addressOf_12 rfl (lv_at hl 1 rfl) ?_
    have hPc := hP.sub (ws' := []) [] rfl
    refine W.callR ((W.runS (As := [.int x_p0]) (rest := []) ⟨hx, hb, hml, hown, hts⟩ (ct_Cd_storeOffset l dC dI cI x_p0) (va_cwS 1 hts (gS wm_457 wm_458 wm_48 wm_459) rfl rfl rfl (by decide +kernel) ⟨Nat.le_of_ble_eq_true rfl, Nat.le_of_ble_eq_true rfl⟩) ⟨pcR_blind, pcR_pre hPc hK⟩ rfl rfl hl.1 rfl (lv_room (Nat.le_of_ble_eq_true rfl)) d_Co_addressOf_13 ⟨Nat.le_of_ble_eq_true rfl, Nat.le_of_ble_eq_true rfl⟩)) ?_
    refine W.eq (g2 := F0 m 16 ls [.int (f_Cd_storeOffset x_p0)]) rfl ?_
    refine lv_istore_n (lv' := [(3, .int (f_Cd_storeOffset x_p0)), (0, .ref h0), (1, .int x_p0), (2, .int x_p1)]) hx hb d_Co_addressOf_16 rfl hl (by decide) rfl (fun ls hl => ?_)
    refine lv_aload_n hx hb d_Co_addressOf_17 rfl (lv_at hl 1 rfl) ?_
    refine va_get (D := (dC, dI)) (ci := 5) (v := .ref a_registers) (C := "LabelledCore") (T := T_Co) (N := 17) hx hb hts in_Co hown hK hP 0 rfl rfl 1 (by decide) (hts _ wm_200) (fun _ h9 => h9) rfl d_Co_addressOf_18 ?_
    refine lv_iload_n hx hb d_Co_addressOf_21 rfl (lv_at hl 2 rfl) ?_
    have hPc := hP.sub (ws' := []) [] rfl
    refine W.callR ((W.runS (As := [.int x_p0]) (rest := [.ref a_registers]) ⟨hx, hb, hml, hown, hts⟩ (ct_Cd_fieldA l dC dI cI x_p0) (va_cwS 1 hts (gS wm_463 wm_464 wm_48 wm_465) rfl rfl rfl (by decide +kernel) ⟨Nat.le_of_ble_eq_true rfl, Nat.le_of_ble_eq_true rfl⟩) ⟨pcR_blind, pcR_pre hPc hK⟩ rfl rfl hl.1 rfl (lv_room (Nat.le_of_ble_eq_true rfl)) d_Co_addressOf_22 ⟨Nat.le_of_ble_eq_true rfl, Nat.le_of_ble_eq_true rfl⟩)) ?_
    refine W.eq (g2 := F0 m 25 ls [.int (f_Cd_fieldA x_p0), .ref a_registers]) rfl ?_
    have hPc := hP.sub (ws' := [(a_registers, .inr (0, [.ref a_registers_numbers, .ref a_registers_labels])), (a_registers_numbers, .inl (cI, 32, .inl g_registers_numbers))]) [1, 2] rfl
    refine W.callR ((W.runV (As := [.int (f_Cd_fieldA x_p0)]) (rest := []) ⟨hx, hb, hml, hown, hts⟩ (ct_Ba_number l dC dI cI a_registers a_registers_numbers a_registers_labels 32 g_registers_numbers (f_Cd_fieldA x_p0) (in_Cd_fieldA _)) (cwV 1 hts (gV wm_466 wm_467 wm_468 wm_37 wm_469) rfl rfl rfl (by decide +kernel) ⟨Nat.le_of_ble_eq_true rfl, Nat.le_of_ble_eq_true rfl⟩) ⟨pcR_blind, va_recv hK hPc (ci := 0) (q0 := 0) rfl rfl, pcR_pre hPc hK⟩ rfl rfl hl.1 rfl (lv_room (Nat.le_of_ble_eq_true rfl)) d_Co_addressOf_25 ⟨Nat.le_of_ble_eq_true rfl, Nat.le_of_ble_eq_true rfl⟩)) ?_
    refine W.eq (g2 := F0 m 28 ls [.int (g_registers_numbers (Int32.toNatClampNeg (f_Cd_fieldA x_p0)))]) rfl ?_
    refine lv_iload_n hx hb d_Co_addressOf_28 rfl (lv_at hl 0 rfl) ?_
    refine lv_iadd hx hb d_Co_addressOf_29 ?_
    have ef : (f_Co_addressOf g_registers_numbers x_p0 x_p1) = (((g_registers_numbers (Int32.toNatClampNeg (f_Cd_fieldA x_p0))) + (f_Cd_storeOffset x_p0)) : Int32) := (if_neg c_1).trans rfl
    exact W.iret (v := ((g_registers_numbers (Int32.toNatClampNeg (f_Cd_fieldA x_p0))) + (f_Cd_storeOffset x_p0))) hx hb hr (fun t ht hW => ⟨by rw [ef], ht⟩) (fun _ h => by cases h) d_Co_addressOf_30
  · refine lv_iload_n hx hb d_Co_addressOf_5 rfl (lv_at hl 1 rfl) ?_
    have hPc := hP.sub (ws' := []) [] rfl
    refine W.callR ((W.runS (As := [.int x_p0]) (rest := []) ⟨hx, hb, hml, hown, hts⟩ (ct_Cd_immediate l dC dI cI x_p0) (va_cwS 1 hts (gS wm_454 wm_455 wm_48 wm_456) rfl rfl rfl (by decide +kernel) ⟨Nat.le_of_ble_eq_true rfl, Nat.le_of_ble_eq_true rfl⟩) ⟨pcR_blind, pcR_pre hPc hK⟩ rfl rfl hl.1 rfl (lv_room (Nat.le_of_ble_eq_true rfl)) d_Co_addressOf_6 ⟨Nat.le_of_ble_eq_true rfl, Nat.le_of_ble_eq_true rfl⟩)) ?_
    refine W.eq (g2 := F0 m 9 ls [.int (f_Cd_immediate x_p0)]) rfl ?_
    refine lv_goto (tgt := 16) hx hb d_Co_addressOf_9 (by decide) ?_
    refine lv_istore_n (lv' := [(3, .int (f_Cd_immediate x_p0)), (0, .ref h0), (1, .int x_p0), (2, .int x_p1)]) hx hb d_Co_addressOf_16 rfl hl (by decide) rfl (fun ls hl => ?_)
    refine lv_aload_n hx hb d_Co_addressOf_17 rfl (lv_at hl 1 rfl) ?_
    refine va_get (D := (dC, dI)) (ci := 5) (v := .ref a_registers) (C := "LabelledCore") (T := T_Co) (N := 17) hx hb hts in_Co hown hK hP 0 rfl rfl 1 (by decide) (hts _ wm_200) (fun _ h9 => h9) rfl d_Co_addressOf_18 ?_
    refine lv_iload_n hx hb d_Co_addressOf_21 rfl (lv_at hl 2 rfl) ?_
    have hPc := hP.sub (ws' := []) [] rfl
    refine W.callR ((W.runS (As := [.int x_p0]) (rest := [.ref a_registers]) ⟨hx, hb, hml, hown, hts⟩ (ct_Cd_fieldA l dC dI cI x_p0) (va_cwS 1 hts (gS wm_463 wm_464 wm_48 wm_465) rfl rfl rfl (by decide +kernel) ⟨Nat.le_of_ble_eq_true rfl, Nat.le_of_ble_eq_true rfl⟩) ⟨pcR_blind, pcR_pre hPc hK⟩ rfl rfl hl.1 rfl (lv_room (Nat.le_of_ble_eq_true rfl)) d_Co_addressOf_22 ⟨Nat.le_of_ble_eq_true rfl, Nat.le_of_ble_eq_true rfl⟩)) ?_
    refine W.eq (g2 := F0 m 25 ls [.int (f_Cd_fieldA x_p0), .ref a_registers]) rfl ?_
    have hPc := hP.sub (ws' := [(a_registers, .inr (0, [.ref a_registers_numbers, .ref a_registers_labels])), (a_registers_numbers, .inl (cI, 32, .inl g_registers_numbers))]) [1, 2] rfl
    refine W.callR ((W.runV (As := [.int (f_Cd_fieldA x_p0)]) (rest := []) ⟨hx, hb, hml, hown, hts⟩ (ct_Ba_number l dC dI cI a_registers a_registers_numbers a_registers_labels 32 g_registers_numbers (f_Cd_fieldA x_p0) (in_Cd_fieldA _)) (cwV 1 hts (gV wm_466 wm_467 wm_468 wm_37 wm_469) rfl rfl rfl (by decide +kernel) ⟨Nat.le_of_ble_eq_true rfl, Nat.le_of_ble_eq_true rfl⟩) ⟨pcR_blind, va_recv hK hPc (ci := 0) (q0 := 0) rfl rfl, pcR_pre hPc hK⟩ rfl rfl hl.1 rfl (lv_room (Nat.le_of_ble_eq_true rfl)) d_Co_addressOf_25 ⟨Nat.le_of_ble_eq_true rfl, Nat.le_of_ble_eq_true rfl⟩)) ?_
    refine W.eq (g2 := F0 m 28 ls [.int (g_registers_numbers (Int32.toNatClampNeg (f_Cd_fieldA x_p0)))]) rfl ?_
    refine lv_iload_n hx hb d_Co_addressOf_28 rfl (lv_at hl 0 rfl) ?_
    refine lv_iadd hx hb d_Co_addressOf_29 ?_
    have ef : (f_Co_addressOf g_registers_numbers x_p0 x_p1) = (((g_registers_numbers (Int32.toNatClampNeg (f_Cd_fieldA x_p0))) + (f_Cd_immediate x_p0)) : Int32) := (if_pos c_1).trans rfl
    exact W.iret (v := ((g_registers_numbers (Int32.toNatClampNeg (f_Cd_fieldA x_p0))) + (f_Cd_immediate x_p0))) hx hb hr (fun t ht hW => ⟨by rw [ef], ht⟩) (fun _ h => by cases h) d_Co_addressOf_30
def f_Co_liesInMemory (x_p0 : Int32) (x_p1 : Int32) : Int32 :=
  if x_p0 < 4096 then
    0
  else
    if 4352 ≤ x_p0 then
      0
    else
      if x_p1 = 0 then
        1
      else
        if (x_p0 &&& 3) = 0 then
          1
        else
          0
set_option maxHeartbeats 4000000 in
set_option maxRecDepth 100000 in
theorem ct_Co_liesInMemory (l : Launch) (dC : Nat → ClassId) (dI : Nat → Nat → Nat) (cI : ClassId) (x_p0 : Int32) (x_p1 : Int32) : Met l y_Co_liesInMemory w_Co_liesInMemory ({ frames := 0, cells := 0, slots := 0, locals := 0 }) (pcR dC dI cI [] [.int x_p0, .int x_p1]) (QcRead (f_Co_liesInMemory x_p0 x_p1)) 0 0 (fun _ => False) := by
  refine Met.ofW (cc := c_Co_liesInMemory) (maxL := 3) (ret := (some .boolean)) (by decide) rfl ?_
  intro p e s m args below meth c s₁ B hml hv
  obtain ⟨rfl, hP, hK⟩ := hv
  have hx := B.exec
  have hb := B.bytes
  have hr := B.returns
  have hts : ∀ w ∈ wG, w.before _ s = true := fun w h => atoms_spec (ws := w_Co_liesInMemory) B.pre w (List.mem_cons_of_mem _ h)
  have hown : s.vm.findClass "LabelledCore" = some m.cls := findClass_of_methodNamed B.named
  have hlocks := B.notSynchronized
  have hl := lv_entry ([.int x_p0, .int x_p1]) (n := 3) (Nat.le_of_ble_eq_true rfl)
  rw [lg_entry_eq]
  generalize (lg_sl ([.int x_p0, .int x_p1]) ++ List.replicate (3 - (lg_sl ([.int x_p0, .int x_p1])).length) Slot.unset).toArray = ls at hl ⊢
  have hl : lv_has ls 3 [(0, .int x_p0), (1, .int x_p1)] := hl
  refine lv_iload_n hx hb d_Co_liesInMemory_0 rfl (lv_at hl 0 rfl) ?_
  refine lv_sipush (v := 4096) hx hb d_Co_liesInMemory_1 (by decide) ?_
  refine lv_icmp_lt (tgt := 18) hx hb d_Co_liesInMemory_4 (by decide) (fun c_1 => ?_) (fun c_1 => ?_)
  · refine lv_iconst (v := 0) hx hb d_Co_liesInMemory_18 (by decide) ?_
    refine lv_istore_n (lv' := [(2, .int 0), (0, .int x_p0), (1, .int x_p1)]) hx hb d_Co_liesInMemory_19 rfl hl (by decide) rfl (fun ls hl => ?_)
    refine lv_iload_n hx hb d_Co_liesInMemory_20 rfl (lv_at hl 0 rfl) ?_
    refine lv_if_eq (tgt := 38) hx hb d_Co_liesInMemory_21 (by decide) (fun c_2 => ?_) (fun c_2 => absurd (by decide) c_2)
    refine lv_iconst (v := 0) hx hb d_Co_liesInMemory_38 (by decide) ?_
    have ef : (f_Co_liesInMemory x_p0 x_p1) = (0 : Int32) := (if_pos c_1).trans rfl
    exact W.zret (v := 0) hx hb hr rfl (fun t ht hW => ⟨by rw [ef], ht⟩) (fun _ h => by cases h) d_Co_liesInMemory_39
  · refine lv_iload_n hx hb d_Co_liesInMemory_7 rfl (lv_at hl 0 rfl) ?_
    refine lv_sipush (v := 4352) hx hb d_Co_liesInMemory_8 (by decide) ?_
    refine lv_icmp_ge (tgt := 18) hx hb d_Co_liesInMemory_11 (by decide) (fun c_3 => ?_) (fun c_3 => ?_)
    · refine lv_iconst (v := 0) hx hb d_Co_liesInMemory_18 (by decide) ?_
      refine lv_istore_n (lv' := [(2, .int 0), (0, .int x_p0), (1, .int x_p1)]) hx hb d_Co_liesInMemory_19 rfl hl (by decide) rfl (fun ls hl => ?_)
      refine lv_iload_n hx hb d_Co_liesInMemory_20 rfl (lv_at hl 0 rfl) ?_
      refine lv_if_eq (tgt := 38) hx hb d_Co_liesInMemory_21 (by decide) (fun c_4 => ?_) (fun c_4 => absurd (by decide) c_4)
      refine lv_iconst (v := 0) hx hb d_Co_liesInMemory_38 (by decide) ?_
      have ef : (f_Co_liesInMemory x_p0 x_p1) = (0 : Int32) := (if_neg c_1).trans ((if_pos c_3).trans rfl)
      exact W.zret (v := 0) hx hb hr rfl (fun t ht hW => ⟨by rw [ef], ht⟩) (fun _ h => by cases h) d_Co_liesInMemory_39
    · refine lv_iconst (v := 1) hx hb d_Co_liesInMemory_14 (by decide) ?_
      refine lv_goto (tgt := 19) hx hb d_Co_liesInMemory_15 (by decide) ?_
      refine lv_istore_n (lv' := [(2, .int 1), (0, .int x_p0), (1, .int x_p1)]) hx hb d_Co_liesInMemory_19 rfl hl (by decide) rfl (fun ls hl => ?_)
      refine lv_iload_n hx hb d_Co_liesInMemory_20 rfl (lv_at hl 0 rfl) ?_
      refine lv_if_eq (tgt := 38) hx hb d_Co_liesInMemory_21 (by decide) (fun c_5 => absurd c_5 (by decide)) (fun c_5 => ?_)
      refine lv_iload_n hx hb d_Co_liesInMemory_24 rfl (lv_at hl 2 rfl) ?_
      refine lv_if_eq (tgt := 34) hx hb d_Co_liesInMemory_25 (by decide) (fun c_6 => ?_) (fun c_6 => ?_)
      · refine lv_iconst (v := 1) hx hb d_Co_liesInMemory_34 (by decide) ?_
        refine lv_goto (tgt := 39) hx hb d_Co_liesInMemory_35 (by decide) ?_
        have ef : (f_Co_liesInMemory x_p0 x_p1) = (1 : Int32) := (if_neg c_1).trans ((if_neg c_3).trans ((if_pos c_6).trans rfl))
        exact W.zret (v := 1) hx hb hr rfl (fun t ht hW => ⟨by rw [ef], ht⟩) (fun _ h => by cases h) d_Co_liesInMemory_39
      · refine lv_iload_n hx hb d_Co_liesInMemory_28 rfl (lv_at hl 1 rfl) ?_
        refine lv_iconst (v := 3) hx hb d_Co_liesInMemory_29 (by decide) ?_
        refine lv_iand hx hb d_Co_liesInMemory_30 ?_
        refine lv_if_ne (tgt := 38) hx hb d_Co_liesInMemory_31 (by decide) (fun c_7 => ?_) (fun c_7 => ?_)
        · refine lv_iconst (v := 0) hx hb d_Co_liesInMemory_38 (by decide) ?_
          have ef : (f_Co_liesInMemory x_p0 x_p1) = (0 : Int32) := (if_neg c_1).trans ((if_neg c_3).trans ((if_neg c_6).trans ((if_neg c_7).trans rfl)))
          exact W.zret (v := 0) hx hb hr rfl (fun t ht hW => ⟨by rw [ef], ht⟩) (fun _ h => by cases h) d_Co_liesInMemory_39
        · refine lv_iconst (v := 1) hx hb d_Co_liesInMemory_34 (by decide) ?_
          refine lv_goto (tgt := 39) hx hb d_Co_liesInMemory_35 (by decide) ?_
          have ef : (f_Co_liesInMemory x_p0 x_p1) = (1 : Int32) := (if_neg c_1).trans ((if_neg c_3).trans ((if_neg c_6).trans ((if_pos c_7).trans rfl)))
          exact W.zret (v := 1) hx hb hr rfl (fun t ht hW => ⟨by rw [ef], ht⟩) (fun _ h => by cases h) d_Co_liesInMemory_39
def f_Co_placeOf (x_p0 : Int32) : Int32 :=
  ((x_p0 - 4096) >>> (2 &&& 31))
set_option maxHeartbeats 4000000 in
set_option maxRecDepth 100000 in
theorem ct_Co_placeOf (l : Launch) (dC : Nat → ClassId) (dI : Nat → Nat → Nat) (cI : ClassId) (x_p0 : Int32) : Met l y_Co_placeOf w_Co_placeOf ({ frames := 0, cells := 0, slots := 0, locals := 0 }) (pcR dC dI cI [] [.int x_p0]) (QcRead (f_Co_placeOf x_p0)) 0 0 (fun _ => False) := by
  refine Met.ofW (cc := c_Co_placeOf) (maxL := 1) (ret := (some .int)) (by decide) rfl ?_
  intro p e s m args below meth c s₁ B hml hv
  obtain ⟨rfl, hP, hK⟩ := hv
  have hx := B.exec
  have hb := B.bytes
  have hr := B.returns
  have hts : ∀ w ∈ wG, w.before _ s = true := fun w h => atoms_spec (ws := w_Co_placeOf) B.pre w (List.mem_cons_of_mem _ h)
  have hown : s.vm.findClass "LabelledCore" = some m.cls := findClass_of_methodNamed B.named
  have hlocks := B.notSynchronized
  have hl := lv_entry ([.int x_p0]) (n := 1) (Nat.le_of_ble_eq_true rfl)
  rw [lg_entry_eq]
  generalize (lg_sl ([.int x_p0]) ++ List.replicate (1 - (lg_sl ([.int x_p0])).length) Slot.unset).toArray = ls at hl ⊢
  have hl : lv_has ls 1 [(0, .int x_p0)] := hl
  refine lv_iload_n hx hb d_Co_placeOf_0 rfl (lv_at hl 0 rfl) ?_
  refine lv_sipush (v := 4096) hx hb d_Co_placeOf_1 (by decide) ?_
  refine lv_isub hx hb d_Co_placeOf_4 ?_
  refine lv_iconst (v := 2) hx hb d_Co_placeOf_5 (by decide) ?_
  refine lv_ishr hx hb d_Co_placeOf_6 ?_
  have ef : (f_Co_placeOf x_p0) = (((x_p0 - 4096) >>> (2 &&& 31)) : Int32) := rfl
  exact W.iret (v := ((x_p0 - 4096) >>> (2 &&& 31))) hx hb hr (fun t ht hW => ⟨by rw [ef], ht⟩) (fun _ h => by cases h) d_Co_placeOf_7
def f_Co_mustWait (v_waiting_count : Int32) (v_gone_room : Int32) (v_gone_count : Int32) (x_p0 : Int32) : Int32 :=
  if x_p0 = 7 then
    if (f_Li_isFull v_gone_room v_gone_count) = 0 then
      if x_p0 = 8 then
        if v_waiting_count = 0 then
          1
        else
          0
      else
        0
    else
      1
  else
    if x_p0 = 8 then
      if v_waiting_count = 0 then
        1
      else
        0
    else
      0
set_option maxHeartbeats 4000000 in
set_option maxRecDepth 100000 in
theorem ct_Co_mustWait (l : Launch) (dC : Nat → ClassId) (dI : Nat → Nat → Nat) (cI : ClassId) (h0 a_program a_registers a_store a_waiting a_gone a_kernel a_known a_asked a_waiting_held a_gone_held : Nat) (v_words : Int32) (v_outcome : Int32) (v_pc : Int32) (v_pcLabel : Int32) (v_done : Int32) (v_misses : Int32) (v_longMisses : Int32) (v_resultLabel : Int32) (v_nextLabel : Int32) (v_waiting_room : Int32) (v_waiting_first : Int32) (v_waiting_count : Int32) (v_gone_room : Int32) (v_gone_first : Int32) (v_gone_count : Int32) (x_p0 : Int32) : Met l y_Co_mustWait w_Co_mustWait ({ frames := 1, cells := 0, slots := 0, locals := 20 }) (pcR dC dI cI [(h0, .inr (5, [.ref a_program, .ref a_registers, .ref a_store, .ref a_waiting, .ref a_gone, .ref a_kernel, .ref a_known, .ref a_asked, .int v_words, .int v_outcome, .int v_pc, .int v_pcLabel, .int v_done, .int v_misses, .int v_longMisses, .int v_resultLabel, .int v_nextLabel])), (a_waiting, .inr (4, [.ref a_waiting_held, .int v_waiting_room, .int v_waiting_first, .int v_waiting_count])), (a_gone, .inr (4, [.ref a_gone_held, .int v_gone_room, .int v_gone_first, .int v_gone_count]))] [.ref h0, .int x_p0]) (QcRead (f_Co_mustWait v_waiting_count v_gone_room v_gone_count x_p0)) 0 0 (fun _ => False) := by
  refine Met.ofW (cc := c_Co_mustWait) (maxL := 2) (ret := (some .boolean)) (by decide) rfl ?_
  intro p e s m args below meth c s₁ B hml hv
  obtain ⟨rfl, hP, hK⟩ := hv
  have hx := B.exec
  have hb := B.bytes
  have hr := B.returns
  have hts : ∀ w ∈ wG, w.before _ s = true := fun w h => atoms_spec (ws := w_Co_mustWait) B.pre w (List.mem_cons_of_mem _ h)
  have hown : s.vm.findClass "LabelledCore" = some m.cls := findClass_of_methodNamed B.named
  have hlocks := B.notSynchronized
  have hl := lv_entry ([.ref h0, .int x_p0]) (n := 2) (Nat.le_of_ble_eq_true rfl)
  rw [lg_entry_eq]
  generalize (lg_sl ([.ref h0, .int x_p0]) ++ List.replicate (2 - (lg_sl ([.ref h0, .int x_p0])).length) Slot.unset).toArray = ls at hl ⊢
  have hl : lv_has ls 2 [(0, .ref h0), (1, .int x_p0)] := hl
  refine lv_iload_n hx hb d_Co_mustWait_0 rfl (lv_at hl 1 rfl) ?_
  refine lv_bipush (v := 7) hx hb d_Co_mustWait_1 (by decide) ?_
  refine lv_icmp_ne (tgt := 16) hx hb d_Co_mustWait_3 (by decide) (fun c_1 => ?_) (fun c_1 => ?_)
  · refine lv_iload_n hx hb d_Co_mustWait_16 rfl (lv_at hl 1 rfl) ?_
    refine lv_bipush (v := 8) hx hb d_Co_mustWait_17 (by decide) ?_
    refine lv_icmp_ne (tgt := 36) hx hb d_Co_mustWait_19 (by decide) (fun c_2 => ?_) (fun c_2 => ?_)
    · refine lv_iconst (v := 0) hx hb d_Co_mustWait_36 (by decide) ?_
      have ef : (f_Co_mustWait v_waiting_count v_gone_room v_gone_count x_p0) = (0 : Int32) := (if_neg c_1).trans ((if_neg c_2).trans rfl)
      exact W.zret (v := 0) hx hb hr rfl (fun t ht hW => ⟨by rw [ef], ht⟩) (fun _ h => by cases h) d_Co_mustWait_37
    · refine lv_aload_n hx hb d_Co_mustWait_22 rfl (lv_at hl 0 rfl) ?_
      refine va_get (D := (dC, dI)) (ci := 5) (v := .ref a_waiting) (C := "LabelledCore") (T := T_Co) (N := 17) hx hb hts in_Co hown hK hP 0 rfl rfl 3 (by decide) (hts _ wm_202) (fun _ h9 => h9) rfl d_Co_mustWait_23 ?_
      have hPc := hP.sub (ws' := [(a_waiting, .inr (4, [.ref a_waiting_held, .int v_waiting_room, .int v_waiting_first, .int v_waiting_count]))]) [1] rfl
      refine W.callR ((W.runV (As := []) (rest := []) ⟨hx, hb, hml, hown, hts⟩ (ct_Li_size l dC dI cI a_waiting a_waiting_held v_waiting_room v_waiting_first v_waiting_count) (cwV 0 hts (gV wm_302 wm_303 wm_304 wm_38 wm_305) rfl rfl rfl (by decide +kernel) ⟨Nat.le_of_ble_eq_true rfl, Nat.le_of_ble_eq_true rfl⟩) ⟨pcR_blind, va_recv hK hPc (ci := 4) (q0 := 0) rfl rfl, pcR_pre hPc hK⟩ rfl rfl hl.1 rfl (lv_room (Nat.le_of_ble_eq_true rfl)) d_Co_mustWait_26 ⟨Nat.le_of_ble_eq_true rfl, Nat.le_of_ble_eq_true rfl⟩)) ?_
      refine W.eq (g2 := F0 m 29 ls [.int v_waiting_count]) rfl ?_
      refine lv_if_ne (tgt := 36) hx hb d_Co_mustWait_29 (by decide) (fun c_3 => ?_) (fun c_3 => ?_)
      · refine lv_iconst (v := 0) hx hb d_Co_mustWait_36 (by decide) ?_
        have ef : (f_Co_mustWait v_waiting_count v_gone_room v_gone_count x_p0) = (0 : Int32) := (if_neg c_1).trans ((if_pos c_2).trans ((if_neg c_3).trans rfl))
        exact W.zret (v := 0) hx hb hr rfl (fun t ht hW => ⟨by rw [ef], ht⟩) (fun _ h => by cases h) d_Co_mustWait_37
      · refine lv_iconst (v := 1) hx hb d_Co_mustWait_32 (by decide) ?_
        refine lv_goto (tgt := 37) hx hb d_Co_mustWait_33 (by decide) ?_
        have ef : (f_Co_mustWait v_waiting_count v_gone_room v_gone_count x_p0) = (1 : Int32) := (if_neg c_1).trans ((if_pos c_2).trans ((if_pos c_3).trans rfl))
        exact W.zret (v := 1) hx hb hr rfl (fun t ht hW => ⟨by rw [ef], ht⟩) (fun _ h => by cases h) d_Co_mustWait_37
  · refine lv_aload_n hx hb d_Co_mustWait_6 rfl (lv_at hl 0 rfl) ?_
    refine va_get (D := (dC, dI)) (ci := 5) (v := .ref a_gone) (C := "LabelledCore") (T := T_Co) (N := 17) hx hb hts in_Co hown hK hP 0 rfl rfl 4 (by decide) (hts _ wm_203) (fun _ h9 => h9) rfl d_Co_mustWait_7 ?_
    have hPc := hP.sub (ws' := [(a_gone, .inr (4, [.ref a_gone_held, .int v_gone_room, .int v_gone_first, .int v_gone_count]))]) [2] rfl
    refine W.callR ((W.runV (As := []) (rest := []) ⟨hx, hb, hml, hown, hts⟩ (ct_Li_isFull l dC dI cI a_gone a_gone_held v_gone_room v_gone_first v_gone_count) (cwV 0 hts (gV wm_286 wm_287 wm_288 wm_38 wm_289) rfl rfl rfl (by decide +kernel) ⟨Nat.le_of_ble_eq_true rfl, Nat.le_of_ble_eq_true rfl⟩) ⟨pcR_blind, va_recv hK hPc (ci := 4) (q0 := 0) rfl rfl, pcR_pre hPc hK⟩ rfl rfl hl.1 rfl (lv_room (Nat.le_of_ble_eq_true rfl)) d_Co_mustWait_10 ⟨Nat.le_of_ble_eq_true rfl, Nat.le_of_ble_eq_true rfl⟩)) ?_
    refine W.eq (g2 := F0 m 13 ls [.int (f_Li_isFull v_gone_room v_gone_count)]) rfl ?_
    refine lv_if_ne (tgt := 32) hx hb d_Co_mustWait_13 (by decide) (fun c_4 => ?_) (fun c_4 => ?_)
    · refine lv_iconst (v := 1) hx hb d_Co_mustWait_32 (by decide) ?_
      refine lv_goto (tgt := 37) hx hb d_Co_mustWait_33 (by decide) ?_
      have ef : (f_Co_mustWait v_waiting_count v_gone_room v_gone_count x_p0) = (1 : Int32) := (if_pos c_1).trans ((if_neg c_4).trans rfl)
      exact W.zret (v := 1) hx hb hr rfl (fun t ht hW => ⟨by rw [ef], ht⟩) (fun _ h => by cases h) d_Co_mustWait_37
    · refine lv_iload_n hx hb d_Co_mustWait_16 rfl (lv_at hl 1 rfl) ?_
      refine lv_bipush (v := 8) hx hb d_Co_mustWait_17 (by decide) ?_
      refine lv_icmp_ne (tgt := 36) hx hb d_Co_mustWait_19 (by decide) (fun c_5 => ?_) (fun c_5 => ?_)
      · refine lv_iconst (v := 0) hx hb d_Co_mustWait_36 (by decide) ?_
        have ef : (f_Co_mustWait v_waiting_count v_gone_room v_gone_count x_p0) = (0 : Int32) := (if_pos c_1).trans ((if_pos c_4).trans ((if_neg c_5).trans rfl))
        exact W.zret (v := 0) hx hb hr rfl (fun t ht hW => ⟨by rw [ef], ht⟩) (fun _ h => by cases h) d_Co_mustWait_37
      · refine lv_aload_n hx hb d_Co_mustWait_22 rfl (lv_at hl 0 rfl) ?_
        refine va_get (D := (dC, dI)) (ci := 5) (v := .ref a_waiting) (C := "LabelledCore") (T := T_Co) (N := 17) hx hb hts in_Co hown hK hP 0 rfl rfl 3 (by decide) (hts _ wm_202) (fun _ h9 => h9) rfl d_Co_mustWait_23 ?_
        have hPc := hP.sub (ws' := [(a_waiting, .inr (4, [.ref a_waiting_held, .int v_waiting_room, .int v_waiting_first, .int v_waiting_count]))]) [1] rfl
        refine W.callR ((W.runV (As := []) (rest := []) ⟨hx, hb, hml, hown, hts⟩ (ct_Li_size l dC dI cI a_waiting a_waiting_held v_waiting_room v_waiting_first v_waiting_count) (cwV 0 hts (gV wm_302 wm_303 wm_304 wm_38 wm_305) rfl rfl rfl (by decide +kernel) ⟨Nat.le_of_ble_eq_true rfl, Nat.le_of_ble_eq_true rfl⟩) ⟨pcR_blind, va_recv hK hPc (ci := 4) (q0 := 0) rfl rfl, pcR_pre hPc hK⟩ rfl rfl hl.1 rfl (lv_room (Nat.le_of_ble_eq_true rfl)) d_Co_mustWait_26 ⟨Nat.le_of_ble_eq_true rfl, Nat.le_of_ble_eq_true rfl⟩)) ?_
        refine W.eq (g2 := F0 m 29 ls [.int v_waiting_count]) rfl ?_
        refine lv_if_ne (tgt := 36) hx hb d_Co_mustWait_29 (by decide) (fun c_6 => ?_) (fun c_6 => ?_)
        · refine lv_iconst (v := 0) hx hb d_Co_mustWait_36 (by decide) ?_
          have ef : (f_Co_mustWait v_waiting_count v_gone_room v_gone_count x_p0) = (0 : Int32) := (if_pos c_1).trans ((if_pos c_4).trans ((if_pos c_5).trans ((if_neg c_6).trans rfl)))
          exact W.zret (v := 0) hx hb hr rfl (fun t ht hW => ⟨by rw [ef], ht⟩) (fun _ h => by cases h) d_Co_mustWait_37
        · refine lv_iconst (v := 1) hx hb d_Co_mustWait_32 (by decide) ?_
          refine lv_goto (tgt := 37) hx hb d_Co_mustWait_33 (by decide) ?_
          have ef : (f_Co_mustWait v_waiting_count v_gone_room v_gone_count x_p0) = (1 : Int32) := (if_pos c_1).trans ((if_pos c_4).trans ((if_pos c_5).trans ((if_pos c_6).trans rfl)))
          exact W.zret (v := 1) hx hb hr rfl (fun t ht hW => ⟨by rw [ef], ht⟩) (fun _ h => by cases h) d_Co_mustWait_37
def f_Co_shiftOf (x_p0 : Int32) : Int32 :=
  ((x_p0 &&& 3) * 8)
set_option maxHeartbeats 4000000 in
set_option maxRecDepth 100000 in
theorem ct_Co_shiftOf (l : Launch) (dC : Nat → ClassId) (dI : Nat → Nat → Nat) (cI : ClassId) (x_p0 : Int32) : Met l y_Co_shiftOf w_Co_shiftOf ({ frames := 0, cells := 0, slots := 0, locals := 0 }) (pcR dC dI cI [] [.int x_p0]) (QcRead (f_Co_shiftOf x_p0)) 0 0 (fun _ => False) := by
  refine Met.ofW (cc := c_Co_shiftOf) (maxL := 1) (ret := (some .int)) (by decide) rfl ?_
  intro p e s m args below meth c s₁ B hml hv
  obtain ⟨rfl, hP, hK⟩ := hv
  have hx := B.exec
  have hb := B.bytes
  have hr := B.returns
  have hts : ∀ w ∈ wG, w.before _ s = true := fun w h => atoms_spec (ws := w_Co_shiftOf) B.pre w (List.mem_cons_of_mem _ h)
  have hown : s.vm.findClass "LabelledCore" = some m.cls := findClass_of_methodNamed B.named
  have hlocks := B.notSynchronized
  have hl := lv_entry ([.int x_p0]) (n := 1) (Nat.le_of_ble_eq_true rfl)
  rw [lg_entry_eq]
  generalize (lg_sl ([.int x_p0]) ++ List.replicate (1 - (lg_sl ([.int x_p0])).length) Slot.unset).toArray = ls at hl ⊢
  have hl : lv_has ls 1 [(0, .int x_p0)] := hl
  refine lv_iload_n hx hb d_Co_shiftOf_0 rfl (lv_at hl 0 rfl) ?_
  refine lv_iconst (v := 3) hx hb d_Co_shiftOf_1 (by decide) ?_
  refine lv_iand hx hb d_Co_shiftOf_2 ?_
  refine lv_bipush (v := 8) hx hb d_Co_shiftOf_3 (by decide) ?_
  refine lv_imul hx hb d_Co_shiftOf_5 ?_
  have ef : (f_Co_shiftOf x_p0) = (((x_p0 &&& 3) * 8) : Int32) := rfl
  exact W.iret (v := ((x_p0 &&& 3) * 8)) hx hb hr (fun t ht hW => ⟨by rw [ef], ht⟩) (fun _ h => by cases h) d_Co_shiftOf_6
def f_Co_branches (g_registers_numbers : Nat → Int32) (x_p0 : Int32) : Int32 :=
  (f_Cd_compares (f_Cd_fieldF x_p0) (g_registers_numbers (Int32.toNatClampNeg (f_Cd_fieldA x_p0))) (g_registers_numbers (Int32.toNatClampNeg (f_Cd_fieldB x_p0))))
set_option maxHeartbeats 4000000 in
set_option maxRecDepth 100000 in
theorem ct_Co_branches (l : Launch) (dC : Nat → ClassId) (dI : Nat → Nat → Nat) (cI : ClassId) (h0 a_program a_registers a_store a_waiting a_gone a_kernel a_known a_asked a_registers_numbers a_registers_labels : Nat) (v_words : Int32) (v_outcome : Int32) (v_pc : Int32) (v_pcLabel : Int32) (v_done : Int32) (v_misses : Int32) (v_longMisses : Int32) (v_resultLabel : Int32) (v_nextLabel : Int32) (g_registers_numbers : Nat → Int32) (x_p0 : Int32) : Met l y_Co_branches w_Co_branches ({ frames := 2, cells := 0, slots := 0, locals := 43 }) (pcR dC dI cI [(h0, .inr (5, [.ref a_program, .ref a_registers, .ref a_store, .ref a_waiting, .ref a_gone, .ref a_kernel, .ref a_known, .ref a_asked, .int v_words, .int v_outcome, .int v_pc, .int v_pcLabel, .int v_done, .int v_misses, .int v_longMisses, .int v_resultLabel, .int v_nextLabel])), (a_registers, .inr (0, [.ref a_registers_numbers, .ref a_registers_labels])), (a_registers_numbers, .inl (cI, 32, .inl g_registers_numbers))] [.ref h0, .int x_p0]) (QcRead (f_Co_branches g_registers_numbers x_p0)) 0 0 (fun _ => False) := by
  refine Met.ofW (cc := c_Co_branches) (maxL := 2) (ret := (some .boolean)) (by decide) rfl ?_
  intro p e s m args below meth c s₁ B hml hv
  obtain ⟨rfl, hP, hK⟩ := hv
  have hx := B.exec
  have hb := B.bytes
  have hr := B.returns
  have hts : ∀ w ∈ wG, w.before _ s = true := fun w h => atoms_spec (ws := w_Co_branches) B.pre w (List.mem_cons_of_mem _ h)
  have hown : s.vm.findClass "LabelledCore" = some m.cls := findClass_of_methodNamed B.named
  have hlocks := B.notSynchronized
  have hl := lv_entry ([.ref h0, .int x_p0]) (n := 2) (Nat.le_of_ble_eq_true rfl)
  rw [lg_entry_eq]
  generalize (lg_sl ([.ref h0, .int x_p0]) ++ List.replicate (2 - (lg_sl ([.ref h0, .int x_p0])).length) Slot.unset).toArray = ls at hl ⊢
  have hl : lv_has ls 2 [(0, .ref h0), (1, .int x_p0)] := hl
  refine lv_iload_n hx hb d_Co_branches_0 rfl (lv_at hl 1 rfl) ?_
  have hPc := hP.sub (ws' := []) [] rfl
  refine W.callR ((W.runS (As := [.int x_p0]) (rest := []) ⟨hx, hb, hml, hown, hts⟩ (ct_Cd_fieldF l dC dI cI x_p0) (va_cwS 1 hts (gS wm_842 wm_436 wm_48 wm_437) rfl rfl rfl (by decide +kernel) ⟨Nat.le_of_ble_eq_true rfl, Nat.le_of_ble_eq_true rfl⟩) ⟨pcR_blind, pcR_pre hPc hK⟩ rfl rfl hl.1 rfl (lv_room (Nat.le_of_ble_eq_true rfl)) d_Co_branches_1 ⟨Nat.le_of_ble_eq_true rfl, Nat.le_of_ble_eq_true rfl⟩)) ?_
  refine W.eq (g2 := F0 m 4 ls [.int (f_Cd_fieldF x_p0)]) rfl ?_
  refine lv_aload_n hx hb d_Co_branches_4 rfl (lv_at hl 0 rfl) ?_
  refine va_get (D := (dC, dI)) (ci := 5) (v := .ref a_registers) (C := "LabelledCore") (T := T_Co) (N := 17) hx hb hts in_Co hown hK hP 0 rfl rfl 1 (by decide) (hts _ wm_200) (fun _ h9 => h9) rfl d_Co_branches_5 ?_
  refine lv_iload_n hx hb d_Co_branches_8 rfl (lv_at hl 1 rfl) ?_
  have hPc := hP.sub (ws' := []) [] rfl
  refine W.callR ((W.runS (As := [.int x_p0]) (rest := [.ref a_registers, .int (f_Cd_fieldF x_p0)]) ⟨hx, hb, hml, hown, hts⟩ (ct_Cd_fieldA l dC dI cI x_p0) (va_cwS 1 hts (gS wm_463 wm_464 wm_48 wm_465) rfl rfl rfl (by decide +kernel) ⟨Nat.le_of_ble_eq_true rfl, Nat.le_of_ble_eq_true rfl⟩) ⟨pcR_blind, pcR_pre hPc hK⟩ rfl rfl hl.1 rfl (lv_room (Nat.le_of_ble_eq_true rfl)) d_Co_branches_9 ⟨Nat.le_of_ble_eq_true rfl, Nat.le_of_ble_eq_true rfl⟩)) ?_
  refine W.eq (g2 := F0 m 12 ls [.int (f_Cd_fieldA x_p0), .ref a_registers, .int (f_Cd_fieldF x_p0)]) rfl ?_
  have hPc := hP.sub (ws' := [(a_registers, .inr (0, [.ref a_registers_numbers, .ref a_registers_labels])), (a_registers_numbers, .inl (cI, 32, .inl g_registers_numbers))]) [1, 2] rfl
  refine W.callR ((W.runV (As := [.int (f_Cd_fieldA x_p0)]) (rest := [.int (f_Cd_fieldF x_p0)]) ⟨hx, hb, hml, hown, hts⟩ (ct_Ba_number l dC dI cI a_registers a_registers_numbers a_registers_labels 32 g_registers_numbers (f_Cd_fieldA x_p0) (in_Cd_fieldA _)) (cwV 1 hts (gV wm_466 wm_467 wm_468 wm_37 wm_469) rfl rfl rfl (by decide +kernel) ⟨Nat.le_of_ble_eq_true rfl, Nat.le_of_ble_eq_true rfl⟩) ⟨pcR_blind, va_recv hK hPc (ci := 0) (q0 := 0) rfl rfl, pcR_pre hPc hK⟩ rfl rfl hl.1 rfl (lv_room (Nat.le_of_ble_eq_true rfl)) d_Co_branches_12 ⟨Nat.le_of_ble_eq_true rfl, Nat.le_of_ble_eq_true rfl⟩)) ?_
  refine W.eq (g2 := F0 m 15 ls [.int (g_registers_numbers (Int32.toNatClampNeg (f_Cd_fieldA x_p0))), .int (f_Cd_fieldF x_p0)]) rfl ?_
  refine lv_aload_n hx hb d_Co_branches_15 rfl (lv_at hl 0 rfl) ?_
  refine va_get (D := (dC, dI)) (ci := 5) (v := .ref a_registers) (C := "LabelledCore") (T := T_Co) (N := 17) hx hb hts in_Co hown hK hP 0 rfl rfl 1 (by decide) (hts _ wm_200) (fun _ h9 => h9) rfl d_Co_branches_16 ?_
  refine lv_iload_n hx hb d_Co_branches_19 rfl (lv_at hl 1 rfl) ?_
  have hPc := hP.sub (ws' := []) [] rfl
  refine W.callR ((W.runS (As := [.int x_p0]) (rest := [.ref a_registers, .int (g_registers_numbers (Int32.toNatClampNeg (f_Cd_fieldA x_p0))), .int (f_Cd_fieldF x_p0)]) ⟨hx, hb, hml, hown, hts⟩ (ct_Cd_fieldB l dC dI cI x_p0) (va_cwS 1 hts (gS wm_497 wm_498 wm_48 wm_499) rfl rfl rfl (by decide +kernel) ⟨Nat.le_of_ble_eq_true rfl, Nat.le_of_ble_eq_true rfl⟩) ⟨pcR_blind, pcR_pre hPc hK⟩ rfl rfl hl.1 rfl (lv_room (Nat.le_of_ble_eq_true rfl)) d_Co_branches_20 ⟨Nat.le_of_ble_eq_true rfl, Nat.le_of_ble_eq_true rfl⟩)) ?_
  refine W.eq (g2 := F0 m 23 ls [.int (f_Cd_fieldB x_p0), .ref a_registers, .int (g_registers_numbers (Int32.toNatClampNeg (f_Cd_fieldA x_p0))), .int (f_Cd_fieldF x_p0)]) rfl ?_
  have hPc := hP.sub (ws' := [(a_registers, .inr (0, [.ref a_registers_numbers, .ref a_registers_labels])), (a_registers_numbers, .inl (cI, 32, .inl g_registers_numbers))]) [1, 2] rfl
  refine W.callR ((W.runV (As := [.int (f_Cd_fieldB x_p0)]) (rest := [.int (g_registers_numbers (Int32.toNatClampNeg (f_Cd_fieldA x_p0))), .int (f_Cd_fieldF x_p0)]) ⟨hx, hb, hml, hown, hts⟩ (ct_Ba_number l dC dI cI a_registers a_registers_numbers a_registers_labels 32 g_registers_numbers (f_Cd_fieldB x_p0) (in_Cd_fieldB _)) (cwV 1 hts (gV wm_466 wm_467 wm_468 wm_37 wm_469) rfl rfl rfl (by decide +kernel) ⟨Nat.le_of_ble_eq_true rfl, Nat.le_of_ble_eq_true rfl⟩) ⟨pcR_blind, va_recv hK hPc (ci := 0) (q0 := 0) rfl rfl, pcR_pre hPc hK⟩ rfl rfl hl.1 rfl (lv_room (Nat.le_of_ble_eq_true rfl)) d_Co_branches_23 ⟨Nat.le_of_ble_eq_true rfl, Nat.le_of_ble_eq_true rfl⟩)) ?_
  refine W.eq (g2 := F0 m 26 ls [.int (g_registers_numbers (Int32.toNatClampNeg (f_Cd_fieldB x_p0))), .int (g_registers_numbers (Int32.toNatClampNeg (f_Cd_fieldA x_p0))), .int (f_Cd_fieldF x_p0)]) rfl ?_
  have hPc := hP.sub (ws' := []) [] rfl
  refine W.callR ((W.runS (As := [.int (f_Cd_fieldF x_p0), .int (g_registers_numbers (Int32.toNatClampNeg (f_Cd_fieldA x_p0))), .int (g_registers_numbers (Int32.toNatClampNeg (f_Cd_fieldB x_p0)))]) (rest := []) ⟨hx, hb, hml, hown, hts⟩ (ct_Cd_compares l dC dI cI (f_Cd_fieldF x_p0) (g_registers_numbers (Int32.toNatClampNeg (f_Cd_fieldA x_p0))) (g_registers_numbers (Int32.toNatClampNeg (f_Cd_fieldB x_p0)))) (va_cwS 3 hts (gS wm_871 wm_872 wm_48 wm_873) rfl rfl rfl (by decide +kernel) ⟨Nat.le_of_ble_eq_true rfl, Nat.le_of_ble_eq_true rfl⟩) ⟨pcR_blind, pcR_pre hPc hK⟩ rfl rfl hl.1 rfl (lv_room (Nat.le_of_ble_eq_true rfl)) d_Co_branches_26 ⟨Nat.le_of_ble_eq_true rfl, Nat.le_of_ble_eq_true rfl⟩)) ?_
  refine W.eq (g2 := F0 m 29 ls [.int (f_Cd_compares (f_Cd_fieldF x_p0) (g_registers_numbers (Int32.toNatClampNeg (f_Cd_fieldA x_p0))) (g_registers_numbers (Int32.toNatClampNeg (f_Cd_fieldB x_p0))))]) rfl ?_
  have ef : (f_Co_branches g_registers_numbers x_p0) = ((f_Cd_compares (f_Cd_fieldF x_p0) (g_registers_numbers (Int32.toNatClampNeg (f_Cd_fieldA x_p0))) (g_registers_numbers (Int32.toNatClampNeg (f_Cd_fieldB x_p0)))) : Int32) := rfl
  exact W.zret (v := (f_Cd_compares (f_Cd_fieldF x_p0) (g_registers_numbers (Int32.toNatClampNeg (f_Cd_fieldA x_p0))) (g_registers_numbers (Int32.toNatClampNeg (f_Cd_fieldB x_p0))))) hx hb hr (nb_f_Cd_compares ..) (fun t ht hW => ⟨by rw [ef], ht⟩) (fun _ h => by cases h) d_Co_branches_29
def f_Co_keep (v_resultLabel : Int32) (g_registers_numbers : Nat → Int32) (g_registers_labels : Nat → Int32) (x_p0 : Int32) (x_p1 : Int32) : (Nat → Int32) × (Nat → Int32) :=
  if (f_Cd_fieldD x_p0) = 0 then
    (g_registers_numbers, g_registers_labels)
  else
    ((upd g_registers_numbers (Int32.toNatClampNeg (f_Cd_fieldD x_p0)) x_p1), (upd g_registers_labels (Int32.toNatClampNeg (f_Cd_fieldD x_p0)) v_resultLabel))
set_option maxHeartbeats 4000000 in
set_option maxRecDepth 100000 in
theorem ct_Co_keep (l : Launch) (dC : Nat → ClassId) (dI : Nat → Nat → Nat) (cI : ClassId) (sz : Nat) (h0 a_program a_registers a_store a_waiting a_gone a_kernel a_known a_asked a_registers_numbers a_registers_labels : Nat) (v_words : Int32) (v_outcome : Int32) (v_pc : Int32) (v_pcLabel : Int32) (v_done : Int32) (v_misses : Int32) (v_longMisses : Int32) (v_resultLabel : Int32) (v_nextLabel : Int32) (g_registers_numbers : Nat → Int32) (g_registers_labels : Nat → Int32) (x_p0 : Int32) (x_p1 : Int32) : Met l y_Co_keep w_Co_keep ({ frames := 1, cells := 0, slots := 0, locals := 23 }) (pcW dC dI cI [(h0, .inr (5, [.ref a_program, .ref a_registers, .ref a_store, .ref a_waiting, .ref a_gone, .ref a_kernel, .ref a_known, .ref a_asked, .int v_words, .int v_outcome, .int v_pc, .int v_pcLabel, .int v_done, .int v_misses, .int v_longMisses, .int v_resultLabel, .int v_nextLabel])), (a_registers, .inr (0, [.ref a_registers_numbers, .ref a_registers_labels])), (a_registers_numbers, .inl (cI, 32, .inl g_registers_numbers)), (a_registers_labels, .inl (cI, 32, .inl g_registers_labels))] sz [.ref h0, .int x_p0, .int x_p1]) (va_Qv (fun _ : Unit => True) (fun _ t => atW dC dI cI [(h0, .inr (5, [.ref a_program, .ref a_registers, .ref a_store, .ref a_waiting, .ref a_gone, .ref a_kernel, .ref a_known, .ref a_asked, .int v_words, .int v_outcome, .int v_pc, .int v_pcLabel, .int v_done, .int v_misses, .int v_longMisses, .int v_resultLabel, .int v_nextLabel])), (a_registers, .inr (0, [.ref a_registers_numbers, .ref a_registers_labels])), (a_registers_numbers, .inl (cI, 32, .inl ((f_Co_keep v_resultLabel g_registers_numbers g_registers_labels x_p0 x_p1).1))), (a_registers_labels, .inl (cI, 32, .inl ((f_Co_keep v_resultLabel g_registers_numbers g_registers_labels x_p0 x_p1).2)))] (va_A [(h0, .inr (5, [.ref a_program, .ref a_registers, .ref a_store, .ref a_waiting, .ref a_gone, .ref a_kernel, .ref a_known, .ref a_asked, .int v_words, .int v_outcome, .int v_pc, .int v_pcLabel, .int v_done, .int v_misses, .int v_longMisses, .int v_resultLabel, .int v_nextLabel])), (a_registers, .inr (0, [.ref a_registers_numbers, .ref a_registers_labels])), (a_registers_numbers, .inl (cI, 32, .inl g_registers_numbers)), (a_registers_labels, .inl (cI, 32, .inl g_registers_labels))] sz) t) (va_A [(h0, .inr (5, [.ref a_program, .ref a_registers, .ref a_store, .ref a_waiting, .ref a_gone, .ref a_kernel, .ref a_known, .ref a_asked, .int v_words, .int v_outcome, .int v_pc, .int v_pcLabel, .int v_done, .int v_misses, .int v_longMisses, .int v_resultLabel, .int v_nextLabel])), (a_registers, .inr (0, [.ref a_registers_numbers, .ref a_registers_labels])), (a_registers_numbers, .inl (cI, 32, .inl g_registers_numbers)), (a_registers_labels, .inl (cI, 32, .inl g_registers_labels))] sz)) 0 0 (va_A [(h0, .inr (5, [.ref a_program, .ref a_registers, .ref a_store, .ref a_waiting, .ref a_gone, .ref a_kernel, .ref a_known, .ref a_asked, .int v_words, .int v_outcome, .int v_pc, .int v_pcLabel, .int v_done, .int v_misses, .int v_longMisses, .int v_resultLabel, .int v_nextLabel])), (a_registers, .inr (0, [.ref a_registers_numbers, .ref a_registers_labels])), (a_registers_numbers, .inl (cI, 32, .inl g_registers_numbers)), (a_registers_labels, .inl (cI, 32, .inl g_registers_labels))] sz) := by
  refine Met.ofW (cc := c_Co_keep) (maxL := 4) (ret := none) (by decide) rfl ?_
  intro p e s m args below meth c s₁ B hml hv
  obtain ⟨rfl, hsz, hP, hK, hD0⟩ := hv
  have hx := B.exec
  have hb := B.bytes
  have hr := B.returns
  have hts : ∀ w ∈ wG, w.before _ s = true := fun w h => atoms_spec (ws := w_Co_keep) B.pre w (List.mem_cons_of_mem _ h)
  have hown : s.vm.findClass "LabelledCore" = some m.cls := findClass_of_methodNamed B.named
  have hlocks := B.notSynchronized
  subst hsz
  have hD := hD0.self (sz := s.heap.size)
  generalize hAe : va_A [(h0, .inr (5, [.ref a_program, .ref a_registers, .ref a_store, .ref a_waiting, .ref a_gone, .ref a_kernel, .ref a_known, .ref a_asked, .int v_words, .int v_outcome, .int v_pc, .int v_pcLabel, .int v_done, .int v_misses, .int v_longMisses, .int v_resultLabel, .int v_nextLabel])), (a_registers, .inr (0, [.ref a_registers_numbers, .ref a_registers_labels])), (a_registers_numbers, .inl (cI, 32, .inl g_registers_numbers)), (a_registers_labels, .inl (cI, 32, .inl g_registers_labels))] s.heap.size = A at hD ⊢
  have hA : ∀ q : Nat, s.heap.size ≤ q → A q := fun q h => by rw [← hAe]; exact Or.inr h
  have hS : va_S A s.heap s.heap [] := va_S.rf
  have hP : va_P (dC, dI) clsL [(h0, .inr (5, [.ref a_program, .ref a_registers, .ref a_store, .ref a_waiting, .ref a_gone, .ref a_kernel, .ref a_known, .ref a_asked, .int v_words, .int v_outcome, .int v_pc, .int v_pcLabel, .int v_done, .int v_misses, .int v_longMisses, .int v_resultLabel, .int v_nextLabel])), (a_registers, .inr (0, [.ref a_registers_numbers, .ref a_registers_labels])), (a_registers_numbers, .inl (cI, 32, .inl g_registers_numbers)), (a_registers_labels, .inl (cI, 32, .inl g_registers_labels))] s.heap := hP
  have hl := lv_entry ([.ref h0, .int x_p0, .int x_p1]) (n := 4) (Nat.le_of_ble_eq_true rfl)
  rw [lg_entry_eq]
  generalize (lg_sl ([.ref h0, .int x_p0, .int x_p1]) ++ List.replicate (4 - (lg_sl ([.ref h0, .int x_p0, .int x_p1])).length) Slot.unset).toArray = ls at hl ⊢
  have hl : lv_has ls 4 [(0, .ref h0), (1, .int x_p0), (2, .int x_p1)] := hl
  refine lv_iload_n hx hb d_Co_keep_0 rfl (lv_at hl 1 rfl) ?_
  have hPc := hP.sub (ws' := []) [] rfl
  refine W.callR ((W.runS (As := [.int x_p0]) (rest := []) ⟨hx, hb, hml, hown, hts⟩ (ct_Cd_fieldD l dC dI cI x_p0) (va_cwS 1 hts (gS wm_855 wm_461 wm_48 wm_462) rfl rfl rfl (by decide +kernel) ⟨Nat.le_of_ble_eq_true rfl, Nat.le_of_ble_eq_true rfl⟩) ⟨pcR_blind, pcR_pre hPc hK⟩ rfl rfl hl.1 rfl (lv_room (Nat.le_of_ble_eq_true rfl)) d_Co_keep_1 ⟨Nat.le_of_ble_eq_true rfl, Nat.le_of_ble_eq_true rfl⟩)) ?_
  refine W.eq (g2 := F0 m 4 ls [.int (f_Cd_fieldD x_p0)]) rfl ?_
  refine lv_istore_n (lv' := [(3, .int (f_Cd_fieldD x_p0)), (0, .ref h0), (1, .int x_p0), (2, .int x_p1)]) hx hb d_Co_keep_4 rfl hl (by decide) rfl (fun ls hl => ?_)
  refine lv_iload_n hx hb d_Co_keep_5 rfl (lv_at hl 0 rfl) ?_
  refine lv_if_eq (tgt := 22) hx hb d_Co_keep_6 (by decide) (fun c_1 => ?_) (fun c_1 => ?_)
  · have ef : (f_Co_keep v_resultLabel g_registers_numbers g_registers_labels x_p0 x_p1) = ((g_registers_numbers, g_registers_labels) : (Nat → Int32) × (Nat → Int32)) := (if_pos c_1).trans rfl
    have hP9 := hP.sub (ws' := [(h0, .inr (5, [.ref a_program, .ref a_registers, .ref a_store, .ref a_waiting, .ref a_gone, .ref a_kernel, .ref a_known, .ref a_asked, .int v_words, .int v_outcome, .int v_pc, .int v_pcLabel, .int v_done, .int v_misses, .int v_longMisses, .int v_resultLabel, .int v_nextLabel])), (a_registers, .inr (0, [.ref a_registers_numbers, .ref a_registers_labels])), (a_registers_numbers, .inl (cI, 32, .inl g_registers_numbers)), (a_registers_labels, .inl (cI, 32, .inl g_registers_labels))]) [0, 1, 2, 3] rfl
    have hD9 := hD.sub (ws' := [(h0, .inr (5, [.ref a_program, .ref a_registers, .ref a_store, .ref a_waiting, .ref a_gone, .ref a_kernel, .ref a_known, .ref a_asked, .int v_words, .int v_outcome, .int v_pc, .int v_pcLabel, .int v_done, .int v_misses, .int v_longMisses, .int v_resultLabel, .int v_nextLabel])), (a_registers, .inr (0, [.ref a_registers_numbers, .ref a_registers_labels])), (a_registers_numbers, .inl (cI, 32, .inl g_registers_numbers)), (a_registers_labels, .inl (cI, 32, .inl g_registers_labels))]) [0, 1, 2, 3] (by decide) rfl
    exact W.vret hx hb hr (fun t ht hW => ⟨⟨(), rfl, trivial, by rw [ef, ht]; exact hP9, va_K.moved hW.alike hK, by rw [ef]; exact hD9⟩, hS.F ht⟩) hS.2.2 d_Co_keep_22
  · refine lv_aload_n hx hb d_Co_keep_9 rfl (lv_at hl 1 rfl) ?_
    refine va_get (D := (dC, dI)) (ci := 5) (v := .ref a_registers) (C := "LabelledCore") (T := T_Co) (N := 17) hx hb hts in_Co hown hK hP 0 rfl rfl 1 (by decide) (hts _ wm_200) (fun _ h9 => h9) rfl d_Co_keep_10 ?_
    refine lv_iload_n hx hb d_Co_keep_13 rfl (lv_at hl 0 rfl) ?_
    refine lv_iload_n hx hb d_Co_keep_14 rfl (lv_at hl 3 rfl) ?_
    refine lv_aload_n hx hb d_Co_keep_15 rfl (lv_at hl 1 rfl) ?_
    refine va_get (D := (dC, dI)) (ci := 5) (v := .int v_resultLabel) (C := "LabelledCore") (T := T_Co) (N := 17) hx hb hts in_Co hown hK hP 0 rfl rfl 15 (by decide) (hts _ wm_214) (fun _ h9 => h9) rfl d_Co_keep_16 ?_
    have hPc := hP.sub (ws' := [(a_registers, .inr (0, [.ref a_registers_numbers, .ref a_registers_labels])), (a_registers_numbers, .inl (cI, 32, .inl g_registers_numbers)), (a_registers_labels, .inl (cI, 32, .inl g_registers_labels))]) [1, 2, 3] rfl
    have hDc := hD.sub (ws' := [(a_registers, .inr (0, [.ref a_registers_numbers, .ref a_registers_labels])), (a_registers_numbers, .inl (cI, 32, .inl g_registers_numbers)), (a_registers_labels, .inl (cI, 32, .inl g_registers_labels))]) [1, 2, 3] (by decide) rfl
    have hFc := va_free (wc := [(a_registers, .inr (0, [.ref a_registers_numbers, .ref a_registers_labels])), (a_registers_numbers, .inl (cI, 32, .inl g_registers_numbers)), (a_registers_labels, .inl (cI, 32, .inl g_registers_labels))]) hD hS hA [1, 2, 3] rfl
    refine va_callv (va_runV (As := [.int (f_Cd_fieldD x_p0), .int x_p1, .int v_resultLabel]) (rest := []) ⟨hx, hb, hml, hown, hts⟩ (ct_Ba_put l dC dI cI s.heap.size a_registers a_registers_numbers a_registers_labels 32 g_registers_numbers g_registers_labels (f_Cd_fieldD x_p0) x_p1 v_resultLabel (in_Cd_fieldD _)) (cwV 3 hts (gV wm_407 wm_299 wm_300 wm_37 wm_301) rfl rfl rfl (by decide +kernel) ⟨Nat.le_of_ble_eq_true rfl, Nat.le_of_ble_eq_true rfl⟩) ⟨pcW_blind, va_recv hK hPc (ci := 0) (q0 := 0) rfl rfl, pcW_pre hPc hK hDc⟩ rfl rfl hl.1 rfl (lv_room (Nat.le_of_ble_eq_true rfl)) d_Co_keep_19 ⟨Nat.le_of_ble_eq_true rfl, Nat.le_of_ble_eq_true rfl⟩) hS (fun q _ h => hFc q h) hFc (fun u t H1 locs ht hvm hw hB hz1 hk1 hS => ?_)
    obtain ⟨hP1, -, hD1⟩ := hB
    rw [ht] at hP1
    obtain ⟨hP, hD⟩ := va_join (wr := [(h0, .inr (5, [.ref a_program, .ref a_registers, .ref a_store, .ref a_waiting, .ref a_gone, .ref a_kernel, .ref a_known, .ref a_asked, .int v_words, .int v_outcome, .int v_pc, .int v_pcLabel, .int v_done, .int v_misses, .int v_longMisses, .int v_resultLabel, .int v_nextLabel]))]) (w1 := [(a_registers, .inr (0, [.ref a_registers_numbers, .ref a_registers_labels])), (a_registers_numbers, .inl (cI, 32, .inl (upd g_registers_numbers (Int32.toNatClampNeg (f_Cd_fieldD x_p0)) x_p1))), (a_registers_labels, .inl (cI, 32, .inl (upd g_registers_labels (Int32.toNatClampNeg (f_Cd_fieldD x_p0)) v_resultLabel)))]) hP hD [1, 2, 3] [0] rfl rfl (by decide) (by decide) hk1 hFc hP1 hD1
    clear hFc hDc hPc hP1 hD1 hk1 hz1 hvm ht
    generalize H1 = H at hP hS ⊢
    have hP : va_P (dC, dI) clsL [(h0, .inr (5, [.ref a_program, .ref a_registers, .ref a_store, .ref a_waiting, .ref a_gone, .ref a_kernel, .ref a_known, .ref a_asked, .int v_words, .int v_outcome, .int v_pc, .int v_pcLabel, .int v_done, .int v_misses, .int v_longMisses, .int v_resultLabel, .int v_nextLabel])), (a_registers, .inr (0, [.ref a_registers_numbers, .ref a_registers_labels])), (a_registers_numbers, .inl (cI, 32, .inl (upd g_registers_numbers (Int32.toNatClampNeg (f_Cd_fieldD x_p0)) x_p1))), (a_registers_labels, .inl (cI, 32, .inl (upd g_registers_labels (Int32.toNatClampNeg (f_Cd_fieldD x_p0)) v_resultLabel)))] H := hP
    have hD : va_D A [(h0, .inr (5, [.ref a_program, .ref a_registers, .ref a_store, .ref a_waiting, .ref a_gone, .ref a_kernel, .ref a_known, .ref a_asked, .int v_words, .int v_outcome, .int v_pc, .int v_pcLabel, .int v_done, .int v_misses, .int v_longMisses, .int v_resultLabel, .int v_nextLabel])), (a_registers, .inr (0, [.ref a_registers_numbers, .ref a_registers_labels])), (a_registers_numbers, .inl (cI, 32, .inl (upd g_registers_numbers (Int32.toNatClampNeg (f_Cd_fieldD x_p0)) x_p1))), (a_registers_labels, .inl (cI, 32, .inl (upd g_registers_labels (Int32.toNatClampNeg (f_Cd_fieldD x_p0)) v_resultLabel)))] := hD
    have ef : (f_Co_keep v_resultLabel g_registers_numbers g_registers_labels x_p0 x_p1) = (((upd g_registers_numbers (Int32.toNatClampNeg (f_Cd_fieldD x_p0)) x_p1), (upd g_registers_labels (Int32.toNatClampNeg (f_Cd_fieldD x_p0)) v_resultLabel)) : (Nat → Int32) × (Nat → Int32)) := (if_neg c_1).trans rfl
    have hP9 := hP.sub (ws' := [(h0, .inr (5, [.ref a_program, .ref a_registers, .ref a_store, .ref a_waiting, .ref a_gone, .ref a_kernel, .ref a_known, .ref a_asked, .int v_words, .int v_outcome, .int v_pc, .int v_pcLabel, .int v_done, .int v_misses, .int v_longMisses, .int v_resultLabel, .int v_nextLabel])), (a_registers, .inr (0, [.ref a_registers_numbers, .ref a_registers_labels])), (a_registers_numbers, .inl (cI, 32, .inl (upd g_registers_numbers (Int32.toNatClampNeg (f_Cd_fieldD x_p0)) x_p1))), (a_registers_labels, .inl (cI, 32, .inl (upd g_registers_labels (Int32.toNatClampNeg (f_Cd_fieldD x_p0)) v_resultLabel)))]) [0, 1, 2, 3] rfl
    have hD9 := hD.sub (ws' := [(h0, .inr (5, [.ref a_program, .ref a_registers, .ref a_store, .ref a_waiting, .ref a_gone, .ref a_kernel, .ref a_known, .ref a_asked, .int v_words, .int v_outcome, .int v_pc, .int v_pcLabel, .int v_done, .int v_misses, .int v_longMisses, .int v_resultLabel, .int v_nextLabel])), (a_registers, .inr (0, [.ref a_registers_numbers, .ref a_registers_labels])), (a_registers_numbers, .inl (cI, 32, .inl (upd g_registers_numbers (Int32.toNatClampNeg (f_Cd_fieldD x_p0)) x_p1))), (a_registers_labels, .inl (cI, 32, .inl (upd g_registers_labels (Int32.toNatClampNeg (f_Cd_fieldD x_p0)) v_resultLabel)))]) [0, 1, 2, 3] (by decide) rfl
    exact W.vret hx hb hr (fun t ht hW => ⟨⟨(), rfl, trivial, by rw [ef, ht]; exact hP9, va_K.moved hW.alike hK, by rw [ef]; exact hD9⟩, hS.F ht⟩) hS.2.2 d_Co_keep_22
def f_Co_worked (v_pc : Int32) (g_registers_numbers : Nat → Int32) (x_p0 : Int32) : Int32 :=
  if (f_Cd_codeOf x_p0) = 55 then
    (f_Cd_upperPart x_p0)
  else
    if (f_Cd_codeOf x_p0) = 23 then
      ((f_Cd_upperPart x_p0) + v_pc)
    else
      if (f_Cd_codeOf x_p0) = 51 then
        if (f_Cd_fieldG x_p0) = 0 then
          (f_Cd_combine (f_Cd_fieldF x_p0) 0 (g_registers_numbers (Int32.toNatClampNeg (f_Cd_fieldA x_p0))) (g_registers_numbers (Int32.toNatClampNeg (f_Cd_fieldB x_p0))))
        else
          (f_Cd_combine (f_Cd_fieldF x_p0) 1 (g_registers_numbers (Int32.toNatClampNeg (f_Cd_fieldA x_p0))) (g_registers_numbers (Int32.toNatClampNeg (f_Cd_fieldB x_p0))))
      else
        if (f_Cd_fieldF x_p0) = 5 then
          if (f_Cd_fieldG x_p0) = 0 then
            (f_Cd_combine (f_Cd_fieldF x_p0) 0 (g_registers_numbers (Int32.toNatClampNeg (f_Cd_fieldA x_p0))) (f_Cd_immediate x_p0))
          else
            (f_Cd_combine (f_Cd_fieldF x_p0) 1 (g_registers_numbers (Int32.toNatClampNeg (f_Cd_fieldA x_p0))) (f_Cd_immediate x_p0))
        else
          (f_Cd_combine (f_Cd_fieldF x_p0) 0 (g_registers_numbers (Int32.toNatClampNeg (f_Cd_fieldA x_p0))) (f_Cd_immediate x_p0))
set_option maxHeartbeats 4000000 in
set_option maxRecDepth 100000 in
theorem ct_Co_worked (l : Launch) (dC : Nat → ClassId) (dI : Nat → Nat → Nat) (cI : ClassId) (h0 a_program a_registers a_store a_waiting a_gone a_kernel a_known a_asked a_registers_numbers a_registers_labels : Nat) (v_words : Int32) (v_outcome : Int32) (v_pc : Int32) (v_pcLabel : Int32) (v_done : Int32) (v_misses : Int32) (v_longMisses : Int32) (v_resultLabel : Int32) (v_nextLabel : Int32) (g_registers_numbers : Nat → Int32) (x_p0 : Int32) : Met l y_Co_worked w_Co_worked ({ frames := 2, cells := 0, slots := 0, locals := 44 }) (pcR dC dI cI [(h0, .inr (5, [.ref a_program, .ref a_registers, .ref a_store, .ref a_waiting, .ref a_gone, .ref a_kernel, .ref a_known, .ref a_asked, .int v_words, .int v_outcome, .int v_pc, .int v_pcLabel, .int v_done, .int v_misses, .int v_longMisses, .int v_resultLabel, .int v_nextLabel])), (a_registers, .inr (0, [.ref a_registers_numbers, .ref a_registers_labels])), (a_registers_numbers, .inl (cI, 32, .inl g_registers_numbers))] [.ref h0, .int x_p0]) (QcRead (f_Co_worked v_pc g_registers_numbers x_p0)) 0 0 (fun _ => False) := by
  refine Met.ofW (cc := c_Co_worked) (maxL := 5) (ret := (some .int)) (by decide) rfl ?_
  intro p e s m args below meth c s₁ B hml hv
  obtain ⟨rfl, hP, hK⟩ := hv
  have hx := B.exec
  have hb := B.bytes
  have hr := B.returns
  have hts : ∀ w ∈ wG, w.before _ s = true := fun w h => atoms_spec (ws := w_Co_worked) B.pre w (List.mem_cons_of_mem _ h)
  have hown : s.vm.findClass "LabelledCore" = some m.cls := findClass_of_methodNamed B.named
  have hlocks := B.notSynchronized
  have hl := lv_entry ([.ref h0, .int x_p0]) (n := 5) (Nat.le_of_ble_eq_true rfl)
  rw [lg_entry_eq]
  generalize (lg_sl ([.ref h0, .int x_p0]) ++ List.replicate (5 - (lg_sl ([.ref h0, .int x_p0])).length) Slot.unset).toArray = ls at hl ⊢
  have hl : lv_has ls 5 [(0, .ref h0), (1, .int x_p0)] := hl
  refine lv_iload_n hx hb d_Co_worked_0 rfl (lv_at hl 1 rfl) ?_
  have hPc := hP.sub (ws' := []) [] rfl
  refine W.callR ((W.runS (As := [.int x_p0]) (rest := []) ⟨hx, hb, hml, hown, hts⟩ (ct_Cd_codeOf l dC dI cI x_p0) (va_cwS 1 hts (gS wm_838 wm_439 wm_48 wm_440) rfl rfl rfl (by decide +kernel) ⟨Nat.le_of_ble_eq_true rfl, Nat.le_of_ble_eq_true rfl⟩) ⟨pcR_blind, pcR_pre hPc hK⟩ rfl rfl hl.1 rfl (lv_room (Nat.le_of_ble_eq_true rfl)) d_Co_worked_1 ⟨Nat.le_of_ble_eq_true rfl, Nat.le_of_ble_eq_true rfl⟩)) ?_
  refine W.eq (g2 := F0 m 4 ls [.int (f_Cd_codeOf x_p0)]) rfl ?_
  refine lv_istore_n (lv' := [(2, .int (f_Cd_codeOf x_p0)), (0, .ref h0), (1, .int x_p0)]) hx hb d_Co_worked_4 rfl hl (by decide) rfl (fun ls hl => ?_)
  refine lv_iload_n hx hb d_Co_worked_5 rfl (lv_at hl 0 rfl) ?_
  refine lv_bipush (v := 55) hx hb d_Co_worked_6 (by decide) ?_
  refine lv_icmp_ne (tgt := 16) hx hb d_Co_worked_8 (by decide) (fun c_1 => ?_) (fun c_1 => ?_)
  · refine lv_iload_n hx hb d_Co_worked_16 rfl (lv_at hl 0 rfl) ?_
    refine lv_bipush (v := 23) hx hb d_Co_worked_17 (by decide) ?_
    refine lv_icmp_ne (tgt := 32) hx hb d_Co_worked_19 (by decide) (fun c_2 => ?_) (fun c_2 => ?_)
    · refine lv_aload_n hx hb d_Co_worked_32 rfl (lv_at hl 1 rfl) ?_
      refine va_get (D := (dC, dI)) (ci := 5) (v := .ref a_registers) (C := "LabelledCore") (T := T_Co) (N := 17) hx hb hts in_Co hown hK hP 0 rfl rfl 1 (by decide) (hts _ wm_200) (fun _ h9 => h9) rfl d_Co_worked_33 ?_
      refine lv_iload_n hx hb d_Co_worked_36 rfl (lv_at hl 2 rfl) ?_
      have hPc := hP.sub (ws' := []) [] rfl
      refine W.callR ((W.runS (As := [.int x_p0]) (rest := [.ref a_registers]) ⟨hx, hb, hml, hown, hts⟩ (ct_Cd_fieldA l dC dI cI x_p0) (va_cwS 1 hts (gS wm_463 wm_464 wm_48 wm_465) rfl rfl rfl (by decide +kernel) ⟨Nat.le_of_ble_eq_true rfl, Nat.le_of_ble_eq_true rfl⟩) ⟨pcR_blind, pcR_pre hPc hK⟩ rfl rfl hl.1 rfl (lv_room (Nat.le_of_ble_eq_true rfl)) d_Co_worked_37 ⟨Nat.le_of_ble_eq_true rfl, Nat.le_of_ble_eq_true rfl⟩)) ?_
      refine W.eq (g2 := F0 m 40 ls [.int (f_Cd_fieldA x_p0), .ref a_registers]) rfl ?_
      have hPc := hP.sub (ws' := [(a_registers, .inr (0, [.ref a_registers_numbers, .ref a_registers_labels])), (a_registers_numbers, .inl (cI, 32, .inl g_registers_numbers))]) [1, 2] rfl
      refine W.callR ((W.runV (As := [.int (f_Cd_fieldA x_p0)]) (rest := []) ⟨hx, hb, hml, hown, hts⟩ (ct_Ba_number l dC dI cI a_registers a_registers_numbers a_registers_labels 32 g_registers_numbers (f_Cd_fieldA x_p0) (in_Cd_fieldA _)) (cwV 1 hts (gV wm_466 wm_467 wm_468 wm_37 wm_469) rfl rfl rfl (by decide +kernel) ⟨Nat.le_of_ble_eq_true rfl, Nat.le_of_ble_eq_true rfl⟩) ⟨pcR_blind, va_recv hK hPc (ci := 0) (q0 := 0) rfl rfl, pcR_pre hPc hK⟩ rfl rfl hl.1 rfl (lv_room (Nat.le_of_ble_eq_true rfl)) d_Co_worked_40 ⟨Nat.le_of_ble_eq_true rfl, Nat.le_of_ble_eq_true rfl⟩)) ?_
      refine W.eq (g2 := F0 m 43 ls [.int (g_registers_numbers (Int32.toNatClampNeg (f_Cd_fieldA x_p0)))]) rfl ?_
      refine lv_istore_n (lv' := [(3, .int (g_registers_numbers (Int32.toNatClampNeg (f_Cd_fieldA x_p0)))), (2, .int (f_Cd_codeOf x_p0)), (0, .ref h0), (1, .int x_p0)]) hx hb d_Co_worked_43 rfl hl (by decide) rfl (fun ls hl => ?_)
      refine lv_iload_n hx hb d_Co_worked_44 rfl (lv_at hl 1 rfl) ?_
      refine lv_bipush (v := 51) hx hb d_Co_worked_45 (by decide) ?_
      refine lv_icmp_ne (tgt := 82) hx hb d_Co_worked_47 (by decide) (fun c_3 => ?_) (fun c_3 => ?_)
      · refine lv_iload_n hx hb d_Co_worked_82 rfl (lv_at hl 3 rfl) ?_
        have hPc := hP.sub (ws' := []) [] rfl
        refine W.callR ((W.runS (As := [.int x_p0]) (rest := []) ⟨hx, hb, hml, hown, hts⟩ (ct_Cd_fieldF l dC dI cI x_p0) (va_cwS 1 hts (gS wm_842 wm_436 wm_48 wm_437) rfl rfl rfl (by decide +kernel) ⟨Nat.le_of_ble_eq_true rfl, Nat.le_of_ble_eq_true rfl⟩) ⟨pcR_blind, pcR_pre hPc hK⟩ rfl rfl hl.1 rfl (lv_room (Nat.le_of_ble_eq_true rfl)) d_Co_worked_83 ⟨Nat.le_of_ble_eq_true rfl, Nat.le_of_ble_eq_true rfl⟩)) ?_
        refine W.eq (g2 := F0 m 86 ls [.int (f_Cd_fieldF x_p0)]) rfl ?_
        refine lv_iconst (v := 5) hx hb d_Co_worked_86 (by decide) ?_
        refine lv_icmp_ne (tgt := 101) hx hb d_Co_worked_87 (by decide) (fun c_4 => ?_) (fun c_4 => ?_)
        · refine lv_iconst (v := 0) hx hb d_Co_worked_101 (by decide) ?_
          refine lv_istore (lv' := [(4, .int 0), (3, .int (g_registers_numbers (Int32.toNatClampNeg (f_Cd_fieldA x_p0)))), (2, .int (f_Cd_codeOf x_p0)), (0, .ref h0), (1, .int x_p0)]) hx hb d_Co_worked_102 hl (by decide) rfl (fun ls hl => ?_)
          refine lv_iload_n hx hb d_Co_worked_104 rfl (lv_at hl 4 rfl) ?_
          have hPc := hP.sub (ws' := []) [] rfl
          refine W.callR ((W.runS (As := [.int x_p0]) (rest := []) ⟨hx, hb, hml, hown, hts⟩ (ct_Cd_fieldF l dC dI cI x_p0) (va_cwS 1 hts (gS wm_842 wm_436 wm_48 wm_437) rfl rfl rfl (by decide +kernel) ⟨Nat.le_of_ble_eq_true rfl, Nat.le_of_ble_eq_true rfl⟩) ⟨pcR_blind, pcR_pre hPc hK⟩ rfl rfl hl.1 rfl (lv_room (Nat.le_of_ble_eq_true rfl)) d_Co_worked_105 ⟨Nat.le_of_ble_eq_true rfl, Nat.le_of_ble_eq_true rfl⟩)) ?_
          refine W.eq (g2 := F0 m 108 ls [.int (f_Cd_fieldF x_p0)]) rfl ?_
          refine lv_iload hx hb d_Co_worked_108 (lv_at hl 0 rfl) ?_
          refine lv_iload_n hx hb d_Co_worked_110 rfl (lv_at hl 1 rfl) ?_
          refine lv_iload_n hx hb d_Co_worked_111 rfl (lv_at hl 4 rfl) ?_
          have hPc := hP.sub (ws' := []) [] rfl
          refine W.callR ((W.runS (As := [.int x_p0]) (rest := [.int (g_registers_numbers (Int32.toNatClampNeg (f_Cd_fieldA x_p0))), .int 0, .int (f_Cd_fieldF x_p0)]) ⟨hx, hb, hml, hown, hts⟩ (ct_Cd_immediate l dC dI cI x_p0) (va_cwS 1 hts (gS wm_454 wm_455 wm_48 wm_456) rfl rfl rfl (by decide +kernel) ⟨Nat.le_of_ble_eq_true rfl, Nat.le_of_ble_eq_true rfl⟩) ⟨pcR_blind, pcR_pre hPc hK⟩ rfl rfl hl.1 rfl (lv_room (Nat.le_of_ble_eq_true rfl)) d_Co_worked_112 ⟨Nat.le_of_ble_eq_true rfl, Nat.le_of_ble_eq_true rfl⟩)) ?_
          refine W.eq (g2 := F0 m 115 ls [.int (f_Cd_immediate x_p0), .int (g_registers_numbers (Int32.toNatClampNeg (f_Cd_fieldA x_p0))), .int 0, .int (f_Cd_fieldF x_p0)]) rfl ?_
          have hPc := hP.sub (ws' := []) [] rfl
          refine W.callR ((W.runS (As := [.int (f_Cd_fieldF x_p0), .int 0, .int (g_registers_numbers (Int32.toNatClampNeg (f_Cd_fieldA x_p0))), .int (f_Cd_immediate x_p0)]) (rest := []) ⟨hx, hb, hml, hown, hts⟩ (ct_Cd_combine l dC dI cI (f_Cd_fieldF x_p0) 0 (g_registers_numbers (Int32.toNatClampNeg (f_Cd_fieldA x_p0))) (f_Cd_immediate x_p0)) (va_cwS 4 hts (gS wm_844 wm_845 wm_48 wm_846) rfl rfl rfl (by decide +kernel) ⟨Nat.le_of_ble_eq_true rfl, Nat.le_of_ble_eq_true rfl⟩) ⟨pcR_blind, pcR_pre hPc hK⟩ rfl rfl hl.1 rfl (lv_room (Nat.le_of_ble_eq_true rfl)) d_Co_worked_115 ⟨Nat.le_of_ble_eq_true rfl, Nat.le_of_ble_eq_true rfl⟩)) ?_
          refine W.eq (g2 := F0 m 118 ls [.int (f_Cd_combine (f_Cd_fieldF x_p0) 0 (g_registers_numbers (Int32.toNatClampNeg (f_Cd_fieldA x_p0))) (f_Cd_immediate x_p0))]) rfl ?_
          have ef : (f_Co_worked v_pc g_registers_numbers x_p0) = ((f_Cd_combine (f_Cd_fieldF x_p0) 0 (g_registers_numbers (Int32.toNatClampNeg (f_Cd_fieldA x_p0))) (f_Cd_immediate x_p0)) : Int32) := (if_neg c_1).trans ((if_neg c_2).trans ((if_neg c_3).trans ((if_neg c_4).trans rfl)))
          exact W.iret (v := (f_Cd_combine (f_Cd_fieldF x_p0) 0 (g_registers_numbers (Int32.toNatClampNeg (f_Cd_fieldA x_p0))) (f_Cd_immediate x_p0))) hx hb hr (fun t ht hW => ⟨by rw [ef], ht⟩) (fun _ h => by cases h) d_Co_worked_118
        · refine lv_iload_n hx hb d_Co_worked_90 rfl (lv_at hl 3 rfl) ?_
          have hPc := hP.sub (ws' := []) [] rfl
          refine W.callR ((W.runS (As := [.int x_p0]) (rest := []) ⟨hx, hb, hml, hown, hts⟩ (ct_Cd_fieldG l dC dI cI x_p0) (va_cwS 1 hts (gS wm_843 wm_442 wm_48 wm_443) rfl rfl rfl (by decide +kernel) ⟨Nat.le_of_ble_eq_true rfl, Nat.le_of_ble_eq_true rfl⟩) ⟨pcR_blind, pcR_pre hPc hK⟩ rfl rfl hl.1 rfl (lv_room (Nat.le_of_ble_eq_true rfl)) d_Co_worked_91 ⟨Nat.le_of_ble_eq_true rfl, Nat.le_of_ble_eq_true rfl⟩)) ?_
          refine W.eq (g2 := F0 m 94 ls [.int (f_Cd_fieldG x_p0)]) rfl ?_
          refine lv_if_eq (tgt := 101) hx hb d_Co_worked_94 (by decide) (fun c_5 => ?_) (fun c_5 => ?_)
          · refine lv_iconst (v := 0) hx hb d_Co_worked_101 (by decide) ?_
            refine lv_istore (lv' := [(4, .int 0), (3, .int (g_registers_numbers (Int32.toNatClampNeg (f_Cd_fieldA x_p0)))), (2, .int (f_Cd_codeOf x_p0)), (0, .ref h0), (1, .int x_p0)]) hx hb d_Co_worked_102 hl (by decide) rfl (fun ls hl => ?_)
            refine lv_iload_n hx hb d_Co_worked_104 rfl (lv_at hl 4 rfl) ?_
            have hPc := hP.sub (ws' := []) [] rfl
            refine W.callR ((W.runS (As := [.int x_p0]) (rest := []) ⟨hx, hb, hml, hown, hts⟩ (ct_Cd_fieldF l dC dI cI x_p0) (va_cwS 1 hts (gS wm_842 wm_436 wm_48 wm_437) rfl rfl rfl (by decide +kernel) ⟨Nat.le_of_ble_eq_true rfl, Nat.le_of_ble_eq_true rfl⟩) ⟨pcR_blind, pcR_pre hPc hK⟩ rfl rfl hl.1 rfl (lv_room (Nat.le_of_ble_eq_true rfl)) d_Co_worked_105 ⟨Nat.le_of_ble_eq_true rfl, Nat.le_of_ble_eq_true rfl⟩)) ?_
            refine W.eq (g2 := F0 m 108 ls [.int (f_Cd_fieldF x_p0)]) rfl ?_
            refine lv_iload hx hb d_Co_worked_108 (lv_at hl 0 rfl) ?_
            refine lv_iload_n hx hb d_Co_worked_110 rfl (lv_at hl 1 rfl) ?_
            refine lv_iload_n hx hb d_Co_worked_111 rfl (lv_at hl 4 rfl) ?_
            have hPc := hP.sub (ws' := []) [] rfl
            refine W.callR ((W.runS (As := [.int x_p0]) (rest := [.int (g_registers_numbers (Int32.toNatClampNeg (f_Cd_fieldA x_p0))), .int 0, .int (f_Cd_fieldF x_p0)]) ⟨hx, hb, hml, hown, hts⟩ (ct_Cd_immediate l dC dI cI x_p0) (va_cwS 1 hts (gS wm_454 wm_455 wm_48 wm_456) rfl rfl rfl (by decide +kernel) ⟨Nat.le_of_ble_eq_true rfl, Nat.le_of_ble_eq_true rfl⟩) ⟨pcR_blind, pcR_pre hPc hK⟩ rfl rfl hl.1 rfl (lv_room (Nat.le_of_ble_eq_true rfl)) d_Co_worked_112 ⟨Nat.le_of_ble_eq_true rfl, Nat.le_of_ble_eq_true rfl⟩)) ?_
            refine W.eq (g2 := F0 m 115 ls [.int (f_Cd_immediate x_p0), .int (g_registers_numbers (Int32.toNatClampNeg (f_Cd_fieldA x_p0))), .int 0, .int (f_Cd_fieldF x_p0)]) rfl ?_
            have hPc := hP.sub (ws' := []) [] rfl
            refine W.callR ((W.runS (As := [.int (f_Cd_fieldF x_p0), .int 0, .int (g_registers_numbers (Int32.toNatClampNeg (f_Cd_fieldA x_p0))), .int (f_Cd_immediate x_p0)]) (rest := []) ⟨hx, hb, hml, hown, hts⟩ (ct_Cd_combine l dC dI cI (f_Cd_fieldF x_p0) 0 (g_registers_numbers (Int32.toNatClampNeg (f_Cd_fieldA x_p0))) (f_Cd_immediate x_p0)) (va_cwS 4 hts (gS wm_844 wm_845 wm_48 wm_846) rfl rfl rfl (by decide +kernel) ⟨Nat.le_of_ble_eq_true rfl, Nat.le_of_ble_eq_true rfl⟩) ⟨pcR_blind, pcR_pre hPc hK⟩ rfl rfl hl.1 rfl (lv_room (Nat.le_of_ble_eq_true rfl)) d_Co_worked_115 ⟨Nat.le_of_ble_eq_true rfl, Nat.le_of_ble_eq_true rfl⟩)) ?_
            refine W.eq (g2 := F0 m 118 ls [.int (f_Cd_combine (f_Cd_fieldF x_p0) 0 (g_registers_numbers (Int32.toNatClampNeg (f_Cd_fieldA x_p0))) (f_Cd_immediate x_p0))]) rfl ?_
            have ef : (f_Co_worked v_pc g_registers_numbers x_p0) = ((f_Cd_combine (f_Cd_fieldF x_p0) 0 (g_registers_numbers (Int32.toNatClampNeg (f_Cd_fieldA x_p0))) (f_Cd_immediate x_p0)) : Int32) := (if_neg c_1).trans ((if_neg c_2).trans ((if_neg c_3).trans ((if_pos c_4).trans ((if_pos c_5).trans rfl))))
            exact W.iret (v := (f_Cd_combine (f_Cd_fieldF x_p0) 0 (g_registers_numbers (Int32.toNatClampNeg (f_Cd_fieldA x_p0))) (f_Cd_immediate x_p0))) hx hb hr (fun t ht hW => ⟨by rw [ef], ht⟩) (fun _ h => by cases h) d_Co_worked_118
          · refine lv_iconst (v := 1) hx hb d_Co_worked_97 (by decide) ?_
            refine lv_goto (tgt := 102) hx hb d_Co_worked_98 (by decide) ?_
            refine lv_istore (lv' := [(4, .int 1), (3, .int (g_registers_numbers (Int32.toNatClampNeg (f_Cd_fieldA x_p0)))), (2, .int (f_Cd_codeOf x_p0)), (0, .ref h0), (1, .int x_p0)]) hx hb d_Co_worked_102 hl (by decide) rfl (fun ls hl => ?_)
            refine lv_iload_n hx hb d_Co_worked_104 rfl (lv_at hl 4 rfl) ?_
            have hPc := hP.sub (ws' := []) [] rfl
            refine W.callR ((W.runS (As := [.int x_p0]) (rest := []) ⟨hx, hb, hml, hown, hts⟩ (ct_Cd_fieldF l dC dI cI x_p0) (va_cwS 1 hts (gS wm_842 wm_436 wm_48 wm_437) rfl rfl rfl (by decide +kernel) ⟨Nat.le_of_ble_eq_true rfl, Nat.le_of_ble_eq_true rfl⟩) ⟨pcR_blind, pcR_pre hPc hK⟩ rfl rfl hl.1 rfl (lv_room (Nat.le_of_ble_eq_true rfl)) d_Co_worked_105 ⟨Nat.le_of_ble_eq_true rfl, Nat.le_of_ble_eq_true rfl⟩)) ?_
            refine W.eq (g2 := F0 m 108 ls [.int (f_Cd_fieldF x_p0)]) rfl ?_
            refine lv_iload hx hb d_Co_worked_108 (lv_at hl 0 rfl) ?_
            refine lv_iload_n hx hb d_Co_worked_110 rfl (lv_at hl 1 rfl) ?_
            refine lv_iload_n hx hb d_Co_worked_111 rfl (lv_at hl 4 rfl) ?_
            have hPc := hP.sub (ws' := []) [] rfl
            refine W.callR ((W.runS (As := [.int x_p0]) (rest := [.int (g_registers_numbers (Int32.toNatClampNeg (f_Cd_fieldA x_p0))), .int 1, .int (f_Cd_fieldF x_p0)]) ⟨hx, hb, hml, hown, hts⟩ (ct_Cd_immediate l dC dI cI x_p0) (va_cwS 1 hts (gS wm_454 wm_455 wm_48 wm_456) rfl rfl rfl (by decide +kernel) ⟨Nat.le_of_ble_eq_true rfl, Nat.le_of_ble_eq_true rfl⟩) ⟨pcR_blind, pcR_pre hPc hK⟩ rfl rfl hl.1 rfl (lv_room (Nat.le_of_ble_eq_true rfl)) d_Co_worked_112 ⟨Nat.le_of_ble_eq_true rfl, Nat.le_of_ble_eq_true rfl⟩)) ?_
            refine W.eq (g2 := F0 m 115 ls [.int (f_Cd_immediate x_p0), .int (g_registers_numbers (Int32.toNatClampNeg (f_Cd_fieldA x_p0))), .int 1, .int (f_Cd_fieldF x_p0)]) rfl ?_
            have hPc := hP.sub (ws' := []) [] rfl
            refine W.callR ((W.runS (As := [.int (f_Cd_fieldF x_p0), .int 1, .int (g_registers_numbers (Int32.toNatClampNeg (f_Cd_fieldA x_p0))), .int (f_Cd_immediate x_p0)]) (rest := []) ⟨hx, hb, hml, hown, hts⟩ (ct_Cd_combine l dC dI cI (f_Cd_fieldF x_p0) 1 (g_registers_numbers (Int32.toNatClampNeg (f_Cd_fieldA x_p0))) (f_Cd_immediate x_p0)) (va_cwS 4 hts (gS wm_844 wm_845 wm_48 wm_846) rfl rfl rfl (by decide +kernel) ⟨Nat.le_of_ble_eq_true rfl, Nat.le_of_ble_eq_true rfl⟩) ⟨pcR_blind, pcR_pre hPc hK⟩ rfl rfl hl.1 rfl (lv_room (Nat.le_of_ble_eq_true rfl)) d_Co_worked_115 ⟨Nat.le_of_ble_eq_true rfl, Nat.le_of_ble_eq_true rfl⟩)) ?_
            refine W.eq (g2 := F0 m 118 ls [.int (f_Cd_combine (f_Cd_fieldF x_p0) 1 (g_registers_numbers (Int32.toNatClampNeg (f_Cd_fieldA x_p0))) (f_Cd_immediate x_p0))]) rfl ?_
            have ef : (f_Co_worked v_pc g_registers_numbers x_p0) = ((f_Cd_combine (f_Cd_fieldF x_p0) 1 (g_registers_numbers (Int32.toNatClampNeg (f_Cd_fieldA x_p0))) (f_Cd_immediate x_p0)) : Int32) := (if_neg c_1).trans ((if_neg c_2).trans ((if_neg c_3).trans ((if_pos c_4).trans ((if_neg c_5).trans rfl))))
            exact W.iret (v := (f_Cd_combine (f_Cd_fieldF x_p0) 1 (g_registers_numbers (Int32.toNatClampNeg (f_Cd_fieldA x_p0))) (f_Cd_immediate x_p0))) hx hb hr (fun t ht hW => ⟨by rw [ef], ht⟩) (fun _ h => by cases h) d_Co_worked_118
      · refine lv_iload_n hx hb d_Co_worked_50 rfl (lv_at hl 3 rfl) ?_
        have hPc := hP.sub (ws' := []) [] rfl
        refine W.callR ((W.runS (As := [.int x_p0]) (rest := []) ⟨hx, hb, hml, hown, hts⟩ (ct_Cd_fieldF l dC dI cI x_p0) (va_cwS 1 hts (gS wm_842 wm_436 wm_48 wm_437) rfl rfl rfl (by decide +kernel) ⟨Nat.le_of_ble_eq_true rfl, Nat.le_of_ble_eq_true rfl⟩) ⟨pcR_blind, pcR_pre hPc hK⟩ rfl rfl hl.1 rfl (lv_room (Nat.le_of_ble_eq_true rfl)) d_Co_worked_51 ⟨Nat.le_of_ble_eq_true rfl, Nat.le_of_ble_eq_true rfl⟩)) ?_
        refine W.eq (g2 := F0 m 54 ls [.int (f_Cd_fieldF x_p0)]) rfl ?_
        refine lv_iload_n hx hb d_Co_worked_54 rfl (lv_at hl 3 rfl) ?_
        have hPc := hP.sub (ws' := []) [] rfl
        refine W.callR ((W.runS (As := [.int x_p0]) (rest := [.int (f_Cd_fieldF x_p0)]) ⟨hx, hb, hml, hown, hts⟩ (ct_Cd_fieldG l dC dI cI x_p0) (va_cwS 1 hts (gS wm_843 wm_442 wm_48 wm_443) rfl rfl rfl (by decide +kernel) ⟨Nat.le_of_ble_eq_true rfl, Nat.le_of_ble_eq_true rfl⟩) ⟨pcR_blind, pcR_pre hPc hK⟩ rfl rfl hl.1 rfl (lv_room (Nat.le_of_ble_eq_true rfl)) d_Co_worked_55 ⟨Nat.le_of_ble_eq_true rfl, Nat.le_of_ble_eq_true rfl⟩)) ?_
        refine W.eq (g2 := F0 m 58 ls [.int (f_Cd_fieldG x_p0), .int (f_Cd_fieldF x_p0)]) rfl ?_
        refine lv_if_eq (tgt := 65) hx hb d_Co_worked_58 (by decide) (fun c_6 => ?_) (fun c_6 => ?_)
        · refine lv_iconst (v := 0) hx hb d_Co_worked_65 (by decide) ?_
          refine lv_iload_n hx hb d_Co_worked_66 rfl (lv_at hl 0 rfl) ?_
          refine lv_aload_n hx hb d_Co_worked_67 rfl (lv_at hl 2 rfl) ?_
          refine va_get (D := (dC, dI)) (ci := 5) (v := .ref a_registers) (C := "LabelledCore") (T := T_Co) (N := 17) hx hb hts in_Co hown hK hP 0 rfl rfl 1 (by decide) (hts _ wm_200) (fun _ h9 => h9) rfl d_Co_worked_68 ?_
          refine lv_iload_n hx hb d_Co_worked_71 rfl (lv_at hl 3 rfl) ?_
          have hPc := hP.sub (ws' := []) [] rfl
          refine W.callR ((W.runS (As := [.int x_p0]) (rest := [.ref a_registers, .int (g_registers_numbers (Int32.toNatClampNeg (f_Cd_fieldA x_p0))), .int 0, .int (f_Cd_fieldF x_p0)]) ⟨hx, hb, hml, hown, hts⟩ (ct_Cd_fieldB l dC dI cI x_p0) (va_cwS 1 hts (gS wm_497 wm_498 wm_48 wm_499) rfl rfl rfl (by decide +kernel) ⟨Nat.le_of_ble_eq_true rfl, Nat.le_of_ble_eq_true rfl⟩) ⟨pcR_blind, pcR_pre hPc hK⟩ rfl rfl hl.1 rfl (lv_room (Nat.le_of_ble_eq_true rfl)) d_Co_worked_72 ⟨Nat.le_of_ble_eq_true rfl, Nat.le_of_ble_eq_true rfl⟩)) ?_
          refine W.eq (g2 := F0 m 75 ls [.int (f_Cd_fieldB x_p0), .ref a_registers, .int (g_registers_numbers (Int32.toNatClampNeg (f_Cd_fieldA x_p0))), .int 0, .int (f_Cd_fieldF x_p0)]) rfl ?_
          have hPc := hP.sub (ws' := [(a_registers, .inr (0, [.ref a_registers_numbers, .ref a_registers_labels])), (a_registers_numbers, .inl (cI, 32, .inl g_registers_numbers))]) [1, 2] rfl
          refine W.callR ((W.runV (As := [.int (f_Cd_fieldB x_p0)]) (rest := [.int (g_registers_numbers (Int32.toNatClampNeg (f_Cd_fieldA x_p0))), .int 0, .int (f_Cd_fieldF x_p0)]) ⟨hx, hb, hml, hown, hts⟩ (ct_Ba_number l dC dI cI a_registers a_registers_numbers a_registers_labels 32 g_registers_numbers (f_Cd_fieldB x_p0) (in_Cd_fieldB _)) (cwV 1 hts (gV wm_466 wm_467 wm_468 wm_37 wm_469) rfl rfl rfl (by decide +kernel) ⟨Nat.le_of_ble_eq_true rfl, Nat.le_of_ble_eq_true rfl⟩) ⟨pcR_blind, va_recv hK hPc (ci := 0) (q0 := 0) rfl rfl, pcR_pre hPc hK⟩ rfl rfl hl.1 rfl (lv_room (Nat.le_of_ble_eq_true rfl)) d_Co_worked_75 ⟨Nat.le_of_ble_eq_true rfl, Nat.le_of_ble_eq_true rfl⟩)) ?_
          refine W.eq (g2 := F0 m 78 ls [.int (g_registers_numbers (Int32.toNatClampNeg (f_Cd_fieldB x_p0))), .int (g_registers_numbers (Int32.toNatClampNeg (f_Cd_fieldA x_p0))), .int 0, .int (f_Cd_fieldF x_p0)]) rfl ?_
          have hPc := hP.sub (ws' := []) [] rfl
          refine W.callR ((W.runS (As := [.int (f_Cd_fieldF x_p0), .int 0, .int (g_registers_numbers (Int32.toNatClampNeg (f_Cd_fieldA x_p0))), .int (g_registers_numbers (Int32.toNatClampNeg (f_Cd_fieldB x_p0)))]) (rest := []) ⟨hx, hb, hml, hown, hts⟩ (ct_Cd_combine l dC dI cI (f_Cd_fieldF x_p0) 0 (g_registers_numbers (Int32.toNatClampNeg (f_Cd_fieldA x_p0))) (g_registers_numbers (Int32.toNatClampNeg (f_Cd_fieldB x_p0)))) (va_cwS 4 hts (gS wm_844 wm_845 wm_48 wm_846) rfl rfl rfl (by decide +kernel) ⟨Nat.le_of_ble_eq_true rfl, Nat.le_of_ble_eq_true rfl⟩) ⟨pcR_blind, pcR_pre hPc hK⟩ rfl rfl hl.1 rfl (lv_room (Nat.le_of_ble_eq_true rfl)) d_Co_worked_78 ⟨Nat.le_of_ble_eq_true rfl, Nat.le_of_ble_eq_true rfl⟩)) ?_
          refine W.eq (g2 := F0 m 81 ls [.int (f_Cd_combine (f_Cd_fieldF x_p0) 0 (g_registers_numbers (Int32.toNatClampNeg (f_Cd_fieldA x_p0))) (g_registers_numbers (Int32.toNatClampNeg (f_Cd_fieldB x_p0))))]) rfl ?_
          have ef : (f_Co_worked v_pc g_registers_numbers x_p0) = ((f_Cd_combine (f_Cd_fieldF x_p0) 0 (g_registers_numbers (Int32.toNatClampNeg (f_Cd_fieldA x_p0))) (g_registers_numbers (Int32.toNatClampNeg (f_Cd_fieldB x_p0)))) : Int32) := (if_neg c_1).trans ((if_neg c_2).trans ((if_pos c_3).trans ((if_pos c_6).trans rfl)))
          exact W.iret (v := (f_Cd_combine (f_Cd_fieldF x_p0) 0 (g_registers_numbers (Int32.toNatClampNeg (f_Cd_fieldA x_p0))) (g_registers_numbers (Int32.toNatClampNeg (f_Cd_fieldB x_p0))))) hx hb hr (fun t ht hW => ⟨by rw [ef], ht⟩) (fun _ h => by cases h) d_Co_worked_81
        · refine lv_iconst (v := 1) hx hb d_Co_worked_61 (by decide) ?_
          refine lv_goto (tgt := 66) hx hb d_Co_worked_62 (by decide) ?_
          refine lv_iload_n hx hb d_Co_worked_66 rfl (lv_at hl 0 rfl) ?_
          refine lv_aload_n hx hb d_Co_worked_67 rfl (lv_at hl 2 rfl) ?_
          refine va_get (D := (dC, dI)) (ci := 5) (v := .ref a_registers) (C := "LabelledCore") (T := T_Co) (N := 17) hx hb hts in_Co hown hK hP 0 rfl rfl 1 (by decide) (hts _ wm_200) (fun _ h9 => h9) rfl d_Co_worked_68 ?_
          refine lv_iload_n hx hb d_Co_worked_71 rfl (lv_at hl 3 rfl) ?_
          have hPc := hP.sub (ws' := []) [] rfl
          refine W.callR ((W.runS (As := [.int x_p0]) (rest := [.ref a_registers, .int (g_registers_numbers (Int32.toNatClampNeg (f_Cd_fieldA x_p0))), .int 1, .int (f_Cd_fieldF x_p0)]) ⟨hx, hb, hml, hown, hts⟩ (ct_Cd_fieldB l dC dI cI x_p0) (va_cwS 1 hts (gS wm_497 wm_498 wm_48 wm_499) rfl rfl rfl (by decide +kernel) ⟨Nat.le_of_ble_eq_true rfl, Nat.le_of_ble_eq_true rfl⟩) ⟨pcR_blind, pcR_pre hPc hK⟩ rfl rfl hl.1 rfl (lv_room (Nat.le_of_ble_eq_true rfl)) d_Co_worked_72 ⟨Nat.le_of_ble_eq_true rfl, Nat.le_of_ble_eq_true rfl⟩)) ?_
          refine W.eq (g2 := F0 m 75 ls [.int (f_Cd_fieldB x_p0), .ref a_registers, .int (g_registers_numbers (Int32.toNatClampNeg (f_Cd_fieldA x_p0))), .int 1, .int (f_Cd_fieldF x_p0)]) rfl ?_
          have hPc := hP.sub (ws' := [(a_registers, .inr (0, [.ref a_registers_numbers, .ref a_registers_labels])), (a_registers_numbers, .inl (cI, 32, .inl g_registers_numbers))]) [1, 2] rfl
          refine W.callR ((W.runV (As := [.int (f_Cd_fieldB x_p0)]) (rest := [.int (g_registers_numbers (Int32.toNatClampNeg (f_Cd_fieldA x_p0))), .int 1, .int (f_Cd_fieldF x_p0)]) ⟨hx, hb, hml, hown, hts⟩ (ct_Ba_number l dC dI cI a_registers a_registers_numbers a_registers_labels 32 g_registers_numbers (f_Cd_fieldB x_p0) (in_Cd_fieldB _)) (cwV 1 hts (gV wm_466 wm_467 wm_468 wm_37 wm_469) rfl rfl rfl (by decide +kernel) ⟨Nat.le_of_ble_eq_true rfl, Nat.le_of_ble_eq_true rfl⟩) ⟨pcR_blind, va_recv hK hPc (ci := 0) (q0 := 0) rfl rfl, pcR_pre hPc hK⟩ rfl rfl hl.1 rfl (lv_room (Nat.le_of_ble_eq_true rfl)) d_Co_worked_75 ⟨Nat.le_of_ble_eq_true rfl, Nat.le_of_ble_eq_true rfl⟩)) ?_
          refine W.eq (g2 := F0 m 78 ls [.int (g_registers_numbers (Int32.toNatClampNeg (f_Cd_fieldB x_p0))), .int (g_registers_numbers (Int32.toNatClampNeg (f_Cd_fieldA x_p0))), .int 1, .int (f_Cd_fieldF x_p0)]) rfl ?_
          have hPc := hP.sub (ws' := []) [] rfl
          refine W.callR ((W.runS (As := [.int (f_Cd_fieldF x_p0), .int 1, .int (g_registers_numbers (Int32.toNatClampNeg (f_Cd_fieldA x_p0))), .int (g_registers_numbers (Int32.toNatClampNeg (f_Cd_fieldB x_p0)))]) (rest := []) ⟨hx, hb, hml, hown, hts⟩ (ct_Cd_combine l dC dI cI (f_Cd_fieldF x_p0) 1 (g_registers_numbers (Int32.toNatClampNeg (f_Cd_fieldA x_p0))) (g_registers_numbers (Int32.toNatClampNeg (f_Cd_fieldB x_p0)))) (va_cwS 4 hts (gS wm_844 wm_845 wm_48 wm_846) rfl rfl rfl (by decide +kernel) ⟨Nat.le_of_ble_eq_true rfl, Nat.le_of_ble_eq_true rfl⟩) ⟨pcR_blind, pcR_pre hPc hK⟩ rfl rfl hl.1 rfl (lv_room (Nat.le_of_ble_eq_true rfl)) d_Co_worked_78 ⟨Nat.le_of_ble_eq_true rfl, Nat.le_of_ble_eq_true rfl⟩)) ?_
          refine W.eq (g2 := F0 m 81 ls [.int (f_Cd_combine (f_Cd_fieldF x_p0) 1 (g_registers_numbers (Int32.toNatClampNeg (f_Cd_fieldA x_p0))) (g_registers_numbers (Int32.toNatClampNeg (f_Cd_fieldB x_p0))))]) rfl ?_
          have ef : (f_Co_worked v_pc g_registers_numbers x_p0) = ((f_Cd_combine (f_Cd_fieldF x_p0) 1 (g_registers_numbers (Int32.toNatClampNeg (f_Cd_fieldA x_p0))) (g_registers_numbers (Int32.toNatClampNeg (f_Cd_fieldB x_p0)))) : Int32) := (if_neg c_1).trans ((if_neg c_2).trans ((if_pos c_3).trans ((if_neg c_6).trans rfl)))
          exact W.iret (v := (f_Cd_combine (f_Cd_fieldF x_p0) 1 (g_registers_numbers (Int32.toNatClampNeg (f_Cd_fieldA x_p0))) (g_registers_numbers (Int32.toNatClampNeg (f_Cd_fieldB x_p0))))) hx hb hr (fun t ht hW => ⟨by rw [ef], ht⟩) (fun _ h => by cases h) d_Co_worked_81
    · refine lv_iload_n hx hb d_Co_worked_22 rfl (lv_at hl 2 rfl) ?_
      have hPc := hP.sub (ws' := []) [] rfl
      refine W.callR ((W.runS (As := [.int x_p0]) (rest := []) ⟨hx, hb, hml, hown, hts⟩ (ct_Cd_upperPart l dC dI cI x_p0) (va_cwS 1 hts (gS wm_839 wm_840 wm_48 wm_841) rfl rfl rfl (by decide +kernel) ⟨Nat.le_of_ble_eq_true rfl, Nat.le_of_ble_eq_true rfl⟩) ⟨pcR_blind, pcR_pre hPc hK⟩ rfl rfl hl.1 rfl (lv_room (Nat.le_of_ble_eq_true rfl)) d_Co_worked_23 ⟨Nat.le_of_ble_eq_true rfl, Nat.le_of_ble_eq_true rfl⟩)) ?_
      refine W.eq (g2 := F0 m 26 ls [.int (f_Cd_upperPart x_p0)]) rfl ?_
      refine lv_aload_n hx hb d_Co_worked_26 rfl (lv_at hl 1 rfl) ?_
      refine va_get (D := (dC, dI)) (ci := 5) (v := .int v_pc) (C := "LabelledCore") (T := T_Co) (N := 17) hx hb hts in_Co hown hK hP 0 rfl rfl 10 (by decide) (hts _ wm_209) (fun _ h9 => h9) rfl d_Co_worked_27 ?_
      refine lv_iadd hx hb d_Co_worked_30 ?_
      have ef : (f_Co_worked v_pc g_registers_numbers x_p0) = (((f_Cd_upperPart x_p0) + v_pc) : Int32) := (if_neg c_1).trans ((if_pos c_2).trans rfl)
      exact W.iret (v := ((f_Cd_upperPart x_p0) + v_pc)) hx hb hr (fun t ht hW => ⟨by rw [ef], ht⟩) (fun _ h => by cases h) d_Co_worked_31
  · refine lv_iload_n hx hb d_Co_worked_11 rfl (lv_at hl 2 rfl) ?_
    have hPc := hP.sub (ws' := []) [] rfl
    refine W.callR ((W.runS (As := [.int x_p0]) (rest := []) ⟨hx, hb, hml, hown, hts⟩ (ct_Cd_upperPart l dC dI cI x_p0) (va_cwS 1 hts (gS wm_839 wm_840 wm_48 wm_841) rfl rfl rfl (by decide +kernel) ⟨Nat.le_of_ble_eq_true rfl, Nat.le_of_ble_eq_true rfl⟩) ⟨pcR_blind, pcR_pre hPc hK⟩ rfl rfl hl.1 rfl (lv_room (Nat.le_of_ble_eq_true rfl)) d_Co_worked_12 ⟨Nat.le_of_ble_eq_true rfl, Nat.le_of_ble_eq_true rfl⟩)) ?_
    refine W.eq (g2 := F0 m 15 ls [.int (f_Cd_upperPart x_p0)]) rfl ?_
    have ef : (f_Co_worked v_pc g_registers_numbers x_p0) = ((f_Cd_upperPart x_p0) : Int32) := (if_pos c_1).trans rfl
    exact W.iret (v := (f_Cd_upperPart x_p0)) hx hb hr (fun t ht hW => ⟨by rw [ef], ht⟩) (fun _ h => by cases h) d_Co_worked_15
def f_Co_loaded (g_store_numbers : Nat → Int32) (x_p0 : Int32) (x_p1 : Int32) : Int32 :=
  if (f_Cd_isWhole x_p0) = 0 then
    if (f_Cd_fieldF x_p0) = 0 then
      (Int8.toInt32 (Int32.toInt8 ((jU (g_store_numbers (Int32.toNatClampNeg (f_Co_placeOf x_p1))) (f_Co_shiftOf x_p1)) &&& 255)))
    else
      ((jU (g_store_numbers (Int32.toNatClampNeg (f_Co_placeOf x_p1))) (f_Co_shiftOf x_p1)) &&& 255)
  else
    (g_store_numbers (Int32.toNatClampNeg (f_Co_placeOf x_p1)))
set_option maxHeartbeats 4000000 in
set_option maxRecDepth 100000 in
theorem ct_Co_loaded (l : Launch) (dC : Nat → ClassId) (dI : Nat → Nat → Nat) (cI : ClassId) (h0 a_program a_registers a_store a_waiting a_gone a_kernel a_known a_asked a_store_numbers a_store_labels : Nat) (v_words : Int32) (v_outcome : Int32) (v_pc : Int32) (v_pcLabel : Int32) (v_done : Int32) (v_misses : Int32) (v_longMisses : Int32) (v_resultLabel : Int32) (v_nextLabel : Int32) (g_store_numbers : Nat → Int32) (x_p0 : Int32) (x_p1 : Int32) (hs_8_0 : (vp_in (f_Co_placeOf x_p1) 64)) : Met l y_Co_loaded w_Co_loaded ({ frames := 2, cells := 0, slots := 0, locals := 40 }) (pcR dC dI cI [(h0, .inr (5, [.ref a_program, .ref a_registers, .ref a_store, .ref a_waiting, .ref a_gone, .ref a_kernel, .ref a_known, .ref a_asked, .int v_words, .int v_outcome, .int v_pc, .int v_pcLabel, .int v_done, .int v_misses, .int v_longMisses, .int v_resultLabel, .int v_nextLabel])), (a_store, .inr (0, [.ref a_store_numbers, .ref a_store_labels])), (a_store_numbers, .inl (cI, 64, .inl g_store_numbers))] [.ref h0, .int x_p0, .int x_p1]) (QcRead (f_Co_loaded g_store_numbers x_p0 x_p1)) 0 0 (fun _ => False) := by
  refine Met.ofW (cc := c_Co_loaded) (maxL := 5) (ret := (some .int)) (by decide) rfl ?_
  intro p e s m args below meth c s₁ B hml hv
  obtain ⟨rfl, hP, hK⟩ := hv
  have hx := B.exec
  have hb := B.bytes
  have hr := B.returns
  have hts : ∀ w ∈ wG, w.before _ s = true := fun w h => atoms_spec (ws := w_Co_loaded) B.pre w (List.mem_cons_of_mem _ h)
  have hown : s.vm.findClass "LabelledCore" = some m.cls := findClass_of_methodNamed B.named
  have hlocks := B.notSynchronized
  have hl := lv_entry ([.ref h0, .int x_p0, .int x_p1]) (n := 5) (Nat.le_of_ble_eq_true rfl)
  rw [lg_entry_eq]
  generalize (lg_sl ([.ref h0, .int x_p0, .int x_p1]) ++ List.replicate (5 - (lg_sl ([.ref h0, .int x_p0, .int x_p1])).length) Slot.unset).toArray = ls at hl ⊢
  have hl : lv_has ls 5 [(0, .ref h0), (1, .int x_p0), (2, .int x_p1)] := hl
  refine lv_aload_n hx hb d_Co_loaded_0 rfl (lv_at hl 0 rfl) ?_
  refine va_get (D := (dC, dI)) (ci := 5) (v := .ref a_store) (C := "LabelledCore") (T := T_Co) (N := 17) hx hb hts in_Co hown hK hP 0 rfl rfl 2 (by decide) (hts _ wm_201) (fun _ h9 => h9) rfl d_Co_loaded_1 ?_
  refine lv_iload_n hx hb d_Co_loaded_4 rfl (lv_at hl 2 rfl) ?_
  have hPc := hP.sub (ws' := []) [] rfl
  refine W.callR ((W.runS (As := [.int x_p1]) (rest := [.ref a_store]) ⟨hx, hb, hml, hown, hts⟩ (ct_Co_placeOf l dC dI cI x_p1) (va_cwS 1 hts (gS wm_500 wm_501 wm_36 wm_502) rfl rfl rfl (by decide +kernel) ⟨Nat.le_of_ble_eq_true rfl, Nat.le_of_ble_eq_true rfl⟩) ⟨pcR_blind, pcR_pre hPc hK⟩ rfl rfl hl.1 rfl (lv_room (Nat.le_of_ble_eq_true rfl)) d_Co_loaded_5 ⟨Nat.le_of_ble_eq_true rfl, Nat.le_of_ble_eq_true rfl⟩)) ?_
  refine W.eq (g2 := F0 m 8 ls [.int (f_Co_placeOf x_p1), .ref a_store]) rfl ?_
  have hPc := hP.sub (ws' := [(a_store, .inr (0, [.ref a_store_numbers, .ref a_store_labels])), (a_store_numbers, .inl (cI, 64, .inl g_store_numbers))]) [1, 2] rfl
  refine W.callR ((W.runV (As := [.int (f_Co_placeOf x_p1)]) (rest := []) ⟨hx, hb, hml, hown, hts⟩ (ct_Ba_number l dC dI cI a_store a_store_numbers a_store_labels 64 g_store_numbers (f_Co_placeOf x_p1) hs_8_0) (cwV 1 hts (gV wm_466 wm_467 wm_468 wm_37 wm_469) rfl rfl rfl (by decide +kernel) ⟨Nat.le_of_ble_eq_true rfl, Nat.le_of_ble_eq_true rfl⟩) ⟨pcR_blind, va_recv hK hPc (ci := 0) (q0 := 0) rfl rfl, pcR_pre hPc hK⟩ rfl rfl hl.1 rfl (lv_room (Nat.le_of_ble_eq_true rfl)) d_Co_loaded_8 ⟨Nat.le_of_ble_eq_true rfl, Nat.le_of_ble_eq_true rfl⟩)) ?_
  refine W.eq (g2 := F0 m 11 ls [.int (g_store_numbers (Int32.toNatClampNeg (f_Co_placeOf x_p1)))]) rfl ?_
  refine lv_istore_n (lv' := [(3, .int (g_store_numbers (Int32.toNatClampNeg (f_Co_placeOf x_p1)))), (0, .ref h0), (1, .int x_p0), (2, .int x_p1)]) hx hb d_Co_loaded_11 rfl hl (by decide) rfl (fun ls hl => ?_)
  refine lv_iload_n hx hb d_Co_loaded_12 rfl (lv_at hl 2 rfl) ?_
  have hPc := hP.sub (ws' := []) [] rfl
  refine W.callR ((W.runS (As := [.int x_p0]) (rest := []) ⟨hx, hb, hml, hown, hts⟩ (ct_Cd_isWhole l dC dI cI x_p0) (va_cwS 1 hts (gS wm_473 wm_474 wm_48 wm_475) rfl rfl rfl (by decide +kernel) ⟨Nat.le_of_ble_eq_true rfl, Nat.le_of_ble_eq_true rfl⟩) ⟨pcR_blind, pcR_pre hPc hK⟩ rfl rfl hl.1 rfl (lv_room (Nat.le_of_ble_eq_true rfl)) d_Co_loaded_13 ⟨Nat.le_of_ble_eq_true rfl, Nat.le_of_ble_eq_true rfl⟩)) ?_
  refine W.eq (g2 := F0 m 16 ls [.int (f_Cd_isWhole x_p0)]) rfl ?_
  refine lv_if_eq (tgt := 21) hx hb d_Co_loaded_16 (by decide) (fun c_1 => ?_) (fun c_1 => ?_)
  · refine lv_iload_n hx hb d_Co_loaded_21 rfl (lv_at hl 0 rfl) ?_
    refine lv_iload_n hx hb d_Co_loaded_22 rfl (lv_at hl 3 rfl) ?_
    have hPc := hP.sub (ws' := []) [] rfl
    refine W.callR ((W.runS (As := [.int x_p1]) (rest := [.int (g_store_numbers (Int32.toNatClampNeg (f_Co_placeOf x_p1)))]) ⟨hx, hb, hml, hown, hts⟩ (ct_Co_shiftOf l dC dI cI x_p1) (va_cwS 1 hts (gS wm_860 wm_861 wm_36 wm_862) rfl rfl rfl (by decide +kernel) ⟨Nat.le_of_ble_eq_true rfl, Nat.le_of_ble_eq_true rfl⟩) ⟨pcR_blind, pcR_pre hPc hK⟩ rfl rfl hl.1 rfl (lv_room (Nat.le_of_ble_eq_true rfl)) d_Co_loaded_23 ⟨Nat.le_of_ble_eq_true rfl, Nat.le_of_ble_eq_true rfl⟩)) ?_
    refine W.eq (g2 := F0 m 26 ls [.int (f_Co_shiftOf x_p1), .int (g_store_numbers (Int32.toNatClampNeg (f_Co_placeOf x_p1)))]) rfl ?_
    refine lv_iushr (v := (jU (g_store_numbers (Int32.toNatClampNeg (f_Co_placeOf x_p1))) (f_Co_shiftOf x_p1))) hx hb d_Co_loaded_26 rfl ?_
    refine lv_sipush (v := 255) hx hb d_Co_loaded_27 (by decide) ?_
    refine lv_iand hx hb d_Co_loaded_30 ?_
    refine lv_istore (lv' := [(4, .int ((jU (g_store_numbers (Int32.toNatClampNeg (f_Co_placeOf x_p1))) (f_Co_shiftOf x_p1)) &&& 255)), (3, .int (g_store_numbers (Int32.toNatClampNeg (f_Co_placeOf x_p1)))), (0, .ref h0), (1, .int x_p0), (2, .int x_p1)]) hx hb d_Co_loaded_31 hl (by decide) rfl (fun ls hl => ?_)
    refine lv_iload_n hx hb d_Co_loaded_33 rfl (lv_at hl 3 rfl) ?_
    have hPc := hP.sub (ws' := []) [] rfl
    refine W.callR ((W.runS (As := [.int x_p0]) (rest := []) ⟨hx, hb, hml, hown, hts⟩ (ct_Cd_fieldF l dC dI cI x_p0) (va_cwS 1 hts (gS wm_842 wm_436 wm_48 wm_437) rfl rfl rfl (by decide +kernel) ⟨Nat.le_of_ble_eq_true rfl, Nat.le_of_ble_eq_true rfl⟩) ⟨pcR_blind, pcR_pre hPc hK⟩ rfl rfl hl.1 rfl (lv_room (Nat.le_of_ble_eq_true rfl)) d_Co_loaded_34 ⟨Nat.le_of_ble_eq_true rfl, Nat.le_of_ble_eq_true rfl⟩)) ?_
    refine W.eq (g2 := F0 m 37 ls [.int (f_Cd_fieldF x_p0)]) rfl ?_
    refine lv_if_ne (tgt := 46) hx hb d_Co_loaded_37 (by decide) (fun c_2 => ?_) (fun c_2 => ?_)
    · refine lv_iload hx hb d_Co_loaded_46 (lv_at hl 0 rfl) ?_
      have ef : (f_Co_loaded g_store_numbers x_p0 x_p1) = (((jU (g_store_numbers (Int32.toNatClampNeg (f_Co_placeOf x_p1))) (f_Co_shiftOf x_p1)) &&& 255) : Int32) := (if_pos c_1).trans ((if_neg c_2).trans rfl)
      exact W.iret (v := ((jU (g_store_numbers (Int32.toNatClampNeg (f_Co_placeOf x_p1))) (f_Co_shiftOf x_p1)) &&& 255)) hx hb hr (fun t ht hW => ⟨by rw [ef], ht⟩) (fun _ h => by cases h) d_Co_loaded_48
    · refine lv_iload hx hb d_Co_loaded_40 (lv_at hl 0 rfl) ?_
      refine lv_i2b (v := (Int8.toInt32 (Int32.toInt8 ((jU (g_store_numbers (Int32.toNatClampNeg (f_Co_placeOf x_p1))) (f_Co_shiftOf x_p1)) &&& 255)))) hx hb d_Co_loaded_42 rfl ?_
      refine lv_goto (tgt := 48) hx hb d_Co_loaded_43 (by decide) ?_
      have ef : (f_Co_loaded g_store_numbers x_p0 x_p1) = ((Int8.toInt32 (Int32.toInt8 ((jU (g_store_numbers (Int32.toNatClampNeg (f_Co_placeOf x_p1))) (f_Co_shiftOf x_p1)) &&& 255))) : Int32) := (if_pos c_1).trans ((if_pos c_2).trans rfl)
      exact W.iret (v := (Int8.toInt32 (Int32.toInt8 ((jU (g_store_numbers (Int32.toNatClampNeg (f_Co_placeOf x_p1))) (f_Co_shiftOf x_p1)) &&& 255)))) hx hb hr (fun t ht hW => ⟨by rw [ef], ht⟩) (fun _ h => by cases h) d_Co_loaded_48
  · refine lv_iload_n hx hb d_Co_loaded_19 rfl (lv_at hl 0 rfl) ?_
    have ef : (f_Co_loaded g_store_numbers x_p0 x_p1) = ((g_store_numbers (Int32.toNatClampNeg (f_Co_placeOf x_p1))) : Int32) := (if_neg c_1).trans rfl
    exact W.iret (v := (g_store_numbers (Int32.toNatClampNeg (f_Co_placeOf x_p1)))) hx hb hr (fun t ht hW => ⟨by rw [ef], ht⟩) (fun _ h => by cases h) d_Co_loaded_20
def f_Co_patched (g_store_numbers : Nat → Int32) (g_registers_numbers : Nat → Int32) (x_p0 : Int32) (x_p1 : Int32) : Int32 :=
  (((g_store_numbers (Int32.toNatClampNeg (f_Co_placeOf x_p1))) &&& ((255 <<< ((f_Co_shiftOf x_p1) &&& 31)) ^^^ (-1))) ||| (((g_registers_numbers (Int32.toNatClampNeg (f_Cd_fieldB x_p0))) &&& 255) <<< ((f_Co_shiftOf x_p1) &&& 31)))
set_option maxHeartbeats 4000000 in
set_option maxRecDepth 100000 in
theorem ct_Co_patched (l : Launch) (dC : Nat → ClassId) (dI : Nat → Nat → Nat) (cI : ClassId) (h0 a_program a_registers a_store a_waiting a_gone a_kernel a_known a_asked a_store_numbers a_store_labels a_registers_numbers a_registers_labels : Nat) (v_words : Int32) (v_outcome : Int32) (v_pc : Int32) (v_pcLabel : Int32) (v_done : Int32) (v_misses : Int32) (v_longMisses : Int32) (v_resultLabel : Int32) (v_nextLabel : Int32) (g_store_numbers : Nat → Int32) (g_registers_numbers : Nat → Int32) (x_p0 : Int32) (x_p1 : Int32) (hs_13_0 : (vp_in (f_Co_placeOf x_p1) 64)) : Met l y_Co_patched w_Co_patched ({ frames := 1, cells := 0, slots := 0, locals := 21 }) (pcR dC dI cI [(h0, .inr (5, [.ref a_program, .ref a_registers, .ref a_store, .ref a_waiting, .ref a_gone, .ref a_kernel, .ref a_known, .ref a_asked, .int v_words, .int v_outcome, .int v_pc, .int v_pcLabel, .int v_done, .int v_misses, .int v_longMisses, .int v_resultLabel, .int v_nextLabel])), (a_store, .inr (0, [.ref a_store_numbers, .ref a_store_labels])), (a_store_numbers, .inl (cI, 64, .inl g_store_numbers)), (a_registers, .inr (0, [.ref a_registers_numbers, .ref a_registers_labels])), (a_registers_numbers, .inl (cI, 32, .inl g_registers_numbers))] [.ref h0, .int x_p0, .int x_p1]) (QcRead (f_Co_patched g_store_numbers g_registers_numbers x_p0 x_p1)) 0 0 (fun _ => False) := by
  refine Met.ofW (cc := c_Co_patched) (maxL := 5) (ret := (some .int)) (by decide) rfl ?_
  intro p e s m args below meth c s₁ B hml hv
  obtain ⟨rfl, hP, hK⟩ := hv
  have hx := B.exec
  have hb := B.bytes
  have hr := B.returns
  have hts : ∀ w ∈ wG, w.before _ s = true := fun w h => atoms_spec (ws := w_Co_patched) B.pre w (List.mem_cons_of_mem _ h)
  have hown : s.vm.findClass "LabelledCore" = some m.cls := findClass_of_methodNamed B.named
  have hlocks := B.notSynchronized
  have hl := lv_entry ([.ref h0, .int x_p0, .int x_p1]) (n := 5) (Nat.le_of_ble_eq_true rfl)
  rw [lg_entry_eq]
  generalize (lg_sl ([.ref h0, .int x_p0, .int x_p1]) ++ List.replicate (5 - (lg_sl ([.ref h0, .int x_p0, .int x_p1])).length) Slot.unset).toArray = ls at hl ⊢
  have hl : lv_has ls 5 [(0, .ref h0), (1, .int x_p0), (2, .int x_p1)] := hl
  refine lv_iload_n hx hb d_Co_patched_0 rfl (lv_at hl 2 rfl) ?_
  have hPc := hP.sub (ws' := []) [] rfl
  refine W.callR ((W.runS (As := [.int x_p1]) (rest := []) ⟨hx, hb, hml, hown, hts⟩ (ct_Co_shiftOf l dC dI cI x_p1) (va_cwS 1 hts (gS wm_860 wm_861 wm_36 wm_862) rfl rfl rfl (by decide +kernel) ⟨Nat.le_of_ble_eq_true rfl, Nat.le_of_ble_eq_true rfl⟩) ⟨pcR_blind, pcR_pre hPc hK⟩ rfl rfl hl.1 rfl (lv_room (Nat.le_of_ble_eq_true rfl)) d_Co_patched_1 ⟨Nat.le_of_ble_eq_true rfl, Nat.le_of_ble_eq_true rfl⟩)) ?_
  refine W.eq (g2 := F0 m 4 ls [.int (f_Co_shiftOf x_p1)]) rfl ?_
  refine lv_istore_n (lv' := [(3, .int (f_Co_shiftOf x_p1)), (0, .ref h0), (1, .int x_p0), (2, .int x_p1)]) hx hb d_Co_patched_4 rfl hl (by decide) rfl (fun ls hl => ?_)
  refine lv_aload_n hx hb d_Co_patched_5 rfl (lv_at hl 1 rfl) ?_
  refine va_get (D := (dC, dI)) (ci := 5) (v := .ref a_store) (C := "LabelledCore") (T := T_Co) (N := 17) hx hb hts in_Co hown hK hP 0 rfl rfl 2 (by decide) (hts _ wm_201) (fun _ h9 => h9) rfl d_Co_patched_6 ?_
  refine lv_iload_n hx hb d_Co_patched_9 rfl (lv_at hl 3 rfl) ?_
  have hPc := hP.sub (ws' := []) [] rfl
  refine W.callR ((W.runS (As := [.int x_p1]) (rest := [.ref a_store]) ⟨hx, hb, hml, hown, hts⟩ (ct_Co_placeOf l dC dI cI x_p1) (va_cwS 1 hts (gS wm_500 wm_501 wm_36 wm_502) rfl rfl rfl (by decide +kernel) ⟨Nat.le_of_ble_eq_true rfl, Nat.le_of_ble_eq_true rfl⟩) ⟨pcR_blind, pcR_pre hPc hK⟩ rfl rfl hl.1 rfl (lv_room (Nat.le_of_ble_eq_true rfl)) d_Co_patched_10 ⟨Nat.le_of_ble_eq_true rfl, Nat.le_of_ble_eq_true rfl⟩)) ?_
  refine W.eq (g2 := F0 m 13 ls [.int (f_Co_placeOf x_p1), .ref a_store]) rfl ?_
  have hPc := hP.sub (ws' := [(a_store, .inr (0, [.ref a_store_numbers, .ref a_store_labels])), (a_store_numbers, .inl (cI, 64, .inl g_store_numbers))]) [1, 2] rfl
  refine W.callR ((W.runV (As := [.int (f_Co_placeOf x_p1)]) (rest := []) ⟨hx, hb, hml, hown, hts⟩ (ct_Ba_number l dC dI cI a_store a_store_numbers a_store_labels 64 g_store_numbers (f_Co_placeOf x_p1) hs_13_0) (cwV 1 hts (gV wm_466 wm_467 wm_468 wm_37 wm_469) rfl rfl rfl (by decide +kernel) ⟨Nat.le_of_ble_eq_true rfl, Nat.le_of_ble_eq_true rfl⟩) ⟨pcR_blind, va_recv hK hPc (ci := 0) (q0 := 0) rfl rfl, pcR_pre hPc hK⟩ rfl rfl hl.1 rfl (lv_room (Nat.le_of_ble_eq_true rfl)) d_Co_patched_13 ⟨Nat.le_of_ble_eq_true rfl, Nat.le_of_ble_eq_true rfl⟩)) ?_
  refine W.eq (g2 := F0 m 16 ls [.int (g_store_numbers (Int32.toNatClampNeg (f_Co_placeOf x_p1)))]) rfl ?_
  refine lv_sipush (v := 255) hx hb d_Co_patched_16 (by decide) ?_
  refine lv_iload_n hx hb d_Co_patched_19 rfl (lv_at hl 0 rfl) ?_
  refine lv_ishl hx hb d_Co_patched_20 ?_
  refine lv_iconst (v := (-1)) hx hb d_Co_patched_21 (by decide) ?_
  refine lv_ixor hx hb d_Co_patched_22 ?_
  refine lv_iand hx hb d_Co_patched_23 ?_
  refine lv_istore (lv' := [(4, .int ((g_store_numbers (Int32.toNatClampNeg (f_Co_placeOf x_p1))) &&& ((255 <<< ((f_Co_shiftOf x_p1) &&& 31)) ^^^ (-1)))), (3, .int (f_Co_shiftOf x_p1)), (0, .ref h0), (1, .int x_p0), (2, .int x_p1)]) hx hb d_Co_patched_24 hl (by decide) rfl (fun ls hl => ?_)
  refine lv_iload hx hb d_Co_patched_26 (lv_at hl 0 rfl) ?_
  refine lv_aload_n hx hb d_Co_patched_28 rfl (lv_at hl 2 rfl) ?_
  refine va_get (D := (dC, dI)) (ci := 5) (v := .ref a_registers) (C := "LabelledCore") (T := T_Co) (N := 17) hx hb hts in_Co hown hK hP 0 rfl rfl 1 (by decide) (hts _ wm_200) (fun _ h9 => h9) rfl d_Co_patched_29 ?_
  refine lv_iload_n hx hb d_Co_patched_32 rfl (lv_at hl 3 rfl) ?_
  have hPc := hP.sub (ws' := []) [] rfl
  refine W.callR ((W.runS (As := [.int x_p0]) (rest := [.ref a_registers, .int ((g_store_numbers (Int32.toNatClampNeg (f_Co_placeOf x_p1))) &&& ((255 <<< ((f_Co_shiftOf x_p1) &&& 31)) ^^^ (-1)))]) ⟨hx, hb, hml, hown, hts⟩ (ct_Cd_fieldB l dC dI cI x_p0) (va_cwS 1 hts (gS wm_497 wm_498 wm_48 wm_499) rfl rfl rfl (by decide +kernel) ⟨Nat.le_of_ble_eq_true rfl, Nat.le_of_ble_eq_true rfl⟩) ⟨pcR_blind, pcR_pre hPc hK⟩ rfl rfl hl.1 rfl (lv_room (Nat.le_of_ble_eq_true rfl)) d_Co_patched_33 ⟨Nat.le_of_ble_eq_true rfl, Nat.le_of_ble_eq_true rfl⟩)) ?_
  refine W.eq (g2 := F0 m 36 ls [.int (f_Cd_fieldB x_p0), .ref a_registers, .int ((g_store_numbers (Int32.toNatClampNeg (f_Co_placeOf x_p1))) &&& ((255 <<< ((f_Co_shiftOf x_p1) &&& 31)) ^^^ (-1)))]) rfl ?_
  have hPc := hP.sub (ws' := [(a_registers, .inr (0, [.ref a_registers_numbers, .ref a_registers_labels])), (a_registers_numbers, .inl (cI, 32, .inl g_registers_numbers))]) [3, 4] rfl
  refine W.callR ((W.runV (As := [.int (f_Cd_fieldB x_p0)]) (rest := [.int ((g_store_numbers (Int32.toNatClampNeg (f_Co_placeOf x_p1))) &&& ((255 <<< ((f_Co_shiftOf x_p1) &&& 31)) ^^^ (-1)))]) ⟨hx, hb, hml, hown, hts⟩ (ct_Ba_number l dC dI cI a_registers a_registers_numbers a_registers_labels 32 g_registers_numbers (f_Cd_fieldB x_p0) (in_Cd_fieldB _)) (cwV 1 hts (gV wm_466 wm_467 wm_468 wm_37 wm_469) rfl rfl rfl (by decide +kernel) ⟨Nat.le_of_ble_eq_true rfl, Nat.le_of_ble_eq_true rfl⟩) ⟨pcR_blind, va_recv hK hPc (ci := 0) (q0 := 0) rfl rfl, pcR_pre hPc hK⟩ rfl rfl hl.1 rfl (lv_room (Nat.le_of_ble_eq_true rfl)) d_Co_patched_36 ⟨Nat.le_of_ble_eq_true rfl, Nat.le_of_ble_eq_true rfl⟩)) ?_
  refine W.eq (g2 := F0 m 39 ls [.int (g_registers_numbers (Int32.toNatClampNeg (f_Cd_fieldB x_p0))), .int ((g_store_numbers (Int32.toNatClampNeg (f_Co_placeOf x_p1))) &&& ((255 <<< ((f_Co_shiftOf x_p1) &&& 31)) ^^^ (-1)))]) rfl ?_
  refine lv_sipush (v := 255) hx hb d_Co_patched_39 (by decide) ?_
  refine lv_iand hx hb d_Co_patched_42 ?_
  refine lv_iload_n hx hb d_Co_patched_43 rfl (lv_at hl 1 rfl) ?_
  refine lv_ishl hx hb d_Co_patched_44 ?_
  refine lv_ior hx hb d_Co_patched_45 ?_
  have ef : (f_Co_patched g_store_numbers g_registers_numbers x_p0 x_p1) = ((((g_store_numbers (Int32.toNatClampNeg (f_Co_placeOf x_p1))) &&& ((255 <<< ((f_Co_shiftOf x_p1) &&& 31)) ^^^ (-1))) ||| (((g_registers_numbers (Int32.toNatClampNeg (f_Cd_fieldB x_p0))) &&& 255) <<< ((f_Co_shiftOf x_p1) &&& 31))) : Int32) := rfl
  exact W.iret (v := (((g_store_numbers (Int32.toNatClampNeg (f_Co_placeOf x_p1))) &&& ((255 <<< ((f_Co_shiftOf x_p1) &&& 31)) ^^^ (-1))) ||| (((g_registers_numbers (Int32.toNatClampNeg (f_Cd_fieldB x_p0))) &&& 255) <<< ((f_Co_shiftOf x_p1) &&& 31)))) hx hb hr (fun t ht hW => ⟨by rw [ef], ht⟩) (fun _ h => by cases h) d_Co_patched_46
def cu_Co_ask_45 (x_p0 : Int32) (g_registers_labels : Nat → Int32) : Int32 :=
  if (f_Cd_readsA x_p0) = 0 then
    0
  else
    (g_registers_labels (Int32.toNatClampNeg (f_Cd_fieldA x_p0)))
def cu_Co_ask_74 (x_p0 : Int32) (g_registers_labels : Nat → Int32) : Int32 :=
  if (f_Cd_readsB x_p0) = 0 then
    0
  else
    (g_registers_labels (Int32.toNatClampNeg (f_Cd_fieldB x_p0)))
def f_Co_ask (v_waiting_first : Int32) (g_waiting_held_labels : Nat → Int32) (g_store_labels : Nat → Int32) (x_p1 : Int32) (x_p2 : Int32) : Int32 :=
  if (f_Cd_usesMemory x_p1) = 0 then
    if x_p1 = 8 then
      (g_waiting_held_labels (Int32.toNatClampNeg v_waiting_first))
    else
      0
  else
    (g_store_labels (Int32.toNatClampNeg (f_Co_placeOf x_p2)))
set_option maxHeartbeats 4000000 in
set_option maxRecDepth 100000 in
theorem ct_Co_ask (l : Launch) (dC : Nat → ClassId) (dI : Nat → Nat → Nat) (cI : ClassId) (sz : Nat) (h0 a_program a_registers a_store a_waiting a_gone a_kernel a_known a_asked a_registers_numbers a_registers_labels a_waiting_held a_waiting_held_numbers a_waiting_held_labels a_store_numbers a_store_labels : Nat) (v_words : Int32) (v_outcome : Int32) (v_pc : Int32) (v_pcLabel : Int32) (v_done : Int32) (v_misses : Int32) (v_longMisses : Int32) (v_resultLabel : Int32) (v_nextLabel : Int32) (v_asked_group : Int32) (v_asked_p : Int32) (v_asked_x : Int32) (v_asked_y : Int32) (v_asked_m : Int32) (g_registers_labels : Nat → Int32) (v_waiting_room : Int32) (v_waiting_first : Int32) (v_waiting_count : Int32) (g_waiting_held_labels : Nat → Int32) (g_store_labels : Nat → Int32) (x_p0 : Int32) (x_p1 : Int32) (x_p2 : Int32) (hs_127_0 : ((f_Cd_usesMemory x_p1) = 0) → (x_p1 = 8) → ((vp_in v_waiting_first 64))) (hs_104_1 : (¬ (f_Cd_usesMemory x_p1) = 0) → (vp_in (f_Co_placeOf x_p2) 64)) : Met l y_Co_ask w_Co_ask ({ frames := 2, cells := 0, slots := 0, locals := 41 }) (pcW dC dI cI [(h0, .inr (5, [.ref a_program, .ref a_registers, .ref a_store, .ref a_waiting, .ref a_gone, .ref a_kernel, .ref a_known, .ref a_asked, .int v_words, .int v_outcome, .int v_pc, .int v_pcLabel, .int v_done, .int v_misses, .int v_longMisses, .int v_resultLabel, .int v_nextLabel])), (a_asked, .inr (2, [.int v_asked_group, .int v_asked_p, .int v_asked_x, .int v_asked_y, .int v_asked_m])), (a_registers, .inr (0, [.ref a_registers_numbers, .ref a_registers_labels])), (a_registers_labels, .inl (cI, 32, .inl g_registers_labels)), (a_waiting, .inr (4, [.ref a_waiting_held, .int v_waiting_room, .int v_waiting_first, .int v_waiting_count])), (a_waiting_held, .inr (0, [.ref a_waiting_held_numbers, .ref a_waiting_held_labels])), (a_waiting_held_labels, .inl (cI, 64, .inl g_waiting_held_labels)), (a_store, .inr (0, [.ref a_store_numbers, .ref a_store_labels])), (a_store_labels, .inl (cI, 64, .inl g_store_labels))] sz [.ref h0, .int x_p0, .int x_p1, .int x_p2]) (va_Qv (fun _ : Unit => True) (fun _ t => atW dC dI cI [(h0, .inr (5, [.ref a_program, .ref a_registers, .ref a_store, .ref a_waiting, .ref a_gone, .ref a_kernel, .ref a_known, .ref a_asked, .int v_words, .int v_outcome, .int v_pc, .int v_pcLabel, .int v_done, .int v_misses, .int v_longMisses, .int v_resultLabel, .int v_nextLabel])), (a_asked, .inr (2, [.int x_p1, .int v_pcLabel, .int (cu_Co_ask_45 x_p0 g_registers_labels), .int (cu_Co_ask_74 x_p0 g_registers_labels), .int (f_Co_ask v_waiting_first g_waiting_held_labels g_store_labels x_p1 x_p2)])), (a_registers, .inr (0, [.ref a_registers_numbers, .ref a_registers_labels])), (a_registers_labels, .inl (cI, 32, .inl g_registers_labels)), (a_waiting, .inr (4, [.ref a_waiting_held, .int v_waiting_room, .int v_waiting_first, .int v_waiting_count])), (a_waiting_held, .inr (0, [.ref a_waiting_held_numbers, .ref a_waiting_held_labels])), (a_waiting_held_labels, .inl (cI, 64, .inl g_waiting_held_labels)), (a_store, .inr (0, [.ref a_store_numbers, .ref a_store_labels])), (a_store_labels, .inl (cI, 64, .inl g_store_labels))] (va_A [(h0, .inr (5, [.ref a_program, .ref a_registers, .ref a_store, .ref a_waiting, .ref a_gone, .ref a_kernel, .ref a_known, .ref a_asked, .int v_words, .int v_outcome, .int v_pc, .int v_pcLabel, .int v_done, .int v_misses, .int v_longMisses, .int v_resultLabel, .int v_nextLabel])), (a_asked, .inr (2, [.int v_asked_group, .int v_asked_p, .int v_asked_x, .int v_asked_y, .int v_asked_m])), (a_registers, .inr (0, [.ref a_registers_numbers, .ref a_registers_labels])), (a_registers_labels, .inl (cI, 32, .inl g_registers_labels)), (a_waiting, .inr (4, [.ref a_waiting_held, .int v_waiting_room, .int v_waiting_first, .int v_waiting_count])), (a_waiting_held, .inr (0, [.ref a_waiting_held_numbers, .ref a_waiting_held_labels])), (a_waiting_held_labels, .inl (cI, 64, .inl g_waiting_held_labels)), (a_store, .inr (0, [.ref a_store_numbers, .ref a_store_labels])), (a_store_labels, .inl (cI, 64, .inl g_store_labels))] sz) t) (va_A [(h0, .inr (5, [.ref a_program, .ref a_registers, .ref a_store, .ref a_waiting, .ref a_gone, .ref a_kernel, .ref a_known, .ref a_asked, .int v_words, .int v_outcome, .int v_pc, .int v_pcLabel, .int v_done, .int v_misses, .int v_longMisses, .int v_resultLabel, .int v_nextLabel])), (a_asked, .inr (2, [.int v_asked_group, .int v_asked_p, .int v_asked_x, .int v_asked_y, .int v_asked_m])), (a_registers, .inr (0, [.ref a_registers_numbers, .ref a_registers_labels])), (a_registers_labels, .inl (cI, 32, .inl g_registers_labels)), (a_waiting, .inr (4, [.ref a_waiting_held, .int v_waiting_room, .int v_waiting_first, .int v_waiting_count])), (a_waiting_held, .inr (0, [.ref a_waiting_held_numbers, .ref a_waiting_held_labels])), (a_waiting_held_labels, .inl (cI, 64, .inl g_waiting_held_labels)), (a_store, .inr (0, [.ref a_store_numbers, .ref a_store_labels])), (a_store_labels, .inl (cI, 64, .inl g_store_labels))] sz)) 0 0 (va_A [(h0, .inr (5, [.ref a_program, .ref a_registers, .ref a_store, .ref a_waiting, .ref a_gone, .ref a_kernel, .ref a_known, .ref a_asked, .int v_words, .int v_outcome, .int v_pc, .int v_pcLabel, .int v_done, .int v_misses, .int v_longMisses, .int v_resultLabel, .int v_nextLabel])), (a_asked, .inr (2, [.int v_asked_group, .int v_asked_p, .int v_asked_x, .int v_asked_y, .int v_asked_m])), (a_registers, .inr (0, [.ref a_registers_numbers, .ref a_registers_labels])), (a_registers_labels, .inl (cI, 32, .inl g_registers_labels)), (a_waiting, .inr (4, [.ref a_waiting_held, .int v_waiting_room, .int v_waiting_first, .int v_waiting_count])), (a_waiting_held, .inr (0, [.ref a_waiting_held_numbers, .ref a_waiting_held_labels])), (a_waiting_held_labels, .inl (cI, 64, .inl g_waiting_held_labels)), (a_store, .inr (0, [.ref a_store_numbers, .ref a_store_labels])), (a_store_labels, .inl (cI, 64, .inl g_store_labels))] sz) := by
  refine Met.ofW (cc := c_Co_ask) (maxL := 4) (ret := none) (by decide) rfl ?_
  intro p e s m args below meth c s₁ B hml hv
  obtain ⟨rfl, hsz, hP, hK, hD0⟩ := hv
  have hx := B.exec
  have hb := B.bytes
  have hr := B.returns
  have hts : ∀ w ∈ wG, w.before _ s = true := fun w h => atoms_spec (ws := w_Co_ask) B.pre w (List.mem_cons_of_mem _ h)
  have hown : s.vm.findClass "LabelledCore" = some m.cls := findClass_of_methodNamed B.named
  have hlocks := B.notSynchronized
  subst hsz
  have hD := hD0.self (sz := s.heap.size)
  generalize hAe : va_A [(h0, .inr (5, [.ref a_program, .ref a_registers, .ref a_store, .ref a_waiting, .ref a_gone, .ref a_kernel, .ref a_known, .ref a_asked, .int v_words, .int v_outcome, .int v_pc, .int v_pcLabel, .int v_done, .int v_misses, .int v_longMisses, .int v_resultLabel, .int v_nextLabel])), (a_asked, .inr (2, [.int v_asked_group, .int v_asked_p, .int v_asked_x, .int v_asked_y, .int v_asked_m])), (a_registers, .inr (0, [.ref a_registers_numbers, .ref a_registers_labels])), (a_registers_labels, .inl (cI, 32, .inl g_registers_labels)), (a_waiting, .inr (4, [.ref a_waiting_held, .int v_waiting_room, .int v_waiting_first, .int v_waiting_count])), (a_waiting_held, .inr (0, [.ref a_waiting_held_numbers, .ref a_waiting_held_labels])), (a_waiting_held_labels, .inl (cI, 64, .inl g_waiting_held_labels)), (a_store, .inr (0, [.ref a_store_numbers, .ref a_store_labels])), (a_store_labels, .inl (cI, 64, .inl g_store_labels))] s.heap.size = A at hD ⊢
  have hA : ∀ q : Nat, s.heap.size ≤ q → A q := fun q h => by rw [← hAe]; exact Or.inr h
  have hS : va_S A s.heap s.heap [] := va_S.rf
  have hP : va_P (dC, dI) clsL [(h0, .inr (5, [.ref a_program, .ref a_registers, .ref a_store, .ref a_waiting, .ref a_gone, .ref a_kernel, .ref a_known, .ref a_asked, .int v_words, .int v_outcome, .int v_pc, .int v_pcLabel, .int v_done, .int v_misses, .int v_longMisses, .int v_resultLabel, .int v_nextLabel])), (a_asked, .inr (2, [.int v_asked_group, .int v_asked_p, .int v_asked_x, .int v_asked_y, .int v_asked_m])), (a_registers, .inr (0, [.ref a_registers_numbers, .ref a_registers_labels])), (a_registers_labels, .inl (cI, 32, .inl g_registers_labels)), (a_waiting, .inr (4, [.ref a_waiting_held, .int v_waiting_room, .int v_waiting_first, .int v_waiting_count])), (a_waiting_held, .inr (0, [.ref a_waiting_held_numbers, .ref a_waiting_held_labels])), (a_waiting_held_labels, .inl (cI, 64, .inl g_waiting_held_labels)), (a_store, .inr (0, [.ref a_store_numbers, .ref a_store_labels])), (a_store_labels, .inl (cI, 64, .inl g_store_labels))] s.heap := hP
  have hl := lv_entry ([.ref h0, .int x_p0, .int x_p1, .int x_p2]) (n := 4) (Nat.le_of_ble_eq_true rfl)
  rw [lg_entry_eq]
  generalize (lg_sl ([.ref h0, .int x_p0, .int x_p1, .int x_p2]) ++ List.replicate (4 - (lg_sl ([.ref h0, .int x_p0, .int x_p1, .int x_p2])).length) Slot.unset).toArray = ls at hl ⊢
  have hl : lv_has ls 4 [(0, .ref h0), (1, .int x_p0), (2, .int x_p1), (3, .int x_p2)] := hl
  refine lv_aload_n hx hb d_Co_ask_0 rfl (lv_at hl 0 rfl) ?_
  refine va_get (D := (dC, dI)) (ci := 5) (v := .ref a_asked) (C := "LabelledCore") (T := T_Co) (N := 17) hx hb hts in_Co hown hK hP 0 rfl rfl 7 (by decide) (hts _ wm_206) (fun _ h9 => h9) rfl d_Co_ask_1 ?_
  refine lv_iload_n hx hb d_Co_ask_4 rfl (lv_at hl 2 rfl) ?_
  refine va_put (D := (dC, dI)) (ci := 2) (v := .int x_p1) (ty := .int) (C := "LabelledCore$Key") (T := T_Ky) (N := 5) hx hb hts in_Ky t_Ky ty_Ky nm_Ky hown hK hP hD hS 1 rfl rfl 0 (by decide) (hts _ wm_162) (fun _ h9 => h9) rfl (by decide +kernel) rfl rfl (Nat.le_of_ble_eq_true rfl) d_Co_ask_5 (fun H locs hP hD hS => ?_)
  have hP : va_P (dC, dI) clsL [(h0, .inr (5, [.ref a_program, .ref a_registers, .ref a_store, .ref a_waiting, .ref a_gone, .ref a_kernel, .ref a_known, .ref a_asked, .int v_words, .int v_outcome, .int v_pc, .int v_pcLabel, .int v_done, .int v_misses, .int v_longMisses, .int v_resultLabel, .int v_nextLabel])), (a_asked, .inr (2, [.int x_p1, .int v_asked_p, .int v_asked_x, .int v_asked_y, .int v_asked_m])), (a_registers, .inr (0, [.ref a_registers_numbers, .ref a_registers_labels])), (a_registers_labels, .inl (cI, 32, .inl g_registers_labels)), (a_waiting, .inr (4, [.ref a_waiting_held, .int v_waiting_room, .int v_waiting_first, .int v_waiting_count])), (a_waiting_held, .inr (0, [.ref a_waiting_held_numbers, .ref a_waiting_held_labels])), (a_waiting_held_labels, .inl (cI, 64, .inl g_waiting_held_labels)), (a_store, .inr (0, [.ref a_store_numbers, .ref a_store_labels])), (a_store_labels, .inl (cI, 64, .inl g_store_labels))] H := hP
  have hD : va_D A [(h0, .inr (5, [.ref a_program, .ref a_registers, .ref a_store, .ref a_waiting, .ref a_gone, .ref a_kernel, .ref a_known, .ref a_asked, .int v_words, .int v_outcome, .int v_pc, .int v_pcLabel, .int v_done, .int v_misses, .int v_longMisses, .int v_resultLabel, .int v_nextLabel])), (a_asked, .inr (2, [.int x_p1, .int v_asked_p, .int v_asked_x, .int v_asked_y, .int v_asked_m])), (a_registers, .inr (0, [.ref a_registers_numbers, .ref a_registers_labels])), (a_registers_labels, .inl (cI, 32, .inl g_registers_labels)), (a_waiting, .inr (4, [.ref a_waiting_held, .int v_waiting_room, .int v_waiting_first, .int v_waiting_count])), (a_waiting_held, .inr (0, [.ref a_waiting_held_numbers, .ref a_waiting_held_labels])), (a_waiting_held_labels, .inl (cI, 64, .inl g_waiting_held_labels)), (a_store, .inr (0, [.ref a_store_numbers, .ref a_store_labels])), (a_store_labels, .inl (cI, 64, .inl g_store_labels))] := hD
  refine lv_aload_n hx hb d_Co_ask_8 rfl (lv_at hl 0 rfl) ?_
  refine va_get (D := (dC, dI)) (ci := 5) (v := .ref a_asked) (C := "LabelledCore") (T := T_Co) (N := 17) hx hb hts in_Co hown hK hP 0 rfl rfl 7 (by decide) (hts _ wm_206) (fun _ h9 => h9) rfl d_Co_ask_9 ?_
  refine lv_aload_n hx hb d_Co_ask_12 rfl (lv_at hl 0 rfl) ?_
  refine va_get (D := (dC, dI)) (ci := 5) (v := .int v_pcLabel) (C := "LabelledCore") (T := T_Co) (N := 17) hx hb hts in_Co hown hK hP 0 rfl rfl 11 (by decide) (hts _ wm_210) (fun _ h9 => h9) rfl d_Co_ask_13 ?_
  refine va_put (D := (dC, dI)) (ci := 2) (v := .int v_pcLabel) (ty := .int) (C := "LabelledCore$Key") (T := T_Ky) (N := 5) hx hb hts in_Ky t_Ky ty_Ky nm_Ky hown hK hP hD hS 1 rfl rfl 1 (by decide) (hts _ wm_165) (fun _ h9 => h9) rfl (by decide +kernel) rfl rfl (Nat.le_of_ble_eq_true rfl) d_Co_ask_16 (fun H locs hP hD hS => ?_)
  have hP : va_P (dC, dI) clsL [(h0, .inr (5, [.ref a_program, .ref a_registers, .ref a_store, .ref a_waiting, .ref a_gone, .ref a_kernel, .ref a_known, .ref a_asked, .int v_words, .int v_outcome, .int v_pc, .int v_pcLabel, .int v_done, .int v_misses, .int v_longMisses, .int v_resultLabel, .int v_nextLabel])), (a_asked, .inr (2, [.int x_p1, .int v_pcLabel, .int v_asked_x, .int v_asked_y, .int v_asked_m])), (a_registers, .inr (0, [.ref a_registers_numbers, .ref a_registers_labels])), (a_registers_labels, .inl (cI, 32, .inl g_registers_labels)), (a_waiting, .inr (4, [.ref a_waiting_held, .int v_waiting_room, .int v_waiting_first, .int v_waiting_count])), (a_waiting_held, .inr (0, [.ref a_waiting_held_numbers, .ref a_waiting_held_labels])), (a_waiting_held_labels, .inl (cI, 64, .inl g_waiting_held_labels)), (a_store, .inr (0, [.ref a_store_numbers, .ref a_store_labels])), (a_store_labels, .inl (cI, 64, .inl g_store_labels))] H := hP
  have hD : va_D A [(h0, .inr (5, [.ref a_program, .ref a_registers, .ref a_store, .ref a_waiting, .ref a_gone, .ref a_kernel, .ref a_known, .ref a_asked, .int v_words, .int v_outcome, .int v_pc, .int v_pcLabel, .int v_done, .int v_misses, .int v_longMisses, .int v_resultLabel, .int v_nextLabel])), (a_asked, .inr (2, [.int x_p1, .int v_pcLabel, .int v_asked_x, .int v_asked_y, .int v_asked_m])), (a_registers, .inr (0, [.ref a_registers_numbers, .ref a_registers_labels])), (a_registers_labels, .inl (cI, 32, .inl g_registers_labels)), (a_waiting, .inr (4, [.ref a_waiting_held, .int v_waiting_room, .int v_waiting_first, .int v_waiting_count])), (a_waiting_held, .inr (0, [.ref a_waiting_held_numbers, .ref a_waiting_held_labels])), (a_waiting_held_labels, .inl (cI, 64, .inl g_waiting_held_labels)), (a_store, .inr (0, [.ref a_store_numbers, .ref a_store_labels])), (a_store_labels, .inl (cI, 64, .inl g_store_labels))] := hD
  refine lv_aload_n hx hb d_Co_ask_19 rfl (lv_at hl 0 rfl) ?_
  refine va_get (D := (dC, dI)) (ci := 5) (v := .ref a_asked) (C := "LabelledCore") (T := T_Co) (N := 17) hx hb hts in_Co hown hK hP 0 rfl rfl 7 (by decide) (hts _ wm_206) (fun _ h9 => h9) rfl d_Co_ask_20 ?_
  have hcut_45 : W p l e (headSpec w_Co_ask ({ frames := 2, cells := 0, slots := 0, locals := 41 })).room s m ([.ref h0, .int x_p0, .int x_p1, .int x_p2] : List Value).toArray below meth c H locs 0 0 (MQ below (va_Qv (fun _ : Unit => True) (fun _ t => atW dC dI cI [(h0, .inr (5, [.ref a_program, .ref a_registers, .ref a_store, .ref a_waiting, .ref a_gone, .ref a_kernel, .ref a_known, .ref a_asked, .int v_words, .int v_outcome, .int v_pc, .int v_pcLabel, .int v_done, .int v_misses, .int v_longMisses, .int v_resultLabel, .int v_nextLabel])), (a_asked, .inr (2, [.int x_p1, .int v_pcLabel, .int (cu_Co_ask_45 x_p0 g_registers_labels), .int (cu_Co_ask_74 x_p0 g_registers_labels), .int (f_Co_ask v_waiting_first g_waiting_held_labels g_store_labels x_p1 x_p2)])), (a_registers, .inr (0, [.ref a_registers_numbers, .ref a_registers_labels])), (a_registers_labels, .inl (cI, 32, .inl g_registers_labels)), (a_waiting, .inr (4, [.ref a_waiting_held, .int v_waiting_room, .int v_waiting_first, .int v_waiting_count])), (a_waiting_held, .inr (0, [.ref a_waiting_held_numbers, .ref a_waiting_held_labels])), (a_waiting_held_labels, .inl (cI, 64, .inl g_waiting_held_labels)), (a_store, .inr (0, [.ref a_store_numbers, .ref a_store_labels])), (a_store_labels, .inl (cI, 64, .inl g_store_labels))] A t) A) ([.ref h0, .int x_p0, .int x_p1, .int x_p2] : List Value).toArray s 0 0 A) (F0 m 45 ls [.int (cu_Co_ask_45 x_p0 g_registers_labels), .ref a_asked]) := by
    refine va_put (D := (dC, dI)) (ci := 2) (v := .int (cu_Co_ask_45 x_p0 g_registers_labels)) (ty := .int) (C := "LabelledCore$Key") (T := T_Ky) (N := 5) hx hb hts in_Ky t_Ky ty_Ky nm_Ky hown hK hP hD hS 1 rfl rfl 2 (by decide) (hts _ wm_168) (fun _ h9 => h9) rfl (by decide +kernel) rfl rfl (Nat.le_of_ble_eq_true rfl) d_Co_ask_45 (fun H locs hP hD hS => ?_)
    have hP : va_P (dC, dI) clsL [(h0, .inr (5, [.ref a_program, .ref a_registers, .ref a_store, .ref a_waiting, .ref a_gone, .ref a_kernel, .ref a_known, .ref a_asked, .int v_words, .int v_outcome, .int v_pc, .int v_pcLabel, .int v_done, .int v_misses, .int v_longMisses, .int v_resultLabel, .int v_nextLabel])), (a_asked, .inr (2, [.int x_p1, .int v_pcLabel, .int (cu_Co_ask_45 x_p0 g_registers_labels), .int v_asked_y, .int v_asked_m])), (a_registers, .inr (0, [.ref a_registers_numbers, .ref a_registers_labels])), (a_registers_labels, .inl (cI, 32, .inl g_registers_labels)), (a_waiting, .inr (4, [.ref a_waiting_held, .int v_waiting_room, .int v_waiting_first, .int v_waiting_count])), (a_waiting_held, .inr (0, [.ref a_waiting_held_numbers, .ref a_waiting_held_labels])), (a_waiting_held_labels, .inl (cI, 64, .inl g_waiting_held_labels)), (a_store, .inr (0, [.ref a_store_numbers, .ref a_store_labels])), (a_store_labels, .inl (cI, 64, .inl g_store_labels))] H := hP
    have hD : va_D A [(h0, .inr (5, [.ref a_program, .ref a_registers, .ref a_store, .ref a_waiting, .ref a_gone, .ref a_kernel, .ref a_known, .ref a_asked, .int v_words, .int v_outcome, .int v_pc, .int v_pcLabel, .int v_done, .int v_misses, .int v_longMisses, .int v_resultLabel, .int v_nextLabel])), (a_asked, .inr (2, [.int x_p1, .int v_pcLabel, .int (cu_Co_ask_45 x_p0 g_registers_labels), .int v_asked_y, .int v_asked_m])), (a_registers, .inr (0, [.ref a_registers_numbers, .ref a_registers_labels])), (a_registers_labels, .inl (cI, 32, .inl g_registers_labels)), (a_waiting, .inr (4, [.ref a_waiting_held, .int v_waiting_room, .int v_waiting_first, .int v_waiting_count])), (a_waiting_held, .inr (0, [.ref a_waiting_held_numbers, .ref a_waiting_held_labels])), (a_waiting_held_labels, .inl (cI, 64, .inl g_waiting_held_labels)), (a_store, .inr (0, [.ref a_store_numbers, .ref a_store_labels])), (a_store_labels, .inl (cI, 64, .inl g_store_labels))] := hD
    refine lv_aload_n hx hb d_Co_ask_48 rfl (lv_at hl 0 rfl) ?_
    refine va_get (D := (dC, dI)) (ci := 5) (v := .ref a_asked) (C := "LabelledCore") (T := T_Co) (N := 17) hx hb hts in_Co hown hK hP 0 rfl rfl 7 (by decide) (hts _ wm_206) (fun _ h9 => h9) rfl d_Co_ask_49 ?_
    have hcut_74 : W p l e (headSpec w_Co_ask ({ frames := 2, cells := 0, slots := 0, locals := 41 })).room s m ([.ref h0, .int x_p0, .int x_p1, .int x_p2] : List Value).toArray below meth c H locs 0 0 (MQ below (va_Qv (fun _ : Unit => True) (fun _ t => atW dC dI cI [(h0, .inr (5, [.ref a_program, .ref a_registers, .ref a_store, .ref a_waiting, .ref a_gone, .ref a_kernel, .ref a_known, .ref a_asked, .int v_words, .int v_outcome, .int v_pc, .int v_pcLabel, .int v_done, .int v_misses, .int v_longMisses, .int v_resultLabel, .int v_nextLabel])), (a_asked, .inr (2, [.int x_p1, .int v_pcLabel, .int (cu_Co_ask_45 x_p0 g_registers_labels), .int (cu_Co_ask_74 x_p0 g_registers_labels), .int (f_Co_ask v_waiting_first g_waiting_held_labels g_store_labels x_p1 x_p2)])), (a_registers, .inr (0, [.ref a_registers_numbers, .ref a_registers_labels])), (a_registers_labels, .inl (cI, 32, .inl g_registers_labels)), (a_waiting, .inr (4, [.ref a_waiting_held, .int v_waiting_room, .int v_waiting_first, .int v_waiting_count])), (a_waiting_held, .inr (0, [.ref a_waiting_held_numbers, .ref a_waiting_held_labels])), (a_waiting_held_labels, .inl (cI, 64, .inl g_waiting_held_labels)), (a_store, .inr (0, [.ref a_store_numbers, .ref a_store_labels])), (a_store_labels, .inl (cI, 64, .inl g_store_labels))] A t) A) ([.ref h0, .int x_p0, .int x_p1, .int x_p2] : List Value).toArray s 0 0 A) (F0 m 74 ls [.int (cu_Co_ask_74 x_p0 g_registers_labels), .ref a_asked]) := by
      refine va_put (D := (dC, dI)) (ci := 2) (v := .int (cu_Co_ask_74 x_p0 g_registers_labels)) (ty := .int) (C := "LabelledCore$Key") (T := T_Ky) (N := 5) hx hb hts in_Ky t_Ky ty_Ky nm_Ky hown hK hP hD hS 1 rfl rfl 3 (by decide) (hts _ wm_171) (fun _ h9 => h9) rfl (by decide +kernel) rfl rfl (Nat.le_of_ble_eq_true rfl) d_Co_ask_74 (fun H locs hP hD hS => ?_)
      have hP : va_P (dC, dI) clsL [(h0, .inr (5, [.ref a_program, .ref a_registers, .ref a_store, .ref a_waiting, .ref a_gone, .ref a_kernel, .ref a_known, .ref a_asked, .int v_words, .int v_outcome, .int v_pc, .int v_pcLabel, .int v_done, .int v_misses, .int v_longMisses, .int v_resultLabel, .int v_nextLabel])), (a_asked, .inr (2, [.int x_p1, .int v_pcLabel, .int (cu_Co_ask_45 x_p0 g_registers_labels), .int (cu_Co_ask_74 x_p0 g_registers_labels), .int v_asked_m])), (a_registers, .inr (0, [.ref a_registers_numbers, .ref a_registers_labels])), (a_registers_labels, .inl (cI, 32, .inl g_registers_labels)), (a_waiting, .inr (4, [.ref a_waiting_held, .int v_waiting_room, .int v_waiting_first, .int v_waiting_count])), (a_waiting_held, .inr (0, [.ref a_waiting_held_numbers, .ref a_waiting_held_labels])), (a_waiting_held_labels, .inl (cI, 64, .inl g_waiting_held_labels)), (a_store, .inr (0, [.ref a_store_numbers, .ref a_store_labels])), (a_store_labels, .inl (cI, 64, .inl g_store_labels))] H := hP
      have hD : va_D A [(h0, .inr (5, [.ref a_program, .ref a_registers, .ref a_store, .ref a_waiting, .ref a_gone, .ref a_kernel, .ref a_known, .ref a_asked, .int v_words, .int v_outcome, .int v_pc, .int v_pcLabel, .int v_done, .int v_misses, .int v_longMisses, .int v_resultLabel, .int v_nextLabel])), (a_asked, .inr (2, [.int x_p1, .int v_pcLabel, .int (cu_Co_ask_45 x_p0 g_registers_labels), .int (cu_Co_ask_74 x_p0 g_registers_labels), .int v_asked_m])), (a_registers, .inr (0, [.ref a_registers_numbers, .ref a_registers_labels])), (a_registers_labels, .inl (cI, 32, .inl g_registers_labels)), (a_waiting, .inr (4, [.ref a_waiting_held, .int v_waiting_room, .int v_waiting_first, .int v_waiting_count])), (a_waiting_held, .inr (0, [.ref a_waiting_held_numbers, .ref a_waiting_held_labels])), (a_waiting_held_labels, .inl (cI, 64, .inl g_waiting_held_labels)), (a_store, .inr (0, [.ref a_store_numbers, .ref a_store_labels])), (a_store_labels, .inl (cI, 64, .inl g_store_labels))] := hD
      refine lv_aload_n hx hb d_Co_ask_77 rfl (lv_at hl 0 rfl) ?_
      refine va_get (D := (dC, dI)) (ci := 5) (v := .ref a_asked) (C := "LabelledCore") (T := T_Co) (N := 17) hx hb hts in_Co hown hK hP 0 rfl rfl 7 (by decide) (hts _ wm_206) (fun _ h9 => h9) rfl d_Co_ask_78 ?_
      refine lv_iconst (v := 0) hx hb d_Co_ask_81 (by decide) ?_
      refine va_put (D := (dC, dI)) (ci := 2) (v := .int 0) (ty := .int) (C := "LabelledCore$Key") (T := T_Ky) (N := 5) hx hb hts in_Ky t_Ky ty_Ky nm_Ky hown hK hP hD hS 1 rfl rfl 4 (by decide) (hts _ wm_174) (fun _ h9 => h9) rfl (by decide +kernel) rfl rfl (Nat.le_of_ble_eq_true rfl) d_Co_ask_82 (fun H locs hP hD hS => ?_)
      have hP : va_P (dC, dI) clsL [(h0, .inr (5, [.ref a_program, .ref a_registers, .ref a_store, .ref a_waiting, .ref a_gone, .ref a_kernel, .ref a_known, .ref a_asked, .int v_words, .int v_outcome, .int v_pc, .int v_pcLabel, .int v_done, .int v_misses, .int v_longMisses, .int v_resultLabel, .int v_nextLabel])), (a_asked, .inr (2, [.int x_p1, .int v_pcLabel, .int (cu_Co_ask_45 x_p0 g_registers_labels), .int (cu_Co_ask_74 x_p0 g_registers_labels), .int 0])), (a_registers, .inr (0, [.ref a_registers_numbers, .ref a_registers_labels])), (a_registers_labels, .inl (cI, 32, .inl g_registers_labels)), (a_waiting, .inr (4, [.ref a_waiting_held, .int v_waiting_room, .int v_waiting_first, .int v_waiting_count])), (a_waiting_held, .inr (0, [.ref a_waiting_held_numbers, .ref a_waiting_held_labels])), (a_waiting_held_labels, .inl (cI, 64, .inl g_waiting_held_labels)), (a_store, .inr (0, [.ref a_store_numbers, .ref a_store_labels])), (a_store_labels, .inl (cI, 64, .inl g_store_labels))] H := hP
      have hD : va_D A [(h0, .inr (5, [.ref a_program, .ref a_registers, .ref a_store, .ref a_waiting, .ref a_gone, .ref a_kernel, .ref a_known, .ref a_asked, .int v_words, .int v_outcome, .int v_pc, .int v_pcLabel, .int v_done, .int v_misses, .int v_longMisses, .int v_resultLabel, .int v_nextLabel])), (a_asked, .inr (2, [.int x_p1, .int v_pcLabel, .int (cu_Co_ask_45 x_p0 g_registers_labels), .int (cu_Co_ask_74 x_p0 g_registers_labels), .int 0])), (a_registers, .inr (0, [.ref a_registers_numbers, .ref a_registers_labels])), (a_registers_labels, .inl (cI, 32, .inl g_registers_labels)), (a_waiting, .inr (4, [.ref a_waiting_held, .int v_waiting_room, .int v_waiting_first, .int v_waiting_count])), (a_waiting_held, .inr (0, [.ref a_waiting_held_numbers, .ref a_waiting_held_labels])), (a_waiting_held_labels, .inl (cI, 64, .inl g_waiting_held_labels)), (a_store, .inr (0, [.ref a_store_numbers, .ref a_store_labels])), (a_store_labels, .inl (cI, 64, .inl g_store_labels))] := hD
      refine lv_iload_n hx hb d_Co_ask_85 rfl (lv_at hl 2 rfl) ?_
      have hPc := hP.sub (ws' := []) [] rfl
      refine W.callR ((W.runS (As := [.int x_p1]) (rest := []) ⟨hx, hb, hml, hown, hts⟩ (ct_Cd_usesMemory l dC dI cI x_p1) (va_cwS 1 hts (gS wm_470 wm_471 wm_48 wm_472) rfl rfl rfl (by decide +kernel) ⟨Nat.le_of_ble_eq_true rfl, Nat.le_of_ble_eq_true rfl⟩) ⟨pcR_blind, pcR_pre hPc hK⟩ rfl rfl hl.1 rfl (lv_room (Nat.le_of_ble_eq_true rfl)) d_Co_ask_86 ⟨Nat.le_of_ble_eq_true rfl, Nat.le_of_ble_eq_true rfl⟩)) ?_
      refine W.eq (g2 := F0 m 89 ls [.int (f_Cd_usesMemory x_p1)]) rfl ?_
      refine lv_if_eq (tgt := 113) hx hb d_Co_ask_89 (by decide) (fun c_1 => ?_) (fun c_1 => ?_)
      · refine lv_iload_n hx hb d_Co_ask_113 rfl (lv_at hl 2 rfl) ?_
        refine lv_bipush (v := 8) hx hb d_Co_ask_114 (by decide) ?_
        refine lv_icmp_ne (tgt := 133) hx hb d_Co_ask_116 (by decide) (fun c_2 => ?_) (fun c_2 => ?_)
        · have ef : (f_Co_ask v_waiting_first g_waiting_held_labels g_store_labels x_p1 x_p2) = (0 : Int32) := (if_pos c_1).trans ((if_neg c_2).trans rfl)
          have hP9 := hP.sub (ws' := [(h0, .inr (5, [.ref a_program, .ref a_registers, .ref a_store, .ref a_waiting, .ref a_gone, .ref a_kernel, .ref a_known, .ref a_asked, .int v_words, .int v_outcome, .int v_pc, .int v_pcLabel, .int v_done, .int v_misses, .int v_longMisses, .int v_resultLabel, .int v_nextLabel])), (a_asked, .inr (2, [.int x_p1, .int v_pcLabel, .int (cu_Co_ask_45 x_p0 g_registers_labels), .int (cu_Co_ask_74 x_p0 g_registers_labels), .int 0])), (a_registers, .inr (0, [.ref a_registers_numbers, .ref a_registers_labels])), (a_registers_labels, .inl (cI, 32, .inl g_registers_labels)), (a_waiting, .inr (4, [.ref a_waiting_held, .int v_waiting_room, .int v_waiting_first, .int v_waiting_count])), (a_waiting_held, .inr (0, [.ref a_waiting_held_numbers, .ref a_waiting_held_labels])), (a_waiting_held_labels, .inl (cI, 64, .inl g_waiting_held_labels)), (a_store, .inr (0, [.ref a_store_numbers, .ref a_store_labels])), (a_store_labels, .inl (cI, 64, .inl g_store_labels))]) [0, 1, 2, 3, 4, 5, 6, 7, 8] rfl
          have hD9 := hD.sub (ws' := [(h0, .inr (5, [.ref a_program, .ref a_registers, .ref a_store, .ref a_waiting, .ref a_gone, .ref a_kernel, .ref a_known, .ref a_asked, .int v_words, .int v_outcome, .int v_pc, .int v_pcLabel, .int v_done, .int v_misses, .int v_longMisses, .int v_resultLabel, .int v_nextLabel])), (a_asked, .inr (2, [.int x_p1, .int v_pcLabel, .int (cu_Co_ask_45 x_p0 g_registers_labels), .int (cu_Co_ask_74 x_p0 g_registers_labels), .int 0])), (a_registers, .inr (0, [.ref a_registers_numbers, .ref a_registers_labels])), (a_registers_labels, .inl (cI, 32, .inl g_registers_labels)), (a_waiting, .inr (4, [.ref a_waiting_held, .int v_waiting_room, .int v_waiting_first, .int v_waiting_count])), (a_waiting_held, .inr (0, [.ref a_waiting_held_numbers, .ref a_waiting_held_labels])), (a_waiting_held_labels, .inl (cI, 64, .inl g_waiting_held_labels)), (a_store, .inr (0, [.ref a_store_numbers, .ref a_store_labels])), (a_store_labels, .inl (cI, 64, .inl g_store_labels))]) [0, 1, 2, 3, 4, 5, 6, 7, 8] (by decide) rfl
          exact W.vret hx hb hr (fun t ht hW => ⟨⟨(), rfl, trivial, by rw [ef, ht]; exact hP9, va_K.moved hW.alike hK, by rw [ef]; exact hD9⟩, hS.F ht⟩) hS.2.2 d_Co_ask_133
        · refine lv_aload_n hx hb d_Co_ask_119 rfl (lv_at hl 0 rfl) ?_
          refine va_get (D := (dC, dI)) (ci := 5) (v := .ref a_asked) (C := "LabelledCore") (T := T_Co) (N := 17) hx hb hts in_Co hown hK hP 0 rfl rfl 7 (by decide) (hts _ wm_206) (fun _ h9 => h9) rfl d_Co_ask_120 ?_
          refine lv_aload_n hx hb d_Co_ask_123 rfl (lv_at hl 0 rfl) ?_
          refine va_get (D := (dC, dI)) (ci := 5) (v := .ref a_waiting) (C := "LabelledCore") (T := T_Co) (N := 17) hx hb hts in_Co hown hK hP 0 rfl rfl 3 (by decide) (hts _ wm_202) (fun _ h9 => h9) rfl d_Co_ask_124 ?_
          have hPc := hP.sub (ws' := [(a_waiting, .inr (4, [.ref a_waiting_held, .int v_waiting_room, .int v_waiting_first, .int v_waiting_count])), (a_waiting_held, .inr (0, [.ref a_waiting_held_numbers, .ref a_waiting_held_labels])), (a_waiting_held_labels, .inl (cI, 64, .inl g_waiting_held_labels))]) [4, 5, 6] rfl
          refine W.callR ((W.runV (As := []) (rest := [.ref a_asked]) ⟨hx, hb, hml, hown, hts⟩ (ct_Li_firstLabel l dC dI cI a_waiting a_waiting_held a_waiting_held_numbers a_waiting_held_labels 64 v_waiting_room v_waiting_first v_waiting_count g_waiting_held_labels (hs_127_0 c_1 c_2)) (cwV 0 hts (gV wm_503 wm_504 wm_505 wm_38 wm_506) rfl rfl rfl (by decide +kernel) ⟨Nat.le_of_ble_eq_true rfl, Nat.le_of_ble_eq_true rfl⟩) ⟨pcR_blind, va_recv hK hPc (ci := 4) (q0 := 0) rfl rfl, pcR_pre hPc hK⟩ rfl rfl hl.1 rfl (lv_room (Nat.le_of_ble_eq_true rfl)) d_Co_ask_127 ⟨Nat.le_of_ble_eq_true rfl, Nat.le_of_ble_eq_true rfl⟩)) ?_
          refine W.eq (g2 := F0 m 130 ls [.int (g_waiting_held_labels (Int32.toNatClampNeg v_waiting_first)), .ref a_asked]) rfl ?_
          refine va_put (D := (dC, dI)) (ci := 2) (v := .int (g_waiting_held_labels (Int32.toNatClampNeg v_waiting_first))) (ty := .int) (C := "LabelledCore$Key") (T := T_Ky) (N := 5) hx hb hts in_Ky t_Ky ty_Ky nm_Ky hown hK hP hD hS 1 rfl rfl 4 (by decide) (hts _ wm_174) (fun _ h9 => h9) rfl (by decide +kernel) rfl rfl (Nat.le_of_ble_eq_true rfl) d_Co_ask_130 (fun H locs hP hD hS => ?_)
          have hP : va_P (dC, dI) clsL [(h0, .inr (5, [.ref a_program, .ref a_registers, .ref a_store, .ref a_waiting, .ref a_gone, .ref a_kernel, .ref a_known, .ref a_asked, .int v_words, .int v_outcome, .int v_pc, .int v_pcLabel, .int v_done, .int v_misses, .int v_longMisses, .int v_resultLabel, .int v_nextLabel])), (a_asked, .inr (2, [.int x_p1, .int v_pcLabel, .int (cu_Co_ask_45 x_p0 g_registers_labels), .int (cu_Co_ask_74 x_p0 g_registers_labels), .int (g_waiting_held_labels (Int32.toNatClampNeg v_waiting_first))])), (a_registers, .inr (0, [.ref a_registers_numbers, .ref a_registers_labels])), (a_registers_labels, .inl (cI, 32, .inl g_registers_labels)), (a_waiting, .inr (4, [.ref a_waiting_held, .int v_waiting_room, .int v_waiting_first, .int v_waiting_count])), (a_waiting_held, .inr (0, [.ref a_waiting_held_numbers, .ref a_waiting_held_labels])), (a_waiting_held_labels, .inl (cI, 64, .inl g_waiting_held_labels)), (a_store, .inr (0, [.ref a_store_numbers, .ref a_store_labels])), (a_store_labels, .inl (cI, 64, .inl g_store_labels))] H := hP
          have hD : va_D A [(h0, .inr (5, [.ref a_program, .ref a_registers, .ref a_store, .ref a_waiting, .ref a_gone, .ref a_kernel, .ref a_known, .ref a_asked, .int v_words, .int v_outcome, .int v_pc, .int v_pcLabel, .int v_done, .int v_misses, .int v_longMisses, .int v_resultLabel, .int v_nextLabel])), (a_asked, .inr (2, [.int x_p1, .int v_pcLabel, .int (cu_Co_ask_45 x_p0 g_registers_labels), .int (cu_Co_ask_74 x_p0 g_registers_labels), .int (g_waiting_held_labels (Int32.toNatClampNeg v_waiting_first))])), (a_registers, .inr (0, [.ref a_registers_numbers, .ref a_registers_labels])), (a_registers_labels, .inl (cI, 32, .inl g_registers_labels)), (a_waiting, .inr (4, [.ref a_waiting_held, .int v_waiting_room, .int v_waiting_first, .int v_waiting_count])), (a_waiting_held, .inr (0, [.ref a_waiting_held_numbers, .ref a_waiting_held_labels])), (a_waiting_held_labels, .inl (cI, 64, .inl g_waiting_held_labels)), (a_store, .inr (0, [.ref a_store_numbers, .ref a_store_labels])), (a_store_labels, .inl (cI, 64, .inl g_store_labels))] := hD
          have ef : (f_Co_ask v_waiting_first g_waiting_held_labels g_store_labels x_p1 x_p2) = ((g_waiting_held_labels (Int32.toNatClampNeg v_waiting_first)) : Int32) := (if_pos c_1).trans ((if_pos c_2).trans rfl)
          have hP9 := hP.sub (ws' := [(h0, .inr (5, [.ref a_program, .ref a_registers, .ref a_store, .ref a_waiting, .ref a_gone, .ref a_kernel, .ref a_known, .ref a_asked, .int v_words, .int v_outcome, .int v_pc, .int v_pcLabel, .int v_done, .int v_misses, .int v_longMisses, .int v_resultLabel, .int v_nextLabel])), (a_asked, .inr (2, [.int x_p1, .int v_pcLabel, .int (cu_Co_ask_45 x_p0 g_registers_labels), .int (cu_Co_ask_74 x_p0 g_registers_labels), .int (g_waiting_held_labels (Int32.toNatClampNeg v_waiting_first))])), (a_registers, .inr (0, [.ref a_registers_numbers, .ref a_registers_labels])), (a_registers_labels, .inl (cI, 32, .inl g_registers_labels)), (a_waiting, .inr (4, [.ref a_waiting_held, .int v_waiting_room, .int v_waiting_first, .int v_waiting_count])), (a_waiting_held, .inr (0, [.ref a_waiting_held_numbers, .ref a_waiting_held_labels])), (a_waiting_held_labels, .inl (cI, 64, .inl g_waiting_held_labels)), (a_store, .inr (0, [.ref a_store_numbers, .ref a_store_labels])), (a_store_labels, .inl (cI, 64, .inl g_store_labels))]) [0, 1, 2, 3, 4, 5, 6, 7, 8] rfl
          have hD9 := hD.sub (ws' := [(h0, .inr (5, [.ref a_program, .ref a_registers, .ref a_store, .ref a_waiting, .ref a_gone, .ref a_kernel, .ref a_known, .ref a_asked, .int v_words, .int v_outcome, .int v_pc, .int v_pcLabel, .int v_done, .int v_misses, .int v_longMisses, .int v_resultLabel, .int v_nextLabel])), (a_asked, .inr (2, [.int x_p1, .int v_pcLabel, .int (cu_Co_ask_45 x_p0 g_registers_labels), .int (cu_Co_ask_74 x_p0 g_registers_labels), .int (g_waiting_held_labels (Int32.toNatClampNeg v_waiting_first))])), (a_registers, .inr (0, [.ref a_registers_numbers, .ref a_registers_labels])), (a_registers_labels, .inl (cI, 32, .inl g_registers_labels)), (a_waiting, .inr (4, [.ref a_waiting_held, .int v_waiting_room, .int v_waiting_first, .int v_waiting_count])), (a_waiting_held, .inr (0, [.ref a_waiting_held_numbers, .ref a_waiting_held_labels])), (a_waiting_held_labels, .inl (cI, 64, .inl g_waiting_held_labels)), (a_store, .inr (0, [.ref a_store_numbers, .ref a_store_labels])), (a_store_labels, .inl (cI, 64, .inl g_store_labels))]) [0, 1, 2, 3, 4, 5, 6, 7, 8] (by decide) rfl
          exact W.vret hx hb hr (fun t ht hW => ⟨⟨(), rfl, trivial, by rw [ef, ht]; exact hP9, va_K.moved hW.alike hK, by rw [ef]; exact hD9⟩, hS.F ht⟩) hS.2.2 d_Co_ask_133
      · refine lv_aload_n hx hb d_Co_ask_92 rfl (lv_at hl 0 rfl) ?_
        refine va_get (D := (dC, dI)) (ci := 5) (v := .ref a_asked) (C := "LabelledCore") (T := T_Co) (N := 17) hx hb hts in_Co hown hK hP 0 rfl rfl 7 (by decide) (hts _ wm_206) (fun _ h9 => h9) rfl d_Co_ask_93 ?_
        refine lv_aload_n hx hb d_Co_ask_96 rfl (lv_at hl 0 rfl) ?_
        refine va_get (D := (dC, dI)) (ci := 5) (v := .ref a_store) (C := "LabelledCore") (T := T_Co) (N := 17) hx hb hts in_Co hown hK hP 0 rfl rfl 2 (by decide) (hts _ wm_201) (fun _ h9 => h9) rfl d_Co_ask_97 ?_
        refine lv_iload_n hx hb d_Co_ask_100 rfl (lv_at hl 3 rfl) ?_
        have hPc := hP.sub (ws' := []) [] rfl
        refine W.callR ((W.runS (As := [.int x_p2]) (rest := [.ref a_store, .ref a_asked]) ⟨hx, hb, hml, hown, hts⟩ (ct_Co_placeOf l dC dI cI x_p2) (va_cwS 1 hts (gS wm_500 wm_501 wm_36 wm_502) rfl rfl rfl (by decide +kernel) ⟨Nat.le_of_ble_eq_true rfl, Nat.le_of_ble_eq_true rfl⟩) ⟨pcR_blind, pcR_pre hPc hK⟩ rfl rfl hl.1 rfl (lv_room (Nat.le_of_ble_eq_true rfl)) d_Co_ask_101 ⟨Nat.le_of_ble_eq_true rfl, Nat.le_of_ble_eq_true rfl⟩)) ?_
        refine W.eq (g2 := F0 m 104 ls [.int (f_Co_placeOf x_p2), .ref a_store, .ref a_asked]) rfl ?_
        have hPc := hP.sub (ws' := [(a_store, .inr (0, [.ref a_store_numbers, .ref a_store_labels])), (a_store_labels, .inl (cI, 64, .inl g_store_labels))]) [7, 8] rfl
        refine W.callR ((W.runV (As := [.int (f_Co_placeOf x_p2)]) (rest := [.ref a_asked]) ⟨hx, hb, hml, hown, hts⟩ (ct_Ba_label l dC dI cI a_store a_store_numbers a_store_labels 64 g_store_labels (f_Co_placeOf x_p2) (hs_104_1 c_1)) (cwV 1 hts (gV wm_490 wm_491 wm_492 wm_37 wm_493) rfl rfl rfl (by decide +kernel) ⟨Nat.le_of_ble_eq_true rfl, Nat.le_of_ble_eq_true rfl⟩) ⟨pcR_blind, va_recv hK hPc (ci := 0) (q0 := 0) rfl rfl, pcR_pre hPc hK⟩ rfl rfl hl.1 rfl (lv_room (Nat.le_of_ble_eq_true rfl)) d_Co_ask_104 ⟨Nat.le_of_ble_eq_true rfl, Nat.le_of_ble_eq_true rfl⟩)) ?_
        refine W.eq (g2 := F0 m 107 ls [.int (g_store_labels (Int32.toNatClampNeg (f_Co_placeOf x_p2))), .ref a_asked]) rfl ?_
        refine va_put (D := (dC, dI)) (ci := 2) (v := .int (g_store_labels (Int32.toNatClampNeg (f_Co_placeOf x_p2)))) (ty := .int) (C := "LabelledCore$Key") (T := T_Ky) (N := 5) hx hb hts in_Ky t_Ky ty_Ky nm_Ky hown hK hP hD hS 1 rfl rfl 4 (by decide) (hts _ wm_174) (fun _ h9 => h9) rfl (by decide +kernel) rfl rfl (Nat.le_of_ble_eq_true rfl) d_Co_ask_107 (fun H locs hP hD hS => ?_)
        have hP : va_P (dC, dI) clsL [(h0, .inr (5, [.ref a_program, .ref a_registers, .ref a_store, .ref a_waiting, .ref a_gone, .ref a_kernel, .ref a_known, .ref a_asked, .int v_words, .int v_outcome, .int v_pc, .int v_pcLabel, .int v_done, .int v_misses, .int v_longMisses, .int v_resultLabel, .int v_nextLabel])), (a_asked, .inr (2, [.int x_p1, .int v_pcLabel, .int (cu_Co_ask_45 x_p0 g_registers_labels), .int (cu_Co_ask_74 x_p0 g_registers_labels), .int (g_store_labels (Int32.toNatClampNeg (f_Co_placeOf x_p2)))])), (a_registers, .inr (0, [.ref a_registers_numbers, .ref a_registers_labels])), (a_registers_labels, .inl (cI, 32, .inl g_registers_labels)), (a_waiting, .inr (4, [.ref a_waiting_held, .int v_waiting_room, .int v_waiting_first, .int v_waiting_count])), (a_waiting_held, .inr (0, [.ref a_waiting_held_numbers, .ref a_waiting_held_labels])), (a_waiting_held_labels, .inl (cI, 64, .inl g_waiting_held_labels)), (a_store, .inr (0, [.ref a_store_numbers, .ref a_store_labels])), (a_store_labels, .inl (cI, 64, .inl g_store_labels))] H := hP
        have hD : va_D A [(h0, .inr (5, [.ref a_program, .ref a_registers, .ref a_store, .ref a_waiting, .ref a_gone, .ref a_kernel, .ref a_known, .ref a_asked, .int v_words, .int v_outcome, .int v_pc, .int v_pcLabel, .int v_done, .int v_misses, .int v_longMisses, .int v_resultLabel, .int v_nextLabel])), (a_asked, .inr (2, [.int x_p1, .int v_pcLabel, .int (cu_Co_ask_45 x_p0 g_registers_labels), .int (cu_Co_ask_74 x_p0 g_registers_labels), .int (g_store_labels (Int32.toNatClampNeg (f_Co_placeOf x_p2)))])), (a_registers, .inr (0, [.ref a_registers_numbers, .ref a_registers_labels])), (a_registers_labels, .inl (cI, 32, .inl g_registers_labels)), (a_waiting, .inr (4, [.ref a_waiting_held, .int v_waiting_room, .int v_waiting_first, .int v_waiting_count])), (a_waiting_held, .inr (0, [.ref a_waiting_held_numbers, .ref a_waiting_held_labels])), (a_waiting_held_labels, .inl (cI, 64, .inl g_waiting_held_labels)), (a_store, .inr (0, [.ref a_store_numbers, .ref a_store_labels])), (a_store_labels, .inl (cI, 64, .inl g_store_labels))] := hD
        refine lv_goto (tgt := 133) hx hb d_Co_ask_110 (by decide) ?_
        have ef : (f_Co_ask v_waiting_first g_waiting_held_labels g_store_labels x_p1 x_p2) = ((g_store_labels (Int32.toNatClampNeg (f_Co_placeOf x_p2))) : Int32) := (if_neg c_1).trans rfl
        have hP9 := hP.sub (ws' := [(h0, .inr (5, [.ref a_program, .ref a_registers, .ref a_store, .ref a_waiting, .ref a_gone, .ref a_kernel, .ref a_known, .ref a_asked, .int v_words, .int v_outcome, .int v_pc, .int v_pcLabel, .int v_done, .int v_misses, .int v_longMisses, .int v_resultLabel, .int v_nextLabel])), (a_asked, .inr (2, [.int x_p1, .int v_pcLabel, .int (cu_Co_ask_45 x_p0 g_registers_labels), .int (cu_Co_ask_74 x_p0 g_registers_labels), .int (g_store_labels (Int32.toNatClampNeg (f_Co_placeOf x_p2)))])), (a_registers, .inr (0, [.ref a_registers_numbers, .ref a_registers_labels])), (a_registers_labels, .inl (cI, 32, .inl g_registers_labels)), (a_waiting, .inr (4, [.ref a_waiting_held, .int v_waiting_room, .int v_waiting_first, .int v_waiting_count])), (a_waiting_held, .inr (0, [.ref a_waiting_held_numbers, .ref a_waiting_held_labels])), (a_waiting_held_labels, .inl (cI, 64, .inl g_waiting_held_labels)), (a_store, .inr (0, [.ref a_store_numbers, .ref a_store_labels])), (a_store_labels, .inl (cI, 64, .inl g_store_labels))]) [0, 1, 2, 3, 4, 5, 6, 7, 8] rfl
        have hD9 := hD.sub (ws' := [(h0, .inr (5, [.ref a_program, .ref a_registers, .ref a_store, .ref a_waiting, .ref a_gone, .ref a_kernel, .ref a_known, .ref a_asked, .int v_words, .int v_outcome, .int v_pc, .int v_pcLabel, .int v_done, .int v_misses, .int v_longMisses, .int v_resultLabel, .int v_nextLabel])), (a_asked, .inr (2, [.int x_p1, .int v_pcLabel, .int (cu_Co_ask_45 x_p0 g_registers_labels), .int (cu_Co_ask_74 x_p0 g_registers_labels), .int (g_store_labels (Int32.toNatClampNeg (f_Co_placeOf x_p2)))])), (a_registers, .inr (0, [.ref a_registers_numbers, .ref a_registers_labels])), (a_registers_labels, .inl (cI, 32, .inl g_registers_labels)), (a_waiting, .inr (4, [.ref a_waiting_held, .int v_waiting_room, .int v_waiting_first, .int v_waiting_count])), (a_waiting_held, .inr (0, [.ref a_waiting_held_numbers, .ref a_waiting_held_labels])), (a_waiting_held_labels, .inl (cI, 64, .inl g_waiting_held_labels)), (a_store, .inr (0, [.ref a_store_numbers, .ref a_store_labels])), (a_store_labels, .inl (cI, 64, .inl g_store_labels))]) [0, 1, 2, 3, 4, 5, 6, 7, 8] (by decide) rfl
        exact W.vret hx hb hr (fun t ht hW => ⟨⟨(), rfl, trivial, by rw [ef, ht]; exact hP9, va_K.moved hW.alike hK, by rw [ef]; exact hD9⟩, hS.F ht⟩) hS.2.2 d_Co_ask_133
    refine lv_iload_n hx hb d_Co_ask_52 rfl (lv_at hl 1 rfl) ?_
    have hPc := hP.sub (ws' := []) [] rfl
    refine W.callR ((W.runS (As := [.int x_p0]) (rest := [.ref a_asked]) ⟨hx, hb, hml, hown, hts⟩ (ct_Cd_readsB l dC dI cI x_p0) (va_cwS 1 hts (gS wm_494 wm_495 wm_48 wm_496) rfl rfl rfl (by decide +kernel) ⟨Nat.le_of_ble_eq_true rfl, Nat.le_of_ble_eq_true rfl⟩) ⟨pcR_blind, pcR_pre hPc hK⟩ rfl rfl hl.1 rfl (lv_room (Nat.le_of_ble_eq_true rfl)) d_Co_ask_53 ⟨Nat.le_of_ble_eq_true rfl, Nat.le_of_ble_eq_true rfl⟩)) ?_
    refine W.eq (g2 := F0 m 56 ls [.int (f_Cd_readsB x_p0), .ref a_asked]) rfl ?_
    refine lv_if_eq (tgt := 73) hx hb d_Co_ask_56 (by decide) (fun c_3 => ?_) (fun c_3 => ?_)
    · refine lv_iconst (v := 0) hx hb d_Co_ask_73 (by decide) ?_
      refine lv_toE (y := (cu_Co_ask_74 x_p0 g_registers_labels)) (show (cu_Co_ask_74 x_p0 g_registers_labels) = 0 from ((if_pos c_3).trans rfl)).symm ?_
      exact hcut_74
    · refine lv_aload_n hx hb d_Co_ask_59 rfl (lv_at hl 0 rfl) ?_
      refine va_get (D := (dC, dI)) (ci := 5) (v := .ref a_registers) (C := "LabelledCore") (T := T_Co) (N := 17) hx hb hts in_Co hown hK hP 0 rfl rfl 1 (by decide) (hts _ wm_200) (fun _ h9 => h9) rfl d_Co_ask_60 ?_
      refine lv_iload_n hx hb d_Co_ask_63 rfl (lv_at hl 1 rfl) ?_
      have hPc := hP.sub (ws' := []) [] rfl
      refine W.callR ((W.runS (As := [.int x_p0]) (rest := [.ref a_registers, .ref a_asked]) ⟨hx, hb, hml, hown, hts⟩ (ct_Cd_fieldB l dC dI cI x_p0) (va_cwS 1 hts (gS wm_497 wm_498 wm_48 wm_499) rfl rfl rfl (by decide +kernel) ⟨Nat.le_of_ble_eq_true rfl, Nat.le_of_ble_eq_true rfl⟩) ⟨pcR_blind, pcR_pre hPc hK⟩ rfl rfl hl.1 rfl (lv_room (Nat.le_of_ble_eq_true rfl)) d_Co_ask_64 ⟨Nat.le_of_ble_eq_true rfl, Nat.le_of_ble_eq_true rfl⟩)) ?_
      refine W.eq (g2 := F0 m 67 ls [.int (f_Cd_fieldB x_p0), .ref a_registers, .ref a_asked]) rfl ?_
      have hPc := hP.sub (ws' := [(a_registers, .inr (0, [.ref a_registers_numbers, .ref a_registers_labels])), (a_registers_labels, .inl (cI, 32, .inl g_registers_labels))]) [2, 3] rfl
      refine W.callR ((W.runV (As := [.int (f_Cd_fieldB x_p0)]) (rest := [.ref a_asked]) ⟨hx, hb, hml, hown, hts⟩ (ct_Ba_label l dC dI cI a_registers a_registers_numbers a_registers_labels 32 g_registers_labels (f_Cd_fieldB x_p0) (in_Cd_fieldB _)) (cwV 1 hts (gV wm_490 wm_491 wm_492 wm_37 wm_493) rfl rfl rfl (by decide +kernel) ⟨Nat.le_of_ble_eq_true rfl, Nat.le_of_ble_eq_true rfl⟩) ⟨pcR_blind, va_recv hK hPc (ci := 0) (q0 := 0) rfl rfl, pcR_pre hPc hK⟩ rfl rfl hl.1 rfl (lv_room (Nat.le_of_ble_eq_true rfl)) d_Co_ask_67 ⟨Nat.le_of_ble_eq_true rfl, Nat.le_of_ble_eq_true rfl⟩)) ?_
      refine W.eq (g2 := F0 m 70 ls [.int (g_registers_labels (Int32.toNatClampNeg (f_Cd_fieldB x_p0))), .ref a_asked]) rfl ?_
      refine lv_goto (tgt := 74) hx hb d_Co_ask_70 (by decide) ?_
      refine lv_toE (y := (cu_Co_ask_74 x_p0 g_registers_labels)) (show (cu_Co_ask_74 x_p0 g_registers_labels) = (g_registers_labels (Int32.toNatClampNeg (f_Cd_fieldB x_p0))) from ((if_neg c_3).trans rfl)).symm ?_
      exact hcut_74
  refine lv_iload_n hx hb d_Co_ask_23 rfl (lv_at hl 1 rfl) ?_
  have hPc := hP.sub (ws' := []) [] rfl
  refine W.callR ((W.runS (As := [.int x_p0]) (rest := [.ref a_asked]) ⟨hx, hb, hml, hown, hts⟩ (ct_Cd_readsA l dC dI cI x_p0) (va_cwS 1 hts (gS wm_487 wm_488 wm_48 wm_489) rfl rfl rfl (by decide +kernel) ⟨Nat.le_of_ble_eq_true rfl, Nat.le_of_ble_eq_true rfl⟩) ⟨pcR_blind, pcR_pre hPc hK⟩ rfl rfl hl.1 rfl (lv_room (Nat.le_of_ble_eq_true rfl)) d_Co_ask_24 ⟨Nat.le_of_ble_eq_true rfl, Nat.le_of_ble_eq_true rfl⟩)) ?_
  refine W.eq (g2 := F0 m 27 ls [.int (f_Cd_readsA x_p0), .ref a_asked]) rfl ?_
  refine lv_if_eq (tgt := 44) hx hb d_Co_ask_27 (by decide) (fun c_4 => ?_) (fun c_4 => ?_)
  · refine lv_iconst (v := 0) hx hb d_Co_ask_44 (by decide) ?_
    refine lv_toE (y := (cu_Co_ask_45 x_p0 g_registers_labels)) (show (cu_Co_ask_45 x_p0 g_registers_labels) = 0 from ((if_pos c_4).trans rfl)).symm ?_
    exact hcut_45
  · refine lv_aload_n hx hb d_Co_ask_30 rfl (lv_at hl 0 rfl) ?_
    refine va_get (D := (dC, dI)) (ci := 5) (v := .ref a_registers) (C := "LabelledCore") (T := T_Co) (N := 17) hx hb hts in_Co hown hK hP 0 rfl rfl 1 (by decide) (hts _ wm_200) (fun _ h9 => h9) rfl d_Co_ask_31 ?_
    refine lv_iload_n hx hb d_Co_ask_34 rfl (lv_at hl 1 rfl) ?_
    have hPc := hP.sub (ws' := []) [] rfl
    refine W.callR ((W.runS (As := [.int x_p0]) (rest := [.ref a_registers, .ref a_asked]) ⟨hx, hb, hml, hown, hts⟩ (ct_Cd_fieldA l dC dI cI x_p0) (va_cwS 1 hts (gS wm_463 wm_464 wm_48 wm_465) rfl rfl rfl (by decide +kernel) ⟨Nat.le_of_ble_eq_true rfl, Nat.le_of_ble_eq_true rfl⟩) ⟨pcR_blind, pcR_pre hPc hK⟩ rfl rfl hl.1 rfl (lv_room (Nat.le_of_ble_eq_true rfl)) d_Co_ask_35 ⟨Nat.le_of_ble_eq_true rfl, Nat.le_of_ble_eq_true rfl⟩)) ?_
    refine W.eq (g2 := F0 m 38 ls [.int (f_Cd_fieldA x_p0), .ref a_registers, .ref a_asked]) rfl ?_
    have hPc := hP.sub (ws' := [(a_registers, .inr (0, [.ref a_registers_numbers, .ref a_registers_labels])), (a_registers_labels, .inl (cI, 32, .inl g_registers_labels))]) [2, 3] rfl
    refine W.callR ((W.runV (As := [.int (f_Cd_fieldA x_p0)]) (rest := [.ref a_asked]) ⟨hx, hb, hml, hown, hts⟩ (ct_Ba_label l dC dI cI a_registers a_registers_numbers a_registers_labels 32 g_registers_labels (f_Cd_fieldA x_p0) (in_Cd_fieldA _)) (cwV 1 hts (gV wm_490 wm_491 wm_492 wm_37 wm_493) rfl rfl rfl (by decide +kernel) ⟨Nat.le_of_ble_eq_true rfl, Nat.le_of_ble_eq_true rfl⟩) ⟨pcR_blind, va_recv hK hPc (ci := 0) (q0 := 0) rfl rfl, pcR_pre hPc hK⟩ rfl rfl hl.1 rfl (lv_room (Nat.le_of_ble_eq_true rfl)) d_Co_ask_38 ⟨Nat.le_of_ble_eq_true rfl, Nat.le_of_ble_eq_true rfl⟩)) ?_
    refine W.eq (g2 := F0 m 41 ls [.int (g_registers_labels (Int32.toNatClampNeg (f_Cd_fieldA x_p0))), .ref a_asked]) rfl ?_
    refine lv_goto (tgt := 45) hx hb d_Co_ask_41 (by decide) ?_
    refine lv_toE (y := (cu_Co_ask_45 x_p0 g_registers_labels)) (show (cu_Co_ask_45 x_p0 g_registers_labels) = (g_registers_labels (Int32.toNatClampNeg (f_Cd_fieldA x_p0))) from ((if_neg c_4).trans rfl)).symm ?_
    exact hcut_45
def f_Co_word (v_words : Int32) (g_program : Nat → Int32) (x_p0 : Int32) : Int32 × Int32 × (Nat → Int32) :=
  if v_words < 256 then
    ((v_words + 1), (v_words + 1), (upd g_program (Int32.toNatClampNeg v_words) x_p0))
  else
    ((-1), v_words, g_program)
set_option maxHeartbeats 4000000 in
set_option maxRecDepth 100000 in
theorem ct_Co_word (l : Launch) (dC : Nat → ClassId) (dI : Nat → Nat → Nat) (cI : ClassId) (sz : Nat) (h0 a_program a_registers a_store a_waiting a_gone a_kernel a_known a_asked : Nat) (v_words : Int32) (v_outcome : Int32) (v_pc : Int32) (v_pcLabel : Int32) (v_done : Int32) (v_misses : Int32) (v_longMisses : Int32) (v_resultLabel : Int32) (v_nextLabel : Int32) (g_program : Nat → Int32) (x_p0 : Int32) (hs_21_0 : (v_words < 256) → vp_in v_words 256) : Met l y_Co_word w_Co_word ({ frames := 0, cells := 0, slots := 0, locals := 0 }) (pcW dC dI cI [(h0, .inr (5, [.ref a_program, .ref a_registers, .ref a_store, .ref a_waiting, .ref a_gone, .ref a_kernel, .ref a_known, .ref a_asked, .int v_words, .int v_outcome, .int v_pc, .int v_pcLabel, .int v_done, .int v_misses, .int v_longMisses, .int v_resultLabel, .int v_nextLabel])), (a_program, .inl (cI, 256, .inl g_program))] sz [.ref h0, .int x_p0]) (va_Qi (fun (r : Int32) (_ : Unit) => r = (f_Co_word v_words g_program x_p0).1) (fun _ t => atW dC dI cI [(h0, .inr (5, [.ref a_program, .ref a_registers, .ref a_store, .ref a_waiting, .ref a_gone, .ref a_kernel, .ref a_known, .ref a_asked, .int ((f_Co_word v_words g_program x_p0).2.1), .int v_outcome, .int v_pc, .int v_pcLabel, .int v_done, .int v_misses, .int v_longMisses, .int v_resultLabel, .int v_nextLabel])), (a_program, .inl (cI, 256, .inl ((f_Co_word v_words g_program x_p0).2.2)))] (va_A [(h0, .inr (5, [.ref a_program, .ref a_registers, .ref a_store, .ref a_waiting, .ref a_gone, .ref a_kernel, .ref a_known, .ref a_asked, .int v_words, .int v_outcome, .int v_pc, .int v_pcLabel, .int v_done, .int v_misses, .int v_longMisses, .int v_resultLabel, .int v_nextLabel])), (a_program, .inl (cI, 256, .inl g_program))] sz) t) (va_A [(h0, .inr (5, [.ref a_program, .ref a_registers, .ref a_store, .ref a_waiting, .ref a_gone, .ref a_kernel, .ref a_known, .ref a_asked, .int v_words, .int v_outcome, .int v_pc, .int v_pcLabel, .int v_done, .int v_misses, .int v_longMisses, .int v_resultLabel, .int v_nextLabel])), (a_program, .inl (cI, 256, .inl g_program))] sz)) 0 0 (va_A [(h0, .inr (5, [.ref a_program, .ref a_registers, .ref a_store, .ref a_waiting, .ref a_gone, .ref a_kernel, .ref a_known, .ref a_asked, .int v_words, .int v_outcome, .int v_pc, .int v_pcLabel, .int v_done, .int v_misses, .int v_longMisses, .int v_resultLabel, .int v_nextLabel])), (a_program, .inl (cI, 256, .inl g_program))] sz) := by
  refine Met.ofW (cc := c_Co_word) (maxL := 2) (ret := (some .int)) (by decide) rfl ?_
  intro p e s m args below meth c s₁ B hml hv
  obtain ⟨rfl, hsz, hP, hK, hD0⟩ := hv
  have hx := B.exec
  have hb := B.bytes
  have hr := B.returns
  have hts : ∀ w ∈ wG, w.before _ s = true := fun w h => atoms_spec (ws := w_Co_word) B.pre w (List.mem_cons_of_mem _ h)
  have hown : s.vm.findClass "LabelledCore" = some m.cls := findClass_of_methodNamed B.named
  have hlocks := B.notSynchronized
  subst hsz
  have hD := hD0.self (sz := s.heap.size)
  generalize hAe : va_A [(h0, .inr (5, [.ref a_program, .ref a_registers, .ref a_store, .ref a_waiting, .ref a_gone, .ref a_kernel, .ref a_known, .ref a_asked, .int v_words, .int v_outcome, .int v_pc, .int v_pcLabel, .int v_done, .int v_misses, .int v_longMisses, .int v_resultLabel, .int v_nextLabel])), (a_program, .inl (cI, 256, .inl g_program))] s.heap.size = A at hD ⊢
  have hA : ∀ q : Nat, s.heap.size ≤ q → A q := fun q h => by rw [← hAe]; exact Or.inr h
  have hS : va_S A s.heap s.heap [] := va_S.rf
  have hP : va_P (dC, dI) clsL [(h0, .inr (5, [.ref a_program, .ref a_registers, .ref a_store, .ref a_waiting, .ref a_gone, .ref a_kernel, .ref a_known, .ref a_asked, .int v_words, .int v_outcome, .int v_pc, .int v_pcLabel, .int v_done, .int v_misses, .int v_longMisses, .int v_resultLabel, .int v_nextLabel])), (a_program, .inl (cI, 256, .inl g_program))] s.heap := hP
  have hl := lv_entry ([.ref h0, .int x_p0]) (n := 2) (Nat.le_of_ble_eq_true rfl)
  rw [lg_entry_eq]
  generalize (lg_sl ([.ref h0, .int x_p0]) ++ List.replicate (2 - (lg_sl ([.ref h0, .int x_p0])).length) Slot.unset).toArray = ls at hl ⊢
  have hl : lv_has ls 2 [(0, .ref h0), (1, .int x_p0)] := hl
  refine lv_aload_n hx hb d_Co_word_0 rfl (lv_at hl 0 rfl) ?_
  refine va_get (D := (dC, dI)) (ci := 5) (v := .int v_words) (C := "LabelledCore") (T := T_Co) (N := 17) hx hb hts in_Co hown hK hP 0 rfl rfl 8 (by decide) (hts _ wm_207) (fun _ h9 => h9) rfl d_Co_word_1 ?_
  refine lv_sipush (v := 256) hx hb d_Co_word_4 (by decide) ?_
  refine lv_icmp_lt (tgt := 12) hx hb d_Co_word_7 (by decide) (fun c_1 => ?_) (fun c_1 => ?_)
  · refine lv_aload_n hx hb d_Co_word_12 rfl (lv_at hl 0 rfl) ?_
    refine va_get (D := (dC, dI)) (ci := 5) (v := .ref a_program) (C := "LabelledCore") (T := T_Co) (N := 17) hx hb hts in_Co hown hK hP 0 rfl rfl 0 (by decide) (hts _ wm_199) (fun _ h9 => h9) rfl d_Co_word_13 ?_
    refine lv_aload_n hx hb d_Co_word_16 rfl (lv_at hl 0 rfl) ?_
    refine va_get (D := (dC, dI)) (ci := 5) (v := .int v_words) (C := "LabelledCore") (T := T_Co) (N := 17) hx hb hts in_Co hown hK hP 0 rfl rfl 8 (by decide) (hts _ wm_207) (fun _ h9 => h9) rfl d_Co_word_17 ?_
    refine lv_iload_n hx hb d_Co_word_20 rfl (lv_at hl 1 rfl) ?_
    refine va_iast hx hb hK hP hD hS 1 0 rfl rfl (hs_21_0 c_1) d_Co_word_21 (fun H locs hP hD hS => ?_)
    have hP : va_P (dC, dI) clsL [(h0, .inr (5, [.ref a_program, .ref a_registers, .ref a_store, .ref a_waiting, .ref a_gone, .ref a_kernel, .ref a_known, .ref a_asked, .int v_words, .int v_outcome, .int v_pc, .int v_pcLabel, .int v_done, .int v_misses, .int v_longMisses, .int v_resultLabel, .int v_nextLabel])), (a_program, .inl (cI, 256, .inl (upd g_program (Int32.toNatClampNeg v_words) x_p0)))] H := hP
    have hD : va_D A [(h0, .inr (5, [.ref a_program, .ref a_registers, .ref a_store, .ref a_waiting, .ref a_gone, .ref a_kernel, .ref a_known, .ref a_asked, .int v_words, .int v_outcome, .int v_pc, .int v_pcLabel, .int v_done, .int v_misses, .int v_longMisses, .int v_resultLabel, .int v_nextLabel])), (a_program, .inl (cI, 256, .inl (upd g_program (Int32.toNatClampNeg v_words) x_p0)))] := hD
    refine lv_aload_n hx hb d_Co_word_22 rfl (lv_at hl 0 rfl) ?_
    refine lv_dup hx hb d_Co_word_23 rfl ?_
    refine va_get (D := (dC, dI)) (ci := 5) (v := .int v_words) (C := "LabelledCore") (T := T_Co) (N := 17) hx hb hts in_Co hown hK hP 0 rfl rfl 8 (by decide) (hts _ wm_207) (fun _ h9 => h9) rfl d_Co_word_24 ?_
    refine lv_iconst (v := 1) hx hb d_Co_word_27 (by decide) ?_
    refine lv_iadd hx hb d_Co_word_28 ?_
    refine va_put (D := (dC, dI)) (ci := 5) (v := .int (v_words + 1)) (ty := .int) (C := "LabelledCore") (T := T_Co) (N := 17) hx hb hts in_Co t_Co ty_Co nm_Co hown hK hP hD hS 0 rfl rfl 8 (by decide) (hts _ wm_207) (fun _ h9 => h9) rfl (by decide +kernel) rfl rfl (Nat.le_of_ble_eq_true rfl) d_Co_word_29 (fun H locs hP hD hS => ?_)
    have hP : va_P (dC, dI) clsL [(h0, .inr (5, [.ref a_program, .ref a_registers, .ref a_store, .ref a_waiting, .ref a_gone, .ref a_kernel, .ref a_known, .ref a_asked, .int (v_words + 1), .int v_outcome, .int v_pc, .int v_pcLabel, .int v_done, .int v_misses, .int v_longMisses, .int v_resultLabel, .int v_nextLabel])), (a_program, .inl (cI, 256, .inl (upd g_program (Int32.toNatClampNeg v_words) x_p0)))] H := hP
    have hD : va_D A [(h0, .inr (5, [.ref a_program, .ref a_registers, .ref a_store, .ref a_waiting, .ref a_gone, .ref a_kernel, .ref a_known, .ref a_asked, .int (v_words + 1), .int v_outcome, .int v_pc, .int v_pcLabel, .int v_done, .int v_misses, .int v_longMisses, .int v_resultLabel, .int v_nextLabel])), (a_program, .inl (cI, 256, .inl (upd g_program (Int32.toNatClampNeg v_words) x_p0)))] := hD
    refine lv_aload_n hx hb d_Co_word_32 rfl (lv_at hl 0 rfl) ?_
    refine va_get (D := (dC, dI)) (ci := 5) (v := .int (v_words + 1)) (C := "LabelledCore") (T := T_Co) (N := 17) hx hb hts in_Co hown hK hP 0 rfl rfl 8 (by decide) (hts _ wm_207) (fun _ h9 => h9) rfl d_Co_word_33 ?_
    have ef : (f_Co_word v_words g_program x_p0) = (((v_words + 1), (v_words + 1), (upd g_program (Int32.toNatClampNeg v_words) x_p0)) : Int32 × Int32 × (Nat → Int32)) := (if_pos c_1).trans rfl
    have hP9 := hP.sub (ws' := [(h0, .inr (5, [.ref a_program, .ref a_registers, .ref a_store, .ref a_waiting, .ref a_gone, .ref a_kernel, .ref a_known, .ref a_asked, .int (v_words + 1), .int v_outcome, .int v_pc, .int v_pcLabel, .int v_done, .int v_misses, .int v_longMisses, .int v_resultLabel, .int v_nextLabel])), (a_program, .inl (cI, 256, .inl (upd g_program (Int32.toNatClampNeg v_words) x_p0)))]) [0, 1] rfl
    have hD9 := hD.sub (ws' := [(h0, .inr (5, [.ref a_program, .ref a_registers, .ref a_store, .ref a_waiting, .ref a_gone, .ref a_kernel, .ref a_known, .ref a_asked, .int (v_words + 1), .int v_outcome, .int v_pc, .int v_pcLabel, .int v_done, .int v_misses, .int v_longMisses, .int v_resultLabel, .int v_nextLabel])), (a_program, .inl (cI, 256, .inl (upd g_program (Int32.toNatClampNeg v_words) x_p0)))]) [0, 1] (by decide) rfl
    exact W.iret (v := (v_words + 1)) hx hb hr (fun t ht hW => ⟨⟨(v_words + 1), (), rfl, by rw [ef], by rw [ef, ht]; exact hP9, va_K.moved hW.alike hK, by rw [ef]; exact hD9⟩, hS.F ht⟩) hS.2.2 d_Co_word_36
  · refine lv_iconst (v := (-1)) hx hb d_Co_word_10 (by decide) ?_
    have ef : (f_Co_word v_words g_program x_p0) = (((-1), v_words, g_program) : Int32 × Int32 × (Nat → Int32)) := (if_neg c_1).trans rfl
    have hP9 := hP.sub (ws' := [(h0, .inr (5, [.ref a_program, .ref a_registers, .ref a_store, .ref a_waiting, .ref a_gone, .ref a_kernel, .ref a_known, .ref a_asked, .int v_words, .int v_outcome, .int v_pc, .int v_pcLabel, .int v_done, .int v_misses, .int v_longMisses, .int v_resultLabel, .int v_nextLabel])), (a_program, .inl (cI, 256, .inl g_program))]) [0, 1] rfl
    have hD9 := hD.sub (ws' := [(h0, .inr (5, [.ref a_program, .ref a_registers, .ref a_store, .ref a_waiting, .ref a_gone, .ref a_kernel, .ref a_known, .ref a_asked, .int v_words, .int v_outcome, .int v_pc, .int v_pcLabel, .int v_done, .int v_misses, .int v_longMisses, .int v_resultLabel, .int v_nextLabel])), (a_program, .inl (cI, 256, .inl g_program))]) [0, 1] (by decide) rfl
    exact W.iret (v := (-1)) hx hb hr (fun t ht hW => ⟨⟨(-1), (), rfl, by rw [ef], by rw [ef, ht]; exact hP9, va_K.moved hW.alike hK, by rw [ef]; exact hD9⟩, hS.F ht⟩) hS.2.2 d_Co_word_11
