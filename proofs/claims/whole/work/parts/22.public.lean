
def pcRE (dC : Nat → ClassId) (dI : Nat → Nat → Nat) (cI : ClassId) (ws : va_W) (E : State → Prop) (av : List Value) : Array Value → State → Prop := va_Pc av (fun U => va_P (dC, dI) clsL ws U.heap ∧ va_K (dC, dI) clsL [(cI, .int)] U ∧ E U)
theorem pcRE_blind {dC : Nat → ClassId} {dI : Nat → Nat → Nat} {cI : ClassId} {ws : va_W} {E : State → Prop} {av : List Value} (hE : ∀ (U : State) (g : JFrame) (mk : MethodId) (a : Array Value), E U → E (U.calling g mk a)) : FrameBlind (pcRE dC dI cI ws E av) := fun a U g mk q => by
  obtain ⟨q0, qP, qK, qE⟩ := q
  exact ⟨q0, qP, va_K.moved (u := U) (U := U.calling g mk a) (Vm.Alike.refl U.vm) qK, hE U g mk a qE⟩
theorem pcRE_pre {dC : Nat → ClassId} {dI : Nat → Nat → Nat} {cI : ClassId} {ws : va_W} {E : State → Prop} {av : List Value} {s : State} {H : Heap} (hP : va_P (dC, dI) clsL ws H) (hK : va_K (dC, dI) clsL [(cI, .int)] s) (hE : ∀ U : State, s.WarmedH U.vm → E U) : ∀ U : State, U.heap = H → s.WarmedH U.vm → pcRE dC dI cI ws E av av.toArray U := fun U hU hW => ⟨rfl, by rw [hU]; exact hP, va_K.moved hW.alike hK, hE U hW⟩
def nestP (U : State) : Prop := va_Nw (.methodLinkNest "LabelledCore$Bank" 22 ⟨"LabelledCore", "pairOf", "(II)J"⟩ "LabelledCore") U
theorem nestP.bl (U : State) (g : JFrame) (mk : MethodId) (a : Array Value) (h : nestP U) : nestP (U.calling g mk a) := va_Nw.same rfl rfl h
theorem nestP.wm {s U : State} (hW : s.WarmedH U.vm) (h : nestP s) : nestP U := va_Nw.warmM hW h
theorem run_weak {p : Program} {l : Launch} {e : Env} {R : Room} {s : State} {m : MethodId} {args : Array Value} {below : List Frame} {meth : Method} {c : Code} {H : Heap} {locs : List Loc} {cells slots mc ms : Nat} {g : JFrame} {rest : List Value} {Qa : State → Outcome → State → Prop} {free : Addr → Prop} (h : va_Run p l e R s m args below meth c H locs cells slots mc ms g rest Qa free) : CallRun p l e R s m args below meth c H locs cells slots mc ms g rest Qa free := by
  intro T hT X
  obtain ⟨v, st₀, t, T', L, h1, h2, h3, h4, -, h6, h7⟩ := h T hT X
  exact ⟨v, st₀, t, T', L, h1, h2, h3, h4, h6, h7⟩
def f_Co_pairOf (x_p0 : Int32) (x_p1 : Int32) : Int64 :=
  (((Int32.toInt64 x_p1) <<< (Int32.toInt64 32 &&& 63)) ||| ((Int32.toInt64 x_p0) &&& 4294967295))
set_option maxHeartbeats 4000000 in
set_option maxRecDepth 100000 in
theorem ct_Co_pairOf (l : Launch) (dC : Nat → ClassId) (dI : Nat → Nat → Nat) (cI : ClassId) (x_p0 : Int32) (x_p1 : Int32) : Met l y_Co_pairOf w_Co_pairOf ({ frames := 0, cells := 0, slots := 0, locals := 0 }) (pcR dC dI cI [] [.int x_p0, .int x_p1]) (QcReadL (f_Co_pairOf x_p0 x_p1)) 0 0 (fun _ => False) := by
  refine Met.ofW (cc := c_Co_pairOf) (maxL := 2) (ret := (some .long)) (by decide) rfl ?_
  intro p e s m args below meth c s₁ B hml hv
  obtain ⟨rfl, hP, hK⟩ := hv
  have hx := B.exec
  have hb := B.bytes
  have hr := B.returns
  have hts : ∀ w ∈ wG, w.before _ s = true := fun w h => atoms_spec (ws := w_Co_pairOf) B.pre w (List.mem_cons_of_mem _ h)
  have hown : s.vm.findClass "LabelledCore" = some m.cls := findClass_of_methodNamed B.named
  have hlocks := B.notSynchronized
  have hl := lv_entry ([.int x_p0, .int x_p1]) (n := 2) (Nat.le_of_ble_eq_true rfl)
  rw [lg_entry_eq]
  generalize (lg_sl ([.int x_p0, .int x_p1]) ++ List.replicate (2 - (lg_sl ([.int x_p0, .int x_p1])).length) Slot.unset).toArray = ls at hl ⊢
  have hl : lv_has ls 2 [(0, .int x_p0), (1, .int x_p1)] := hl
  refine lv_iload_n hx hb d_Co_pairOf_0 rfl (lv_at hl 1 rfl) ?_
  refine lv_i2l (v := (Int32.toInt64 x_p1)) hx hb d_Co_pairOf_1 rfl ?_
  refine lv_bipush (v := 32) hx hb d_Co_pairOf_2 (by decide) ?_
  refine lv_lshl (v := ((Int32.toInt64 x_p1) <<< (Int32.toInt64 32 &&& 63))) hx hb d_Co_pairOf_4 rfl ?_
  refine lv_iload_n hx hb d_Co_pairOf_5 rfl (lv_at hl 0 rfl) ?_
  refine lv_i2l (v := (Int32.toInt64 x_p0)) hx hb d_Co_pairOf_6 rfl ?_
  refine lv_ldc2 (v := 4294967295) hx hb hown (hts _ wm_904) d_Co_pairOf_7 ?_
  refine lv_land hx hb d_Co_pairOf_10 ?_
  refine lv_lor hx hb d_Co_pairOf_11 ?_
  have ef : (f_Co_pairOf x_p0 x_p1) = ((((Int32.toInt64 x_p1) <<< (Int32.toInt64 32 &&& 63)) ||| ((Int32.toInt64 x_p0) &&& 4294967295)) : Int64) := rfl
  exact W.lret (v := (((Int32.toInt64 x_p1) <<< (Int32.toInt64 32 &&& 63)) ||| ((Int32.toInt64 x_p0) &&& 4294967295))) hx hb hr (fun t ht hW => ⟨by rw [ef], ht⟩) (fun _ h => by cases h) d_Co_pairOf_12
def f_Ba_pair (g_numbers : Nat → Int32) (g_labels : Nat → Int32) (x_p0 : Int32) : Int64 :=
  (f_Co_pairOf (g_numbers (Int32.toNatClampNeg x_p0)) (g_labels (Int32.toNatClampNeg x_p0)))
set_option maxHeartbeats 4000000 in
set_option maxRecDepth 100000 in
theorem ct_Ba_pair (l : Launch) (dC : Nat → ClassId) (dI : Nat → Nat → Nat) (cI : ClassId) (h0 a_numbers a_labels : Nat) (n : Nat) (g_numbers : Nat → Int32) (g_labels : Nat → Int32) (x_p0 : Int32) (hi : vp_in x_p0 n) : Met l y_Ba_pair w_Ba_pair ({ frames := 1, cells := 0, slots := 0, locals := 21 }) (pcRE dC dI cI [(h0, .inr (0, [.ref a_numbers, .ref a_labels])), (a_numbers, .inl (cI, n, .inl g_numbers)), (a_labels, .inl (cI, n, .inl g_labels))] nestP [.ref h0, .int x_p0]) (QcReadL (f_Ba_pair g_numbers g_labels x_p0)) 0 0 (fun _ => False) := by
  refine Met.ofW (cc := c_Ba_pair) (maxL := 2) (ret := (some .long)) (by decide) rfl ?_
  intro p e s m args below meth c s₁ B hml hv
  obtain ⟨rfl, hP, hK, hE⟩ := hv
  have hx := B.exec
  have hb := B.bytes
  have hr := B.returns
  have hts : ∀ w ∈ wG, w.before _ s = true := fun w h => atoms_spec (ws := w_Ba_pair) B.pre w (List.mem_cons_of_mem _ h)
  have hown : s.vm.findClass "LabelledCore$Bank" = some m.cls := findClass_of_methodNamed B.named
  have hlocks := B.notSynchronized
  have hl := lv_entry ([.ref h0, .int x_p0]) (n := 2) (Nat.le_of_ble_eq_true rfl)
  rw [lg_entry_eq]
  generalize (lg_sl ([.ref h0, .int x_p0]) ++ List.replicate (2 - (lg_sl ([.ref h0, .int x_p0])).length) Slot.unset).toArray = ls at hl ⊢
  have hl : lv_has ls 2 [(0, .ref h0), (1, .int x_p0)] := hl
  refine lv_aload_n hx hb d_Ba_pair_0 rfl (lv_at hl 0 rfl) ?_
  refine va_get (D := (dC, dI)) (ci := 0) (v := .ref a_numbers) (C := "LabelledCore$Bank") (T := T_Ba) (N := 2) hx hb hts in_Ba hown hK hP 0 rfl rfl 0 (by decide) (hts _ wm_75) (fun _ h9 => h9) rfl d_Ba_pair_1 ?_
  refine lv_iload_n hx hb d_Ba_pair_4 rfl (lv_at hl 1 rfl) ?_
  refine va_iald hx hb hK hP 1 0 rfl rfl hi d_Ba_pair_5 ?_
  refine lv_aload_n hx hb d_Ba_pair_6 rfl (lv_at hl 0 rfl) ?_
  refine va_get (D := (dC, dI)) (ci := 0) (v := .ref a_labels) (C := "LabelledCore$Bank") (T := T_Ba) (N := 2) hx hb hts in_Ba hown hK hP 0 rfl rfl 1 (by decide) (hts _ wm_76) (fun _ h9 => h9) rfl d_Ba_pair_7 ?_
  refine lv_iload_n hx hb d_Ba_pair_10 rfl (lv_at hl 1 rfl) ?_
  refine va_iald hx hb hK hP 2 0 rfl rfl hi d_Ba_pair_11 ?_
  have hPc := hP.sub (ws' := []) [] rfl
  refine callRL (run_weak (va_runSN (As := [.int (g_numbers (Int32.toNatClampNeg x_p0)), .int (g_labels (Int32.toNatClampNeg x_p0))]) (rest := []) ⟨hx, hb, hml, hown, hts⟩ (ct_Co_pairOf l dC dI cI (g_numbers (Int32.toNatClampNeg x_p0)) (g_labels (Int32.toNatClampNeg x_p0))) ⟨va_cnB 2 hts (gI wm_903) rfl rfl rfl hE (hts _ wm_36) (by decide +kernel) ⟨Nat.le_of_ble_eq_true rfl, Nat.le_of_ble_eq_true rfl⟩, hts _ wm_902, trivial⟩ ⟨pcR_blind, pcR_pre hPc hK⟩ rfl rfl hl.1 rfl (lv_room (Nat.le_of_ble_eq_true rfl)) d_Ba_pair_12 ⟨Nat.le_of_ble_eq_true rfl, Nat.le_of_ble_eq_true rfl⟩)) ?_
  refine W.eq (g2 := F0 m 15 ls [.long (f_Co_pairOf (g_numbers (Int32.toNatClampNeg x_p0)) (g_labels (Int32.toNatClampNeg x_p0)))]) rfl ?_
  have ef : (f_Ba_pair g_numbers g_labels x_p0) = ((f_Co_pairOf (g_numbers (Int32.toNatClampNeg x_p0)) (g_labels (Int32.toNatClampNeg x_p0))) : Int64) := rfl
  exact W.lret (v := (f_Co_pairOf (g_numbers (Int32.toNatClampNeg x_p0)) (g_labels (Int32.toNatClampNeg x_p0)))) hx hb hr (fun t ht hW => ⟨by rw [ef], ht⟩) (fun _ h => by cases h) d_Ba_pair_15
def f_Li_pair (v_room : Int32) (v_first : Int32) (g_held_numbers : Nat → Int32) (g_held_labels : Nat → Int32) (x_p0 : Int32) : Int64 :=
  (f_Ba_pair g_held_numbers g_held_labels (f_Li_placeOfNth v_room v_first x_p0))
set_option maxHeartbeats 4000000 in
set_option maxRecDepth 100000 in
theorem ct_Li_pair (l : Launch) (dC : Nat → ClassId) (dI : Nat → Nat → Nat) (cI : ClassId) (h0 a_held a_held_numbers a_held_labels : Nat) (n : Nat) (v_room : Int32) (v_first : Int32) (v_count : Int32) (g_held_numbers : Nat → Int32) (g_held_labels : Nat → Int32) (x_p0 : Int32) (hs_9_0 : (vp_in (f_Li_placeOfNth v_room v_first x_p0) n)) : Met l y_Li_pair w_Li_pair ({ frames := 2, cells := 0, slots := 0, locals := 42 }) (pcRE dC dI cI [(h0, .inr (4, [.ref a_held, .int v_room, .int v_first, .int v_count])), (a_held, .inr (0, [.ref a_held_numbers, .ref a_held_labels])), (a_held_numbers, .inl (cI, n, .inl g_held_numbers)), (a_held_labels, .inl (cI, n, .inl g_held_labels))] nestP [.ref h0, .int x_p0]) (QcReadL (f_Li_pair v_room v_first g_held_numbers g_held_labels x_p0)) 0 0 (fun _ => False) := by
  refine Met.ofW (cc := c_Li_pair) (maxL := 2) (ret := (some .long)) (by decide) rfl ?_
  intro p e s m args below meth c s₁ B hml hv
  obtain ⟨rfl, hP, hK, hE⟩ := hv
  have hx := B.exec
  have hb := B.bytes
  have hr := B.returns
  have hts : ∀ w ∈ wG, w.before _ s = true := fun w h => atoms_spec (ws := w_Li_pair) B.pre w (List.mem_cons_of_mem _ h)
  have hown : s.vm.findClass "LabelledCore$Line" = some m.cls := findClass_of_methodNamed B.named
  have hlocks := B.notSynchronized
  have hl := lv_entry ([.ref h0, .int x_p0]) (n := 2) (Nat.le_of_ble_eq_true rfl)
  rw [lg_entry_eq]
  generalize (lg_sl ([.ref h0, .int x_p0]) ++ List.replicate (2 - (lg_sl ([.ref h0, .int x_p0])).length) Slot.unset).toArray = ls at hl ⊢
  have hl : lv_has ls 2 [(0, .ref h0), (1, .int x_p0)] := hl
  refine lv_aload_n hx hb d_Li_pair_0 rfl (lv_at hl 0 rfl) ?_
  refine va_get (D := (dC, dI)) (ci := 4) (v := .ref a_held) (C := "LabelledCore$Line") (T := T_Li) (N := 4) hx hb hts in_Li hown hK hP 0 rfl rfl 0 (by decide) (hts _ wm_91) (fun _ h9 => h9) rfl d_Li_pair_1 ?_
  refine lv_aload_n hx hb d_Li_pair_4 rfl (lv_at hl 0 rfl) ?_
  refine lv_iload_n hx hb d_Li_pair_5 rfl (lv_at hl 1 rfl) ?_
  have hPc := hP.sub (ws' := [(h0, .inr (4, [.ref a_held, .int v_room, .int v_first, .int v_count]))]) [0] rfl
  refine W.callR ((W.runV (As := [.int x_p0]) (rest := [.ref a_held]) ⟨hx, hb, hml, hown, hts⟩ (ct_Li_placeOfNth l dC dI cI h0 a_held v_room v_first v_count x_p0) (cwV 1 hts (gV wm_294 wm_296 wm_2 wm_38 wm_297) rfl rfl rfl (by decide +kernel) ⟨Nat.le_of_ble_eq_true rfl, Nat.le_of_ble_eq_true rfl⟩) ⟨pcR_blind, va_recv hK hPc (ci := 4) (q0 := 0) rfl rfl, pcR_pre hPc hK⟩ rfl rfl hl.1 rfl (lv_room (Nat.le_of_ble_eq_true rfl)) d_Li_pair_6 ⟨Nat.le_of_ble_eq_true rfl, Nat.le_of_ble_eq_true rfl⟩)) ?_
  refine W.eq (g2 := F0 m 9 ls [.int (f_Li_placeOfNth v_room v_first x_p0), .ref a_held]) rfl ?_
  have hPc := hP.sub (ws' := [(a_held, .inr (0, [.ref a_held_numbers, .ref a_held_labels])), (a_held_numbers, .inl (cI, n, .inl g_held_numbers)), (a_held_labels, .inl (cI, n, .inl g_held_labels))]) [1, 2, 3] rfl
  refine callRL ((W.runV (As := [.int (f_Li_placeOfNth v_room v_first x_p0)]) (rest := []) ⟨hx, hb, hml, hown, hts⟩ (ct_Ba_pair l dC dI cI a_held a_held_numbers a_held_labels n g_held_numbers g_held_labels (f_Li_placeOfNth v_room v_first x_p0) hs_9_0) (cwV 1 hts (gV wm_937 wm_898 wm_899 wm_37 wm_900) rfl rfl rfl (by decide +kernel) ⟨Nat.le_of_ble_eq_true rfl, Nat.le_of_ble_eq_true rfl⟩) ⟨pcRE_blind nestP.bl, va_recv hK hPc (ci := 0) (q0 := 0) rfl rfl, pcRE_pre hPc hK (fun U hW => nestP.wm hW hE)⟩ rfl rfl hl.1 rfl (lv_room (Nat.le_of_ble_eq_true rfl)) d_Li_pair_9 ⟨Nat.le_of_ble_eq_true rfl, Nat.le_of_ble_eq_true rfl⟩)) ?_
  refine W.eq (g2 := F0 m 12 ls [.long (f_Ba_pair g_held_numbers g_held_labels (f_Li_placeOfNth v_room v_first x_p0))]) rfl ?_
  have ef : (f_Li_pair v_room v_first g_held_numbers g_held_labels x_p0) = ((f_Ba_pair g_held_numbers g_held_labels (f_Li_placeOfNth v_room v_first x_p0)) : Int64) := rfl
  exact W.lret (v := (f_Ba_pair g_held_numbers g_held_labels (f_Li_placeOfNth v_room v_first x_p0))) hx hb hr (fun t ht hW => ⟨by rw [ef], ht⟩) (fun _ h => by cases h) d_Li_pair_12
set_option maxHeartbeats 4000000 in
set_option maxRecDepth 100000 in
theorem ct_Co_rule (l : Launch) (dC : Nat → ClassId) (dI : Nat → Nat → Nat) (cI : ClassId) (sz : Nat) (h0 a_program a_registers a_store a_waiting a_gone a_kernel a_known a_asked a_kernel_code a_kernel_slots a_known_groups a_known_ps a_known_xs a_known_ys a_known_ms a_known_results a_known_nexts : Nat) (v_words : Int32) (v_outcome : Int32) (v_pc : Int32) (v_pcLabel : Int32) (v_done : Int32) (v_misses : Int32) (v_longMisses : Int32) (v_resultLabel : Int32) (v_nextLabel : Int32) (g_kernel_code : Nat → Int32) (v_known_entries : Int32) (v_known_count : Int32) (v_known_oldest : Int32) (x_p0 : Int32) (x_p1 : Int32) (x_p2 : Int32) (x_p3 : Int32) (x_p4 : Int32) (hd_0 : (x_p0 < 0) → False) (hd_1 : (¬ x_p0 < 0) → (x_p0 < 9) → ((f_Co_isMask x_p1) = 0) → False) (hd_2 : (¬ x_p0 < 0) → (x_p0 < 9) → (¬ (f_Co_isMask x_p1) = 0) → ((f_Co_isMask x_p2) = 0) → False) (hd_3 : (¬ x_p0 < 0) → (x_p0 < 9) → (¬ (f_Co_isMask x_p1) = 0) → (¬ (f_Co_isMask x_p2) = 0) → ((f_Co_isMask x_p3) = 0) → False) (hs_71_4 : (¬ x_p0 < 0) → (x_p0 < 9) → (¬ (f_Co_isMask x_p1) = 0) → (¬ (f_Co_isMask x_p2) = 0) → (¬ (f_Co_isMask x_p3) = 0) → (¬ (f_Co_isMask x_p4) = 0) → (∃ g : Nat, g ≤ 8 ∧ x_p0 = nI g)) (hd_5 : (¬ x_p0 < 0) → (x_p0 < 9) → (¬ (f_Co_isMask x_p1) = 0) → (¬ (f_Co_isMask x_p2) = 0) → (¬ (f_Co_isMask x_p3) = 0) → ((f_Co_isMask x_p4) = 0) → False) (hd_6 : (¬ x_p0 < 0) → (¬ x_p0 < 9) → False) : Met l y_Co_rule w_Co_rule ({ frames := 3, cells := 0, slots := 0, locals := 73 }) (pcW dC dI cI [(h0, .inr (5, [.ref a_program, .ref a_registers, .ref a_store, .ref a_waiting, .ref a_gone, .ref a_kernel, .ref a_known, .ref a_asked, .int v_words, .int v_outcome, .int v_pc, .int v_pcLabel, .int v_done, .int v_misses, .int v_longMisses, .int v_resultLabel, .int v_nextLabel])), (a_kernel, .inr (1, [.ref a_kernel_code, .ref a_kernel_slots])), (a_kernel_code, .inl (cI, 162, .inl g_kernel_code)), (a_known, .inr (3, [.ref a_known_groups, .ref a_known_ps, .ref a_known_xs, .ref a_known_ys, .ref a_known_ms, .ref a_known_results, .ref a_known_nexts, .int v_known_entries, .int v_known_count, .int v_known_oldest]))] sz [.ref h0, .int x_p0, .int x_p1, .int x_p2, .int x_p3, .int x_p4]) (va_Qv (fun _ : Unit => True) (fun _ t => atW dC dI cI [(h0, .inr (5, [.ref a_program, .ref a_registers, .ref a_store, .ref a_waiting, .ref a_gone, .ref a_kernel, .ref a_known, .ref a_asked, .int v_words, .int v_outcome, .int v_pc, .int v_pcLabel, .int v_done, .int v_misses, .int v_longMisses, .int v_resultLabel, .int v_nextLabel])), (a_kernel, .inr (1, [.ref a_kernel_code, .ref a_kernel_slots])), (a_kernel_code, .inl (cI, 162, .inl (f_Ke_learn g_kernel_code x_p0 x_p1 x_p2 x_p3 x_p4))), (a_known, .inr (3, [.ref a_known_groups, .ref a_known_ps, .ref a_known_xs, .ref a_known_ys, .ref a_known_ms, .ref a_known_results, .ref a_known_nexts, .int v_known_entries, .int 0, .int 0]))] (va_A [(h0, .inr (5, [.ref a_program, .ref a_registers, .ref a_store, .ref a_waiting, .ref a_gone, .ref a_kernel, .ref a_known, .ref a_asked, .int v_words, .int v_outcome, .int v_pc, .int v_pcLabel, .int v_done, .int v_misses, .int v_longMisses, .int v_resultLabel, .int v_nextLabel])), (a_kernel, .inr (1, [.ref a_kernel_code, .ref a_kernel_slots])), (a_kernel_code, .inl (cI, 162, .inl g_kernel_code)), (a_known, .inr (3, [.ref a_known_groups, .ref a_known_ps, .ref a_known_xs, .ref a_known_ys, .ref a_known_ms, .ref a_known_results, .ref a_known_nexts, .int v_known_entries, .int v_known_count, .int v_known_oldest]))] sz) t) (va_A [(h0, .inr (5, [.ref a_program, .ref a_registers, .ref a_store, .ref a_waiting, .ref a_gone, .ref a_kernel, .ref a_known, .ref a_asked, .int v_words, .int v_outcome, .int v_pc, .int v_pcLabel, .int v_done, .int v_misses, .int v_longMisses, .int v_resultLabel, .int v_nextLabel])), (a_kernel, .inr (1, [.ref a_kernel_code, .ref a_kernel_slots])), (a_kernel_code, .inl (cI, 162, .inl g_kernel_code)), (a_known, .inr (3, [.ref a_known_groups, .ref a_known_ps, .ref a_known_xs, .ref a_known_ys, .ref a_known_ms, .ref a_known_results, .ref a_known_nexts, .int v_known_entries, .int v_known_count, .int v_known_oldest]))] sz)) 0 0 (va_A [(h0, .inr (5, [.ref a_program, .ref a_registers, .ref a_store, .ref a_waiting, .ref a_gone, .ref a_kernel, .ref a_known, .ref a_asked, .int v_words, .int v_outcome, .int v_pc, .int v_pcLabel, .int v_done, .int v_misses, .int v_longMisses, .int v_resultLabel, .int v_nextLabel])), (a_kernel, .inr (1, [.ref a_kernel_code, .ref a_kernel_slots])), (a_kernel_code, .inl (cI, 162, .inl g_kernel_code)), (a_known, .inr (3, [.ref a_known_groups, .ref a_known_ps, .ref a_known_xs, .ref a_known_ys, .ref a_known_ms, .ref a_known_results, .ref a_known_nexts, .int v_known_entries, .int v_known_count, .int v_known_oldest]))] sz) := by
  refine Met.ofW (cc := c_Co_rule) (maxL := 6) (ret := none) (by decide) rfl ?_
  intro p e s m args below meth c s₁ B hml hv
  obtain ⟨rfl, hsz, hP, hK, hD0⟩ := hv
  have hx := B.exec
  have hb := B.bytes
  have hr := B.returns
  have hts : ∀ w ∈ wG, w.before _ s = true := fun w h => atoms_spec (ws := w_Co_rule) B.pre w (List.mem_cons_of_mem _ h)
  have hown : s.vm.findClass "LabelledCore" = some m.cls := findClass_of_methodNamed B.named
  have hlocks := B.notSynchronized
  subst hsz
  have hD := hD0.self (sz := s.heap.size)
  generalize hAe : va_A [(h0, .inr (5, [.ref a_program, .ref a_registers, .ref a_store, .ref a_waiting, .ref a_gone, .ref a_kernel, .ref a_known, .ref a_asked, .int v_words, .int v_outcome, .int v_pc, .int v_pcLabel, .int v_done, .int v_misses, .int v_longMisses, .int v_resultLabel, .int v_nextLabel])), (a_kernel, .inr (1, [.ref a_kernel_code, .ref a_kernel_slots])), (a_kernel_code, .inl (cI, 162, .inl g_kernel_code)), (a_known, .inr (3, [.ref a_known_groups, .ref a_known_ps, .ref a_known_xs, .ref a_known_ys, .ref a_known_ms, .ref a_known_results, .ref a_known_nexts, .int v_known_entries, .int v_known_count, .int v_known_oldest]))] s.heap.size = A at hD ⊢
  have hA : ∀ q : Nat, s.heap.size ≤ q → A q := fun q h => by rw [← hAe]; exact Or.inr h
  have hS : va_S A s.heap s.heap [] := va_S.rf
  have hP : va_P (dC, dI) clsL [(h0, .inr (5, [.ref a_program, .ref a_registers, .ref a_store, .ref a_waiting, .ref a_gone, .ref a_kernel, .ref a_known, .ref a_asked, .int v_words, .int v_outcome, .int v_pc, .int v_pcLabel, .int v_done, .int v_misses, .int v_longMisses, .int v_resultLabel, .int v_nextLabel])), (a_kernel, .inr (1, [.ref a_kernel_code, .ref a_kernel_slots])), (a_kernel_code, .inl (cI, 162, .inl g_kernel_code)), (a_known, .inr (3, [.ref a_known_groups, .ref a_known_ps, .ref a_known_xs, .ref a_known_ys, .ref a_known_ms, .ref a_known_results, .ref a_known_nexts, .int v_known_entries, .int v_known_count, .int v_known_oldest]))] s.heap := hP
  have hl := lv_entry ([.ref h0, .int x_p0, .int x_p1, .int x_p2, .int x_p3, .int x_p4]) (n := 6) (Nat.le_of_ble_eq_true rfl)
  rw [lg_entry_eq]
  generalize (lg_sl ([.ref h0, .int x_p0, .int x_p1, .int x_p2, .int x_p3, .int x_p4]) ++ List.replicate (6 - (lg_sl ([.ref h0, .int x_p0, .int x_p1, .int x_p2, .int x_p3, .int x_p4])).length) Slot.unset).toArray = ls at hl ⊢
  have hl : lv_has ls 6 [(0, .ref h0), (1, .int x_p0), (2, .int x_p1), (3, .int x_p2), (4, .int x_p3), (5, .int x_p4)] := hl
  refine lv_iload_n hx hb d_Co_rule_0 rfl (lv_at hl 1 rfl) ?_
  refine lv_if_lt (tgt := 10) hx hb d_Co_rule_1 (by decide) (fun c_1 => ?_) (fun c_1 => ?_)
  · exact ((hd_0 c_1)).elim
  · refine lv_iload_n hx hb d_Co_rule_4 rfl (lv_at hl 1 rfl) ?_
    refine lv_bipush (v := 9) hx hb d_Co_rule_5 (by decide) ?_
    refine lv_icmp_lt (tgt := 20) hx hb d_Co_rule_7 (by decide) (fun c_2 => ?_) (fun c_2 => ?_)
    · refine lv_iload_n hx hb d_Co_rule_20 rfl (lv_at hl 2 rfl) ?_
      have hPc := hP.sub (ws' := []) [] rfl
      refine W.callR ((W.runS (As := [.int x_p1]) (rest := []) ⟨hx, hb, hml, hown, hts⟩ (ct_Co_isMask l dC dI cI x_p1) (va_cwS 1 hts (gS wm_382 wm_383 wm_36 wm_384) rfl rfl rfl (by decide +kernel) ⟨Nat.le_of_ble_eq_true rfl, Nat.le_of_ble_eq_true rfl⟩) ⟨pcR_blind, pcR_pre hPc hK⟩ rfl rfl hl.1 rfl (lv_room (Nat.le_of_ble_eq_true rfl)) d_Co_rule_21 ⟨Nat.le_of_ble_eq_true rfl, Nat.le_of_ble_eq_true rfl⟩)) ?_
      refine W.eq (g2 := F0 m 24 ls [.int (f_Co_isMask x_p1)]) rfl ?_
      refine lv_if_eq (tgt := 50) hx hb d_Co_rule_24 (by decide) (fun c_3 => ?_) (fun c_3 => ?_)
      · exact ((hd_1 c_1 c_2 c_3)).elim
      · refine lv_iload_n hx hb d_Co_rule_27 rfl (lv_at hl 3 rfl) ?_
        have hPc := hP.sub (ws' := []) [] rfl
        refine W.callR ((W.runS (As := [.int x_p2]) (rest := []) ⟨hx, hb, hml, hown, hts⟩ (ct_Co_isMask l dC dI cI x_p2) (va_cwS 1 hts (gS wm_382 wm_383 wm_36 wm_384) rfl rfl rfl (by decide +kernel) ⟨Nat.le_of_ble_eq_true rfl, Nat.le_of_ble_eq_true rfl⟩) ⟨pcR_blind, pcR_pre hPc hK⟩ rfl rfl hl.1 rfl (lv_room (Nat.le_of_ble_eq_true rfl)) d_Co_rule_28 ⟨Nat.le_of_ble_eq_true rfl, Nat.le_of_ble_eq_true rfl⟩)) ?_
        refine W.eq (g2 := F0 m 31 ls [.int (f_Co_isMask x_p2)]) rfl ?_
        refine lv_if_eq (tgt := 50) hx hb d_Co_rule_31 (by decide) (fun c_4 => ?_) (fun c_4 => ?_)
        · exact ((hd_2 c_1 c_2 c_3 c_4)).elim
        · refine lv_iload hx hb d_Co_rule_34 (lv_at hl 4 rfl) ?_
          have hPc := hP.sub (ws' := []) [] rfl
          refine W.callR ((W.runS (As := [.int x_p3]) (rest := []) ⟨hx, hb, hml, hown, hts⟩ (ct_Co_isMask l dC dI cI x_p3) (va_cwS 1 hts (gS wm_382 wm_383 wm_36 wm_384) rfl rfl rfl (by decide +kernel) ⟨Nat.le_of_ble_eq_true rfl, Nat.le_of_ble_eq_true rfl⟩) ⟨pcR_blind, pcR_pre hPc hK⟩ rfl rfl hl.1 rfl (lv_room (Nat.le_of_ble_eq_true rfl)) d_Co_rule_36 ⟨Nat.le_of_ble_eq_true rfl, Nat.le_of_ble_eq_true rfl⟩)) ?_
          refine W.eq (g2 := F0 m 39 ls [.int (f_Co_isMask x_p3)]) rfl ?_
          refine lv_if_eq (tgt := 50) hx hb d_Co_rule_39 (by decide) (fun c_5 => ?_) (fun c_5 => ?_)
          · exact ((hd_3 c_1 c_2 c_3 c_4 c_5)).elim
          · refine lv_iload hx hb d_Co_rule_42 (lv_at hl 5 rfl) ?_
            have hPc := hP.sub (ws' := []) [] rfl
            refine W.callR ((W.runS (As := [.int x_p4]) (rest := []) ⟨hx, hb, hml, hown, hts⟩ (ct_Co_isMask l dC dI cI x_p4) (va_cwS 1 hts (gS wm_382 wm_383 wm_36 wm_384) rfl rfl rfl (by decide +kernel) ⟨Nat.le_of_ble_eq_true rfl, Nat.le_of_ble_eq_true rfl⟩) ⟨pcR_blind, pcR_pre hPc hK⟩ rfl rfl hl.1 rfl (lv_room (Nat.le_of_ble_eq_true rfl)) d_Co_rule_44 ⟨Nat.le_of_ble_eq_true rfl, Nat.le_of_ble_eq_true rfl⟩)) ?_
            refine W.eq (g2 := F0 m 47 ls [.int (f_Co_isMask x_p4)]) rfl ?_
            refine lv_if_ne (tgt := 60) hx hb d_Co_rule_47 (by decide) (fun c_6 => ?_) (fun c_6 => ?_)
            · refine lv_aload_n hx hb d_Co_rule_60 rfl (lv_at hl 0 rfl) ?_
              refine va_get (D := (dC, dI)) (ci := 5) (v := .ref a_kernel) (C := "LabelledCore") (T := T_Co) (N := 17) hx hb hts in_Co hown hK hP 0 rfl rfl 5 (by decide) (hts _ wm_204) (fun _ h9 => h9) rfl d_Co_rule_61 ?_
              refine lv_iload_n hx hb d_Co_rule_64 rfl (lv_at hl 1 rfl) ?_
              refine lv_iload_n hx hb d_Co_rule_65 rfl (lv_at hl 2 rfl) ?_
              refine lv_iload_n hx hb d_Co_rule_66 rfl (lv_at hl 3 rfl) ?_
              refine lv_iload hx hb d_Co_rule_67 (lv_at hl 4 rfl) ?_
              refine lv_iload hx hb d_Co_rule_69 (lv_at hl 5 rfl) ?_
              have hPc := hP.sub (ws' := [(a_kernel, .inr (1, [.ref a_kernel_code, .ref a_kernel_slots])), (a_kernel_code, .inl (cI, 162, .inl g_kernel_code))]) [1, 2] rfl
              have hDc := hD.sub (ws' := [(a_kernel, .inr (1, [.ref a_kernel_code, .ref a_kernel_slots])), (a_kernel_code, .inl (cI, 162, .inl g_kernel_code))]) [1, 2] (by decide) rfl
              have hFc := va_free (wc := [(a_kernel, .inr (1, [.ref a_kernel_code, .ref a_kernel_slots])), (a_kernel_code, .inl (cI, 162, .inl g_kernel_code))]) hD hS hA [1, 2] rfl
              refine va_callv (va_runV (As := [.int x_p0, .int x_p1, .int x_p2, .int x_p3, .int x_p4]) (rest := []) ⟨hx, hb, hml, hown, hts⟩ (ct_Ke_learn l dC dI cI s.heap.size a_kernel a_kernel_code a_kernel_slots g_kernel_code x_p0 x_p1 x_p2 x_p3 x_p4 (hs_71_4 c_1 c_2 c_3 c_4 c_5 c_6)) (cwV 5 hts (gV wm_188 wm_189 wm_190 wm_39 wm_191) rfl rfl rfl (by decide +kernel) ⟨Nat.le_of_ble_eq_true rfl, Nat.le_of_ble_eq_true rfl⟩) ⟨pcW_blind, va_recv hK hPc (ci := 1) (q0 := 0) rfl rfl, pcW_pre hPc hK hDc⟩ rfl rfl hl.1 rfl (lv_room (Nat.le_of_ble_eq_true rfl)) d_Co_rule_71 ⟨Nat.le_of_ble_eq_true rfl, Nat.le_of_ble_eq_true rfl⟩) hS (fun q _ h => hFc q h) hFc (fun u t H1 locs ht hvm hw hB hz1 hk1 hS => ?_)
              obtain ⟨hP1, -, hD1⟩ := hB
              rw [ht] at hP1
              obtain ⟨hP, hD⟩ := va_join (wr := [(h0, .inr (5, [.ref a_program, .ref a_registers, .ref a_store, .ref a_waiting, .ref a_gone, .ref a_kernel, .ref a_known, .ref a_asked, .int v_words, .int v_outcome, .int v_pc, .int v_pcLabel, .int v_done, .int v_misses, .int v_longMisses, .int v_resultLabel, .int v_nextLabel])), (a_known, .inr (3, [.ref a_known_groups, .ref a_known_ps, .ref a_known_xs, .ref a_known_ys, .ref a_known_ms, .ref a_known_results, .ref a_known_nexts, .int v_known_entries, .int v_known_count, .int v_known_oldest]))]) (w1 := [(a_kernel, .inr (1, [.ref a_kernel_code, .ref a_kernel_slots])), (a_kernel_code, .inl (cI, 162, .inl (f_Ke_learn g_kernel_code x_p0 x_p1 x_p2 x_p3 x_p4)))]) hP hD [1, 2] [0, 3] rfl rfl (by decide) (by decide) hk1 hFc hP1 hD1
              clear hFc hDc hPc hP1 hD1 hk1 hz1 hvm ht
              generalize H1 = H at hP hS ⊢
              have hP : va_P (dC, dI) clsL [(h0, .inr (5, [.ref a_program, .ref a_registers, .ref a_store, .ref a_waiting, .ref a_gone, .ref a_kernel, .ref a_known, .ref a_asked, .int v_words, .int v_outcome, .int v_pc, .int v_pcLabel, .int v_done, .int v_misses, .int v_longMisses, .int v_resultLabel, .int v_nextLabel])), (a_known, .inr (3, [.ref a_known_groups, .ref a_known_ps, .ref a_known_xs, .ref a_known_ys, .ref a_known_ms, .ref a_known_results, .ref a_known_nexts, .int v_known_entries, .int v_known_count, .int v_known_oldest])), (a_kernel, .inr (1, [.ref a_kernel_code, .ref a_kernel_slots])), (a_kernel_code, .inl (cI, 162, .inl (f_Ke_learn g_kernel_code x_p0 x_p1 x_p2 x_p3 x_p4)))] H := hP
              have hD : va_D A [(h0, .inr (5, [.ref a_program, .ref a_registers, .ref a_store, .ref a_waiting, .ref a_gone, .ref a_kernel, .ref a_known, .ref a_asked, .int v_words, .int v_outcome, .int v_pc, .int v_pcLabel, .int v_done, .int v_misses, .int v_longMisses, .int v_resultLabel, .int v_nextLabel])), (a_known, .inr (3, [.ref a_known_groups, .ref a_known_ps, .ref a_known_xs, .ref a_known_ys, .ref a_known_ms, .ref a_known_results, .ref a_known_nexts, .int v_known_entries, .int v_known_count, .int v_known_oldest])), (a_kernel, .inr (1, [.ref a_kernel_code, .ref a_kernel_slots])), (a_kernel_code, .inl (cI, 162, .inl (f_Ke_learn g_kernel_code x_p0 x_p1 x_p2 x_p3 x_p4)))] := hD
              refine lv_aload_n hx hb d_Co_rule_74 rfl (lv_at hl 0 rfl) ?_
              refine va_get (D := (dC, dI)) (ci := 5) (v := .ref a_known) (C := "LabelledCore") (T := T_Co) (N := 17) hx hb hts in_Co hown hK hP 0 rfl rfl 6 (by decide) (hts _ wm_205) (fun _ h9 => h9) rfl d_Co_rule_75 ?_
              have hPc := hP.sub (ws' := [(a_known, .inr (3, [.ref a_known_groups, .ref a_known_ps, .ref a_known_xs, .ref a_known_ys, .ref a_known_ms, .ref a_known_results, .ref a_known_nexts, .int v_known_entries, .int v_known_count, .int v_known_oldest]))]) [1] rfl
              have hDc := hD.sub (ws' := [(a_known, .inr (3, [.ref a_known_groups, .ref a_known_ps, .ref a_known_xs, .ref a_known_ys, .ref a_known_ms, .ref a_known_results, .ref a_known_nexts, .int v_known_entries, .int v_known_count, .int v_known_oldest]))]) [1] (by decide) rfl
              have hFc := va_free (wc := [(a_known, .inr (3, [.ref a_known_groups, .ref a_known_ps, .ref a_known_xs, .ref a_known_ys, .ref a_known_ms, .ref a_known_results, .ref a_known_nexts, .int v_known_entries, .int v_known_count, .int v_known_oldest]))]) hD hS hA [1] rfl
              refine va_callv (va_runV (As := []) (rest := []) ⟨hx, hb, hml, hown, hts⟩ (ct_Kc_forget l dC dI cI H.size a_known a_known_groups a_known_ps a_known_xs a_known_ys a_known_ms a_known_results a_known_nexts v_known_entries v_known_count v_known_oldest) (cwV 0 hts (gV wm_274 wm_275 wm_276 wm_40 wm_277) rfl rfl rfl (by decide +kernel) ⟨Nat.le_of_ble_eq_true rfl, Nat.le_of_ble_eq_true rfl⟩) ⟨pcW_blind, va_recv hK hPc (ci := 3) (q0 := 0) rfl rfl, pcW_pre hPc hK hDc⟩ rfl rfl hl.1 rfl (lv_room (Nat.le_of_ble_eq_true rfl)) d_Co_rule_78 ⟨Nat.le_of_ble_eq_true rfl, Nat.le_of_ble_eq_true rfl⟩) hS (fun q _ h => hFc q h) hFc (fun u t H1 locs ht hvm hw hB hz1 hk1 hS => ?_)
              obtain ⟨hP1, -, hD1⟩ := hB
              rw [ht] at hP1
              obtain ⟨hP, hD⟩ := va_join (wr := [(h0, .inr (5, [.ref a_program, .ref a_registers, .ref a_store, .ref a_waiting, .ref a_gone, .ref a_kernel, .ref a_known, .ref a_asked, .int v_words, .int v_outcome, .int v_pc, .int v_pcLabel, .int v_done, .int v_misses, .int v_longMisses, .int v_resultLabel, .int v_nextLabel])), (a_kernel, .inr (1, [.ref a_kernel_code, .ref a_kernel_slots])), (a_kernel_code, .inl (cI, 162, .inl (f_Ke_learn g_kernel_code x_p0 x_p1 x_p2 x_p3 x_p4)))]) (w1 := [(a_known, .inr (3, [.ref a_known_groups, .ref a_known_ps, .ref a_known_xs, .ref a_known_ys, .ref a_known_ms, .ref a_known_results, .ref a_known_nexts, .int v_known_entries, .int 0, .int 0]))]) hP hD [1] [0, 2, 3] rfl rfl (by decide) (by decide) hk1 hFc hP1 hD1
              clear hFc hDc hPc hP1 hD1 hk1 hz1 hvm ht
              generalize H1 = H at hP hS ⊢
              have hP : va_P (dC, dI) clsL [(h0, .inr (5, [.ref a_program, .ref a_registers, .ref a_store, .ref a_waiting, .ref a_gone, .ref a_kernel, .ref a_known, .ref a_asked, .int v_words, .int v_outcome, .int v_pc, .int v_pcLabel, .int v_done, .int v_misses, .int v_longMisses, .int v_resultLabel, .int v_nextLabel])), (a_kernel, .inr (1, [.ref a_kernel_code, .ref a_kernel_slots])), (a_kernel_code, .inl (cI, 162, .inl (f_Ke_learn g_kernel_code x_p0 x_p1 x_p2 x_p3 x_p4))), (a_known, .inr (3, [.ref a_known_groups, .ref a_known_ps, .ref a_known_xs, .ref a_known_ys, .ref a_known_ms, .ref a_known_results, .ref a_known_nexts, .int v_known_entries, .int 0, .int 0]))] H := hP
              have hD : va_D A [(h0, .inr (5, [.ref a_program, .ref a_registers, .ref a_store, .ref a_waiting, .ref a_gone, .ref a_kernel, .ref a_known, .ref a_asked, .int v_words, .int v_outcome, .int v_pc, .int v_pcLabel, .int v_done, .int v_misses, .int v_longMisses, .int v_resultLabel, .int v_nextLabel])), (a_kernel, .inr (1, [.ref a_kernel_code, .ref a_kernel_slots])), (a_kernel_code, .inl (cI, 162, .inl (f_Ke_learn g_kernel_code x_p0 x_p1 x_p2 x_p3 x_p4))), (a_known, .inr (3, [.ref a_known_groups, .ref a_known_ps, .ref a_known_xs, .ref a_known_ys, .ref a_known_ms, .ref a_known_results, .ref a_known_nexts, .int v_known_entries, .int 0, .int 0]))] := hD
              have hP9 := hP.sub (ws' := [(h0, .inr (5, [.ref a_program, .ref a_registers, .ref a_store, .ref a_waiting, .ref a_gone, .ref a_kernel, .ref a_known, .ref a_asked, .int v_words, .int v_outcome, .int v_pc, .int v_pcLabel, .int v_done, .int v_misses, .int v_longMisses, .int v_resultLabel, .int v_nextLabel])), (a_kernel, .inr (1, [.ref a_kernel_code, .ref a_kernel_slots])), (a_kernel_code, .inl (cI, 162, .inl (f_Ke_learn g_kernel_code x_p0 x_p1 x_p2 x_p3 x_p4))), (a_known, .inr (3, [.ref a_known_groups, .ref a_known_ps, .ref a_known_xs, .ref a_known_ys, .ref a_known_ms, .ref a_known_results, .ref a_known_nexts, .int v_known_entries, .int 0, .int 0]))]) [0, 1, 2, 3] rfl
              have hD9 := hD.sub (ws' := [(h0, .inr (5, [.ref a_program, .ref a_registers, .ref a_store, .ref a_waiting, .ref a_gone, .ref a_kernel, .ref a_known, .ref a_asked, .int v_words, .int v_outcome, .int v_pc, .int v_pcLabel, .int v_done, .int v_misses, .int v_longMisses, .int v_resultLabel, .int v_nextLabel])), (a_kernel, .inr (1, [.ref a_kernel_code, .ref a_kernel_slots])), (a_kernel_code, .inl (cI, 162, .inl (f_Ke_learn g_kernel_code x_p0 x_p1 x_p2 x_p3 x_p4))), (a_known, .inr (3, [.ref a_known_groups, .ref a_known_ps, .ref a_known_xs, .ref a_known_ys, .ref a_known_ms, .ref a_known_results, .ref a_known_nexts, .int v_known_entries, .int 0, .int 0]))]) [0, 1, 2, 3] (by decide) rfl
              exact W.vret hx hb hr (fun t ht hW => ⟨⟨(), rfl, trivial, by rw [ht]; exact hP9, va_K.moved hW.alike hK, hD9⟩, hS.F ht⟩) hS.2.2 d_Co_rule_81
            · exact ((hd_5 c_1 c_2 c_3 c_4 c_5 c_6)).elim
    · exact ((hd_6 c_1 c_2)).elim
set_option maxHeartbeats 4000000 in
set_option maxRecDepth 100000 in
theorem ct_Co_cache (l : Launch) (dC : Nat → ClassId) (dI : Nat → Nat → Nat) (cI : ClassId) (sz : Nat) (h0 a_program a_registers a_store a_waiting a_gone a_kernel a_known a_asked a_known_groups a_known_ps a_known_xs a_known_ys a_known_ms a_known_results a_known_nexts : Nat) (v_words : Int32) (v_outcome : Int32) (v_pc : Int32) (v_pcLabel : Int32) (v_done : Int32) (v_misses : Int32) (v_longMisses : Int32) (v_resultLabel : Int32) (v_nextLabel : Int32) (v_known_entries : Int32) (v_known_count : Int32) (v_known_oldest : Int32) (x_p0 : Int32) (hd_0 : (x_p0 < 1) → False) (hd_1 : (¬ x_p0 < 1) → (¬ x_p0 ≤ 64) → False) : Met l y_Co_cache w_Co_cache ({ frames := 2, cells := 0, slots := 0, locals := 42 }) (pcW dC dI cI [(h0, .inr (5, [.ref a_program, .ref a_registers, .ref a_store, .ref a_waiting, .ref a_gone, .ref a_kernel, .ref a_known, .ref a_asked, .int v_words, .int v_outcome, .int v_pc, .int v_pcLabel, .int v_done, .int v_misses, .int v_longMisses, .int v_resultLabel, .int v_nextLabel])), (a_known, .inr (3, [.ref a_known_groups, .ref a_known_ps, .ref a_known_xs, .ref a_known_ys, .ref a_known_ms, .ref a_known_results, .ref a_known_nexts, .int v_known_entries, .int v_known_count, .int v_known_oldest]))] sz [.ref h0, .int x_p0]) (va_Qi (fun (r : Int32) (_ : Unit) => r = v_known_entries) (fun _ t => atW dC dI cI [(h0, .inr (5, [.ref a_program, .ref a_registers, .ref a_store, .ref a_waiting, .ref a_gone, .ref a_kernel, .ref a_known, .ref a_asked, .int v_words, .int v_outcome, .int v_pc, .int v_pcLabel, .int v_done, .int v_misses, .int v_longMisses, .int v_resultLabel, .int v_nextLabel])), (a_known, .inr (3, [.ref a_known_groups, .ref a_known_ps, .ref a_known_xs, .ref a_known_ys, .ref a_known_ms, .ref a_known_results, .ref a_known_nexts, .int x_p0, .int 0, .int 0]))] (va_A [(h0, .inr (5, [.ref a_program, .ref a_registers, .ref a_store, .ref a_waiting, .ref a_gone, .ref a_kernel, .ref a_known, .ref a_asked, .int v_words, .int v_outcome, .int v_pc, .int v_pcLabel, .int v_done, .int v_misses, .int v_longMisses, .int v_resultLabel, .int v_nextLabel])), (a_known, .inr (3, [.ref a_known_groups, .ref a_known_ps, .ref a_known_xs, .ref a_known_ys, .ref a_known_ms, .ref a_known_results, .ref a_known_nexts, .int v_known_entries, .int v_known_count, .int v_known_oldest]))] sz) t) (va_A [(h0, .inr (5, [.ref a_program, .ref a_registers, .ref a_store, .ref a_waiting, .ref a_gone, .ref a_kernel, .ref a_known, .ref a_asked, .int v_words, .int v_outcome, .int v_pc, .int v_pcLabel, .int v_done, .int v_misses, .int v_longMisses, .int v_resultLabel, .int v_nextLabel])), (a_known, .inr (3, [.ref a_known_groups, .ref a_known_ps, .ref a_known_xs, .ref a_known_ys, .ref a_known_ms, .ref a_known_results, .ref a_known_nexts, .int v_known_entries, .int v_known_count, .int v_known_oldest]))] sz)) 0 0 (va_A [(h0, .inr (5, [.ref a_program, .ref a_registers, .ref a_store, .ref a_waiting, .ref a_gone, .ref a_kernel, .ref a_known, .ref a_asked, .int v_words, .int v_outcome, .int v_pc, .int v_pcLabel, .int v_done, .int v_misses, .int v_longMisses, .int v_resultLabel, .int v_nextLabel])), (a_known, .inr (3, [.ref a_known_groups, .ref a_known_ps, .ref a_known_xs, .ref a_known_ys, .ref a_known_ms, .ref a_known_results, .ref a_known_nexts, .int v_known_entries, .int v_known_count, .int v_known_oldest]))] sz) := by
  refine Met.ofW (cc := c_Co_cache) (maxL := 2) (ret := (some .int)) (by decide) rfl ?_
  intro p e s m args below meth c s₁ B hml hv
  obtain ⟨rfl, hsz, hP, hK, hD0⟩ := hv
  have hx := B.exec
  have hb := B.bytes
  have hr := B.returns
  have hts : ∀ w ∈ wG, w.before _ s = true := fun w h => atoms_spec (ws := w_Co_cache) B.pre w (List.mem_cons_of_mem _ h)
  have hown : s.vm.findClass "LabelledCore" = some m.cls := findClass_of_methodNamed B.named
  have hlocks := B.notSynchronized
  subst hsz
  have hD := hD0.self (sz := s.heap.size)
  generalize hAe : va_A [(h0, .inr (5, [.ref a_program, .ref a_registers, .ref a_store, .ref a_waiting, .ref a_gone, .ref a_kernel, .ref a_known, .ref a_asked, .int v_words, .int v_outcome, .int v_pc, .int v_pcLabel, .int v_done, .int v_misses, .int v_longMisses, .int v_resultLabel, .int v_nextLabel])), (a_known, .inr (3, [.ref a_known_groups, .ref a_known_ps, .ref a_known_xs, .ref a_known_ys, .ref a_known_ms, .ref a_known_results, .ref a_known_nexts, .int v_known_entries, .int v_known_count, .int v_known_oldest]))] s.heap.size = A at hD ⊢
  have hA : ∀ q : Nat, s.heap.size ≤ q → A q := fun q h => by rw [← hAe]; exact Or.inr h
  have hS : va_S A s.heap s.heap [] := va_S.rf
  have hP : va_P (dC, dI) clsL [(h0, .inr (5, [.ref a_program, .ref a_registers, .ref a_store, .ref a_waiting, .ref a_gone, .ref a_kernel, .ref a_known, .ref a_asked, .int v_words, .int v_outcome, .int v_pc, .int v_pcLabel, .int v_done, .int v_misses, .int v_longMisses, .int v_resultLabel, .int v_nextLabel])), (a_known, .inr (3, [.ref a_known_groups, .ref a_known_ps, .ref a_known_xs, .ref a_known_ys, .ref a_known_ms, .ref a_known_results, .ref a_known_nexts, .int v_known_entries, .int v_known_count, .int v_known_oldest]))] s.heap := hP
  have hl := lv_entry ([.ref h0, .int x_p0]) (n := 2) (Nat.le_of_ble_eq_true rfl)
  rw [lg_entry_eq]
  generalize (lg_sl ([.ref h0, .int x_p0]) ++ List.replicate (2 - (lg_sl ([.ref h0, .int x_p0])).length) Slot.unset).toArray = ls at hl ⊢
  have hl : lv_has ls 2 [(0, .ref h0), (1, .int x_p0)] := hl
  refine lv_iload_n hx hb d_Co_cache_0 rfl (lv_at hl 1 rfl) ?_
  refine lv_iconst (v := 1) hx hb d_Co_cache_1 (by decide) ?_
  refine lv_icmp_lt (tgt := 11) hx hb d_Co_cache_2 (by decide) (fun c_1 => ?_) (fun c_1 => ?_)
  · exact ((hd_0 c_1)).elim
  · refine lv_iload_n hx hb d_Co_cache_5 rfl (lv_at hl 1 rfl) ?_
    refine lv_bipush (v := 64) hx hb d_Co_cache_6 (by decide) ?_
    refine lv_icmp_le (tgt := 21) hx hb d_Co_cache_8 (by decide) (fun c_2 => ?_) (fun c_2 => ?_)
    · refine lv_aload_n hx hb d_Co_cache_21 rfl (lv_at hl 0 rfl) ?_
      refine va_get (D := (dC, dI)) (ci := 5) (v := .ref a_known) (C := "LabelledCore") (T := T_Co) (N := 17) hx hb hts in_Co hown hK hP 0 rfl rfl 6 (by decide) (hts _ wm_205) (fun _ h9 => h9) rfl d_Co_cache_22 ?_
      refine lv_iload_n hx hb d_Co_cache_25 rfl (lv_at hl 1 rfl) ?_
      have hPc := hP.sub (ws' := [(a_known, .inr (3, [.ref a_known_groups, .ref a_known_ps, .ref a_known_xs, .ref a_known_ys, .ref a_known_ms, .ref a_known_results, .ref a_known_nexts, .int v_known_entries, .int v_known_count, .int v_known_oldest]))]) [1] rfl
      have hDc := hD.sub (ws' := [(a_known, .inr (3, [.ref a_known_groups, .ref a_known_ps, .ref a_known_xs, .ref a_known_ys, .ref a_known_ms, .ref a_known_results, .ref a_known_nexts, .int v_known_entries, .int v_known_count, .int v_known_oldest]))]) [1] (by decide) rfl
      have hFc := va_free (wc := [(a_known, .inr (3, [.ref a_known_groups, .ref a_known_ps, .ref a_known_xs, .ref a_known_ys, .ref a_known_ms, .ref a_known_results, .ref a_known_nexts, .int v_known_entries, .int v_known_count, .int v_known_oldest]))]) hD hS hA [1] rfl
      refine va_calli (va_runV (As := [.int x_p0]) (rest := []) ⟨hx, hb, hml, hown, hts⟩ (ct_Kc_resize l dC dI cI s.heap.size a_known a_known_groups a_known_ps a_known_xs a_known_ys a_known_ms a_known_results a_known_nexts v_known_entries v_known_count v_known_oldest x_p0) (cwV 1 hts (gV wm_394 wm_395 wm_396 wm_40 wm_397) rfl rfl rfl (by decide +kernel) ⟨Nat.le_of_ble_eq_true rfl, Nat.le_of_ble_eq_true rfl⟩) ⟨pcW_blind, va_recv hK hPc (ci := 3) (q0 := 0) rfl rfl, pcW_pre hPc hK hDc⟩ rfl rfl hl.1 rfl (lv_room (Nat.le_of_ble_eq_true rfl)) d_Co_cache_26 ⟨Nat.le_of_ble_eq_true rfl, Nat.le_of_ble_eq_true rfl⟩) hS (fun q _ h => hFc q h) hFc (fun r_3 u t H1 locs ht hvm hw hB hz1 hk1 hS => ?_)
      have hw : r_3 = v_known_entries := hw
      refine lv_toE hw ?_
      obtain ⟨hP1, -, hD1⟩ := hB
      rw [ht] at hP1
      obtain ⟨hP, hD⟩ := va_join (wr := [(h0, .inr (5, [.ref a_program, .ref a_registers, .ref a_store, .ref a_waiting, .ref a_gone, .ref a_kernel, .ref a_known, .ref a_asked, .int v_words, .int v_outcome, .int v_pc, .int v_pcLabel, .int v_done, .int v_misses, .int v_longMisses, .int v_resultLabel, .int v_nextLabel]))]) (w1 := [(a_known, .inr (3, [.ref a_known_groups, .ref a_known_ps, .ref a_known_xs, .ref a_known_ys, .ref a_known_ms, .ref a_known_results, .ref a_known_nexts, .int x_p0, .int 0, .int 0]))]) hP hD [1] [0] rfl rfl (by decide) (by decide) hk1 hFc hP1 hD1
      clear hFc hDc hPc hP1 hD1 hk1 hz1 hvm ht
      generalize H1 = H at hP hS ⊢
      have hP : va_P (dC, dI) clsL [(h0, .inr (5, [.ref a_program, .ref a_registers, .ref a_store, .ref a_waiting, .ref a_gone, .ref a_kernel, .ref a_known, .ref a_asked, .int v_words, .int v_outcome, .int v_pc, .int v_pcLabel, .int v_done, .int v_misses, .int v_longMisses, .int v_resultLabel, .int v_nextLabel])), (a_known, .inr (3, [.ref a_known_groups, .ref a_known_ps, .ref a_known_xs, .ref a_known_ys, .ref a_known_ms, .ref a_known_results, .ref a_known_nexts, .int x_p0, .int 0, .int 0]))] H := hP
      have hD : va_D A [(h0, .inr (5, [.ref a_program, .ref a_registers, .ref a_store, .ref a_waiting, .ref a_gone, .ref a_kernel, .ref a_known, .ref a_asked, .int v_words, .int v_outcome, .int v_pc, .int v_pcLabel, .int v_done, .int v_misses, .int v_longMisses, .int v_resultLabel, .int v_nextLabel])), (a_known, .inr (3, [.ref a_known_groups, .ref a_known_ps, .ref a_known_xs, .ref a_known_ys, .ref a_known_ms, .ref a_known_results, .ref a_known_nexts, .int x_p0, .int 0, .int 0]))] := hD
      have hP9 := hP.sub (ws' := [(h0, .inr (5, [.ref a_program, .ref a_registers, .ref a_store, .ref a_waiting, .ref a_gone, .ref a_kernel, .ref a_known, .ref a_asked, .int v_words, .int v_outcome, .int v_pc, .int v_pcLabel, .int v_done, .int v_misses, .int v_longMisses, .int v_resultLabel, .int v_nextLabel])), (a_known, .inr (3, [.ref a_known_groups, .ref a_known_ps, .ref a_known_xs, .ref a_known_ys, .ref a_known_ms, .ref a_known_results, .ref a_known_nexts, .int x_p0, .int 0, .int 0]))]) [0, 1] rfl
      have hD9 := hD.sub (ws' := [(h0, .inr (5, [.ref a_program, .ref a_registers, .ref a_store, .ref a_waiting, .ref a_gone, .ref a_kernel, .ref a_known, .ref a_asked, .int v_words, .int v_outcome, .int v_pc, .int v_pcLabel, .int v_done, .int v_misses, .int v_longMisses, .int v_resultLabel, .int v_nextLabel])), (a_known, .inr (3, [.ref a_known_groups, .ref a_known_ps, .ref a_known_xs, .ref a_known_ys, .ref a_known_ms, .ref a_known_results, .ref a_known_nexts, .int x_p0, .int 0, .int 0]))]) [0, 1] (by decide) rfl
      exact W.iret (v := v_known_entries) hx hb hr (fun t ht hW => ⟨⟨v_known_entries, (), rfl, rfl, by rw [ht]; exact hP9, va_K.moved hW.alike hK, hD9⟩, hS.F ht⟩) hS.2.2 d_Co_cache_29
    · exact ((hd_1 c_1 c_2)).elim
set_option maxHeartbeats 4000000 in
set_option maxRecDepth 100000 in
theorem ct_Co_set (l : Launch) (dC : Nat → ClassId) (dI : Nat → Nat → Nat) (cI : ClassId) (sz : Nat) (h0 a_program a_registers a_store a_waiting a_gone a_kernel a_known a_asked a_registers_numbers a_registers_labels : Nat) (v_words : Int32) (v_outcome : Int32) (v_pc : Int32) (v_pcLabel : Int32) (v_done : Int32) (v_misses : Int32) (v_longMisses : Int32) (v_resultLabel : Int32) (v_nextLabel : Int32) (g_registers_numbers : Nat → Int32) (g_registers_labels : Nat → Int32) (x_p0 : Int32) (x_p1 : Int32) (x_p2 : Int32) (hd_0 : (x_p0 < 1) → False) (hs_28_1 : (¬ x_p0 < 1) → (x_p0 < 32) → (vp_in x_p0 32)) (hd_2 : (¬ x_p0 < 1) → (¬ x_p0 < 32) → False) : Met l y_Co_set w_Co_set ({ frames := 1, cells := 0, slots := 0, locals := 23 }) (pcW dC dI cI [(h0, .inr (5, [.ref a_program, .ref a_registers, .ref a_store, .ref a_waiting, .ref a_gone, .ref a_kernel, .ref a_known, .ref a_asked, .int v_words, .int v_outcome, .int v_pc, .int v_pcLabel, .int v_done, .int v_misses, .int v_longMisses, .int v_resultLabel, .int v_nextLabel])), (a_registers, .inr (0, [.ref a_registers_numbers, .ref a_registers_labels])), (a_registers_numbers, .inl (cI, 32, .inl g_registers_numbers)), (a_registers_labels, .inl (cI, 32, .inl g_registers_labels))] sz [.ref h0, .int x_p0, .int x_p1, .int x_p2]) (va_Qv (fun _ : Unit => True) (fun _ t => atW dC dI cI [(h0, .inr (5, [.ref a_program, .ref a_registers, .ref a_store, .ref a_waiting, .ref a_gone, .ref a_kernel, .ref a_known, .ref a_asked, .int v_words, .int v_outcome, .int v_pc, .int v_pcLabel, .int v_done, .int v_misses, .int v_longMisses, .int v_resultLabel, .int v_nextLabel])), (a_registers, .inr (0, [.ref a_registers_numbers, .ref a_registers_labels])), (a_registers_numbers, .inl (cI, 32, .inl (upd g_registers_numbers (Int32.toNatClampNeg x_p0) x_p1))), (a_registers_labels, .inl (cI, 32, .inl (upd g_registers_labels (Int32.toNatClampNeg x_p0) x_p2)))] (va_A [(h0, .inr (5, [.ref a_program, .ref a_registers, .ref a_store, .ref a_waiting, .ref a_gone, .ref a_kernel, .ref a_known, .ref a_asked, .int v_words, .int v_outcome, .int v_pc, .int v_pcLabel, .int v_done, .int v_misses, .int v_longMisses, .int v_resultLabel, .int v_nextLabel])), (a_registers, .inr (0, [.ref a_registers_numbers, .ref a_registers_labels])), (a_registers_numbers, .inl (cI, 32, .inl g_registers_numbers)), (a_registers_labels, .inl (cI, 32, .inl g_registers_labels))] sz) t) (va_A [(h0, .inr (5, [.ref a_program, .ref a_registers, .ref a_store, .ref a_waiting, .ref a_gone, .ref a_kernel, .ref a_known, .ref a_asked, .int v_words, .int v_outcome, .int v_pc, .int v_pcLabel, .int v_done, .int v_misses, .int v_longMisses, .int v_resultLabel, .int v_nextLabel])), (a_registers, .inr (0, [.ref a_registers_numbers, .ref a_registers_labels])), (a_registers_numbers, .inl (cI, 32, .inl g_registers_numbers)), (a_registers_labels, .inl (cI, 32, .inl g_registers_labels))] sz)) 0 0 (va_A [(h0, .inr (5, [.ref a_program, .ref a_registers, .ref a_store, .ref a_waiting, .ref a_gone, .ref a_kernel, .ref a_known, .ref a_asked, .int v_words, .int v_outcome, .int v_pc, .int v_pcLabel, .int v_done, .int v_misses, .int v_longMisses, .int v_resultLabel, .int v_nextLabel])), (a_registers, .inr (0, [.ref a_registers_numbers, .ref a_registers_labels])), (a_registers_numbers, .inl (cI, 32, .inl g_registers_numbers)), (a_registers_labels, .inl (cI, 32, .inl g_registers_labels))] sz) := by
  refine Met.ofW (cc := c_Co_set) (maxL := 4) (ret := none) (by decide) rfl ?_
  intro p e s m args below meth c s₁ B hml hv
  obtain ⟨rfl, hsz, hP, hK, hD0⟩ := hv
  have hx := B.exec
  have hb := B.bytes
  have hr := B.returns
  have hts : ∀ w ∈ wG, w.before _ s = true := fun w h => atoms_spec (ws := w_Co_set) B.pre w (List.mem_cons_of_mem _ h)
  have hown : s.vm.findClass "LabelledCore" = some m.cls := findClass_of_methodNamed B.named
  have hlocks := B.notSynchronized
  subst hsz
  have hD := hD0.self (sz := s.heap.size)
  generalize hAe : va_A [(h0, .inr (5, [.ref a_program, .ref a_registers, .ref a_store, .ref a_waiting, .ref a_gone, .ref a_kernel, .ref a_known, .ref a_asked, .int v_words, .int v_outcome, .int v_pc, .int v_pcLabel, .int v_done, .int v_misses, .int v_longMisses, .int v_resultLabel, .int v_nextLabel])), (a_registers, .inr (0, [.ref a_registers_numbers, .ref a_registers_labels])), (a_registers_numbers, .inl (cI, 32, .inl g_registers_numbers)), (a_registers_labels, .inl (cI, 32, .inl g_registers_labels))] s.heap.size = A at hD ⊢
  have hA : ∀ q : Nat, s.heap.size ≤ q → A q := fun q h => by rw [← hAe]; exact Or.inr h
  have hS : va_S A s.heap s.heap [] := va_S.rf
  have hP : va_P (dC, dI) clsL [(h0, .inr (5, [.ref a_program, .ref a_registers, .ref a_store, .ref a_waiting, .ref a_gone, .ref a_kernel, .ref a_known, .ref a_asked, .int v_words, .int v_outcome, .int v_pc, .int v_pcLabel, .int v_done, .int v_misses, .int v_longMisses, .int v_resultLabel, .int v_nextLabel])), (a_registers, .inr (0, [.ref a_registers_numbers, .ref a_registers_labels])), (a_registers_numbers, .inl (cI, 32, .inl g_registers_numbers)), (a_registers_labels, .inl (cI, 32, .inl g_registers_labels))] s.heap := hP
  have hl := lv_entry ([.ref h0, .int x_p0, .int x_p1, .int x_p2]) (n := 4) (Nat.le_of_ble_eq_true rfl)
  rw [lg_entry_eq]
  generalize (lg_sl ([.ref h0, .int x_p0, .int x_p1, .int x_p2]) ++ List.replicate (4 - (lg_sl ([.ref h0, .int x_p0, .int x_p1, .int x_p2])).length) Slot.unset).toArray = ls at hl ⊢
  have hl : lv_has ls 4 [(0, .ref h0), (1, .int x_p0), (2, .int x_p1), (3, .int x_p2)] := hl
  refine lv_iload_n hx hb d_Co_set_0 rfl (lv_at hl 1 rfl) ?_
  refine lv_iconst (v := 1) hx hb d_Co_set_1 (by decide) ?_
  refine lv_icmp_lt (tgt := 11) hx hb d_Co_set_2 (by decide) (fun c_1 => ?_) (fun c_1 => ?_)
  · exact ((hd_0 c_1)).elim
  · refine lv_iload_n hx hb d_Co_set_5 rfl (lv_at hl 1 rfl) ?_
    refine lv_bipush (v := 32) hx hb d_Co_set_6 (by decide) ?_
    refine lv_icmp_lt (tgt := 21) hx hb d_Co_set_8 (by decide) (fun c_2 => ?_) (fun c_2 => ?_)
    · refine lv_aload_n hx hb d_Co_set_21 rfl (lv_at hl 0 rfl) ?_
      refine va_get (D := (dC, dI)) (ci := 5) (v := .ref a_registers) (C := "LabelledCore") (T := T_Co) (N := 17) hx hb hts in_Co hown hK hP 0 rfl rfl 1 (by decide) (hts _ wm_200) (fun _ h9 => h9) rfl d_Co_set_22 ?_
      refine lv_iload_n hx hb d_Co_set_25 rfl (lv_at hl 1 rfl) ?_
      refine lv_iload_n hx hb d_Co_set_26 rfl (lv_at hl 2 rfl) ?_
      refine lv_iload_n hx hb d_Co_set_27 rfl (lv_at hl 3 rfl) ?_
      have hPc := hP.sub (ws' := [(a_registers, .inr (0, [.ref a_registers_numbers, .ref a_registers_labels])), (a_registers_numbers, .inl (cI, 32, .inl g_registers_numbers)), (a_registers_labels, .inl (cI, 32, .inl g_registers_labels))]) [1, 2, 3] rfl
      have hDc := hD.sub (ws' := [(a_registers, .inr (0, [.ref a_registers_numbers, .ref a_registers_labels])), (a_registers_numbers, .inl (cI, 32, .inl g_registers_numbers)), (a_registers_labels, .inl (cI, 32, .inl g_registers_labels))]) [1, 2, 3] (by decide) rfl
      have hFc := va_free (wc := [(a_registers, .inr (0, [.ref a_registers_numbers, .ref a_registers_labels])), (a_registers_numbers, .inl (cI, 32, .inl g_registers_numbers)), (a_registers_labels, .inl (cI, 32, .inl g_registers_labels))]) hD hS hA [1, 2, 3] rfl
      refine va_callv (va_runV (As := [.int x_p0, .int x_p1, .int x_p2]) (rest := []) ⟨hx, hb, hml, hown, hts⟩ (ct_Ba_put l dC dI cI s.heap.size a_registers a_registers_numbers a_registers_labels 32 g_registers_numbers g_registers_labels x_p0 x_p1 x_p2 (hs_28_1 c_1 c_2)) (cwV 3 hts (gV wm_407 wm_299 wm_300 wm_37 wm_301) rfl rfl rfl (by decide +kernel) ⟨Nat.le_of_ble_eq_true rfl, Nat.le_of_ble_eq_true rfl⟩) ⟨pcW_blind, va_recv hK hPc (ci := 0) (q0 := 0) rfl rfl, pcW_pre hPc hK hDc⟩ rfl rfl hl.1 rfl (lv_room (Nat.le_of_ble_eq_true rfl)) d_Co_set_28 ⟨Nat.le_of_ble_eq_true rfl, Nat.le_of_ble_eq_true rfl⟩) hS (fun q _ h => hFc q h) hFc (fun u t H1 locs ht hvm hw hB hz1 hk1 hS => ?_)
      obtain ⟨hP1, -, hD1⟩ := hB
      rw [ht] at hP1
      obtain ⟨hP, hD⟩ := va_join (wr := [(h0, .inr (5, [.ref a_program, .ref a_registers, .ref a_store, .ref a_waiting, .ref a_gone, .ref a_kernel, .ref a_known, .ref a_asked, .int v_words, .int v_outcome, .int v_pc, .int v_pcLabel, .int v_done, .int v_misses, .int v_longMisses, .int v_resultLabel, .int v_nextLabel]))]) (w1 := [(a_registers, .inr (0, [.ref a_registers_numbers, .ref a_registers_labels])), (a_registers_numbers, .inl (cI, 32, .inl (upd g_registers_numbers (Int32.toNatClampNeg x_p0) x_p1))), (a_registers_labels, .inl (cI, 32, .inl (upd g_registers_labels (Int32.toNatClampNeg x_p0) x_p2)))]) hP hD [1, 2, 3] [0] rfl rfl (by decide) (by decide) hk1 hFc hP1 hD1
      clear hFc hDc hPc hP1 hD1 hk1 hz1 hvm ht
      generalize H1 = H at hP hS ⊢
      have hP : va_P (dC, dI) clsL [(h0, .inr (5, [.ref a_program, .ref a_registers, .ref a_store, .ref a_waiting, .ref a_gone, .ref a_kernel, .ref a_known, .ref a_asked, .int v_words, .int v_outcome, .int v_pc, .int v_pcLabel, .int v_done, .int v_misses, .int v_longMisses, .int v_resultLabel, .int v_nextLabel])), (a_registers, .inr (0, [.ref a_registers_numbers, .ref a_registers_labels])), (a_registers_numbers, .inl (cI, 32, .inl (upd g_registers_numbers (Int32.toNatClampNeg x_p0) x_p1))), (a_registers_labels, .inl (cI, 32, .inl (upd g_registers_labels (Int32.toNatClampNeg x_p0) x_p2)))] H := hP
      have hD : va_D A [(h0, .inr (5, [.ref a_program, .ref a_registers, .ref a_store, .ref a_waiting, .ref a_gone, .ref a_kernel, .ref a_known, .ref a_asked, .int v_words, .int v_outcome, .int v_pc, .int v_pcLabel, .int v_done, .int v_misses, .int v_longMisses, .int v_resultLabel, .int v_nextLabel])), (a_registers, .inr (0, [.ref a_registers_numbers, .ref a_registers_labels])), (a_registers_numbers, .inl (cI, 32, .inl (upd g_registers_numbers (Int32.toNatClampNeg x_p0) x_p1))), (a_registers_labels, .inl (cI, 32, .inl (upd g_registers_labels (Int32.toNatClampNeg x_p0) x_p2)))] := hD
      have hP9 := hP.sub (ws' := [(h0, .inr (5, [.ref a_program, .ref a_registers, .ref a_store, .ref a_waiting, .ref a_gone, .ref a_kernel, .ref a_known, .ref a_asked, .int v_words, .int v_outcome, .int v_pc, .int v_pcLabel, .int v_done, .int v_misses, .int v_longMisses, .int v_resultLabel, .int v_nextLabel])), (a_registers, .inr (0, [.ref a_registers_numbers, .ref a_registers_labels])), (a_registers_numbers, .inl (cI, 32, .inl (upd g_registers_numbers (Int32.toNatClampNeg x_p0) x_p1))), (a_registers_labels, .inl (cI, 32, .inl (upd g_registers_labels (Int32.toNatClampNeg x_p0) x_p2)))]) [0, 1, 2, 3] rfl
      have hD9 := hD.sub (ws' := [(h0, .inr (5, [.ref a_program, .ref a_registers, .ref a_store, .ref a_waiting, .ref a_gone, .ref a_kernel, .ref a_known, .ref a_asked, .int v_words, .int v_outcome, .int v_pc, .int v_pcLabel, .int v_done, .int v_misses, .int v_longMisses, .int v_resultLabel, .int v_nextLabel])), (a_registers, .inr (0, [.ref a_registers_numbers, .ref a_registers_labels])), (a_registers_numbers, .inl (cI, 32, .inl (upd g_registers_numbers (Int32.toNatClampNeg x_p0) x_p1))), (a_registers_labels, .inl (cI, 32, .inl (upd g_registers_labels (Int32.toNatClampNeg x_p0) x_p2)))]) [0, 1, 2, 3] (by decide) rfl
      exact W.vret hx hb hr (fun t ht hW => ⟨⟨(), rfl, trivial, by rw [ht]; exact hP9, va_K.moved hW.alike hK, hD9⟩, hS.F ht⟩) hS.2.2 d_Co_set_31
    · exact ((hd_2 c_1 c_2)).elim
set_option maxHeartbeats 4000000 in
set_option maxRecDepth 100000 in
theorem ct_Co_poke (l : Launch) (dC : Nat → ClassId) (dI : Nat → Nat → Nat) (cI : ClassId) (sz : Nat) (h0 a_program a_registers a_store a_waiting a_gone a_kernel a_known a_asked a_store_numbers a_store_labels : Nat) (v_words : Int32) (v_outcome : Int32) (v_pc : Int32) (v_pcLabel : Int32) (v_done : Int32) (v_misses : Int32) (v_longMisses : Int32) (v_resultLabel : Int32) (v_nextLabel : Int32) (g_store_numbers : Nat → Int32) (g_store_labels : Nat → Int32) (x_p0 : Int32) (x_p1 : Int32) (x_p2 : Int32) (hd_0 : (x_p0 < 0) → False) (hs_27_1 : (¬ x_p0 < 0) → (x_p0 < 64) → (vp_in x_p0 64)) (hd_2 : (¬ x_p0 < 0) → (¬ x_p0 < 64) → False) : Met l y_Co_poke w_Co_poke ({ frames := 1, cells := 0, slots := 0, locals := 23 }) (pcW dC dI cI [(h0, .inr (5, [.ref a_program, .ref a_registers, .ref a_store, .ref a_waiting, .ref a_gone, .ref a_kernel, .ref a_known, .ref a_asked, .int v_words, .int v_outcome, .int v_pc, .int v_pcLabel, .int v_done, .int v_misses, .int v_longMisses, .int v_resultLabel, .int v_nextLabel])), (a_store, .inr (0, [.ref a_store_numbers, .ref a_store_labels])), (a_store_numbers, .inl (cI, 64, .inl g_store_numbers)), (a_store_labels, .inl (cI, 64, .inl g_store_labels))] sz [.ref h0, .int x_p0, .int x_p1, .int x_p2]) (va_Qv (fun _ : Unit => True) (fun _ t => atW dC dI cI [(h0, .inr (5, [.ref a_program, .ref a_registers, .ref a_store, .ref a_waiting, .ref a_gone, .ref a_kernel, .ref a_known, .ref a_asked, .int v_words, .int v_outcome, .int v_pc, .int v_pcLabel, .int v_done, .int v_misses, .int v_longMisses, .int v_resultLabel, .int v_nextLabel])), (a_store, .inr (0, [.ref a_store_numbers, .ref a_store_labels])), (a_store_numbers, .inl (cI, 64, .inl (upd g_store_numbers (Int32.toNatClampNeg x_p0) x_p1))), (a_store_labels, .inl (cI, 64, .inl (upd g_store_labels (Int32.toNatClampNeg x_p0) x_p2)))] (va_A [(h0, .inr (5, [.ref a_program, .ref a_registers, .ref a_store, .ref a_waiting, .ref a_gone, .ref a_kernel, .ref a_known, .ref a_asked, .int v_words, .int v_outcome, .int v_pc, .int v_pcLabel, .int v_done, .int v_misses, .int v_longMisses, .int v_resultLabel, .int v_nextLabel])), (a_store, .inr (0, [.ref a_store_numbers, .ref a_store_labels])), (a_store_numbers, .inl (cI, 64, .inl g_store_numbers)), (a_store_labels, .inl (cI, 64, .inl g_store_labels))] sz) t) (va_A [(h0, .inr (5, [.ref a_program, .ref a_registers, .ref a_store, .ref a_waiting, .ref a_gone, .ref a_kernel, .ref a_known, .ref a_asked, .int v_words, .int v_outcome, .int v_pc, .int v_pcLabel, .int v_done, .int v_misses, .int v_longMisses, .int v_resultLabel, .int v_nextLabel])), (a_store, .inr (0, [.ref a_store_numbers, .ref a_store_labels])), (a_store_numbers, .inl (cI, 64, .inl g_store_numbers)), (a_store_labels, .inl (cI, 64, .inl g_store_labels))] sz)) 0 0 (va_A [(h0, .inr (5, [.ref a_program, .ref a_registers, .ref a_store, .ref a_waiting, .ref a_gone, .ref a_kernel, .ref a_known, .ref a_asked, .int v_words, .int v_outcome, .int v_pc, .int v_pcLabel, .int v_done, .int v_misses, .int v_longMisses, .int v_resultLabel, .int v_nextLabel])), (a_store, .inr (0, [.ref a_store_numbers, .ref a_store_labels])), (a_store_numbers, .inl (cI, 64, .inl g_store_numbers)), (a_store_labels, .inl (cI, 64, .inl g_store_labels))] sz) := by
  refine Met.ofW (cc := c_Co_poke) (maxL := 4) (ret := none) (by decide) rfl ?_
  intro p e s m args below meth c s₁ B hml hv
  obtain ⟨rfl, hsz, hP, hK, hD0⟩ := hv
  have hx := B.exec
  have hb := B.bytes
  have hr := B.returns
  have hts : ∀ w ∈ wG, w.before _ s = true := fun w h => atoms_spec (ws := w_Co_poke) B.pre w (List.mem_cons_of_mem _ h)
  have hown : s.vm.findClass "LabelledCore" = some m.cls := findClass_of_methodNamed B.named
  have hlocks := B.notSynchronized
  subst hsz
  have hD := hD0.self (sz := s.heap.size)
  generalize hAe : va_A [(h0, .inr (5, [.ref a_program, .ref a_registers, .ref a_store, .ref a_waiting, .ref a_gone, .ref a_kernel, .ref a_known, .ref a_asked, .int v_words, .int v_outcome, .int v_pc, .int v_pcLabel, .int v_done, .int v_misses, .int v_longMisses, .int v_resultLabel, .int v_nextLabel])), (a_store, .inr (0, [.ref a_store_numbers, .ref a_store_labels])), (a_store_numbers, .inl (cI, 64, .inl g_store_numbers)), (a_store_labels, .inl (cI, 64, .inl g_store_labels))] s.heap.size = A at hD ⊢
  have hA : ∀ q : Nat, s.heap.size ≤ q → A q := fun q h => by rw [← hAe]; exact Or.inr h
  have hS : va_S A s.heap s.heap [] := va_S.rf
  have hP : va_P (dC, dI) clsL [(h0, .inr (5, [.ref a_program, .ref a_registers, .ref a_store, .ref a_waiting, .ref a_gone, .ref a_kernel, .ref a_known, .ref a_asked, .int v_words, .int v_outcome, .int v_pc, .int v_pcLabel, .int v_done, .int v_misses, .int v_longMisses, .int v_resultLabel, .int v_nextLabel])), (a_store, .inr (0, [.ref a_store_numbers, .ref a_store_labels])), (a_store_numbers, .inl (cI, 64, .inl g_store_numbers)), (a_store_labels, .inl (cI, 64, .inl g_store_labels))] s.heap := hP
  have hl := lv_entry ([.ref h0, .int x_p0, .int x_p1, .int x_p2]) (n := 4) (Nat.le_of_ble_eq_true rfl)
  rw [lg_entry_eq]
  generalize (lg_sl ([.ref h0, .int x_p0, .int x_p1, .int x_p2]) ++ List.replicate (4 - (lg_sl ([.ref h0, .int x_p0, .int x_p1, .int x_p2])).length) Slot.unset).toArray = ls at hl ⊢
  have hl : lv_has ls 4 [(0, .ref h0), (1, .int x_p0), (2, .int x_p1), (3, .int x_p2)] := hl
  refine lv_iload_n hx hb d_Co_poke_0 rfl (lv_at hl 1 rfl) ?_
  refine lv_if_lt (tgt := 10) hx hb d_Co_poke_1 (by decide) (fun c_1 => ?_) (fun c_1 => ?_)
  · exact ((hd_0 c_1)).elim
  · refine lv_iload_n hx hb d_Co_poke_4 rfl (lv_at hl 1 rfl) ?_
    refine lv_bipush (v := 64) hx hb d_Co_poke_5 (by decide) ?_
    refine lv_icmp_lt (tgt := 20) hx hb d_Co_poke_7 (by decide) (fun c_2 => ?_) (fun c_2 => ?_)
    · refine lv_aload_n hx hb d_Co_poke_20 rfl (lv_at hl 0 rfl) ?_
      refine va_get (D := (dC, dI)) (ci := 5) (v := .ref a_store) (C := "LabelledCore") (T := T_Co) (N := 17) hx hb hts in_Co hown hK hP 0 rfl rfl 2 (by decide) (hts _ wm_201) (fun _ h9 => h9) rfl d_Co_poke_21 ?_
      refine lv_iload_n hx hb d_Co_poke_24 rfl (lv_at hl 1 rfl) ?_
      refine lv_iload_n hx hb d_Co_poke_25 rfl (lv_at hl 2 rfl) ?_
      refine lv_iload_n hx hb d_Co_poke_26 rfl (lv_at hl 3 rfl) ?_
      have hPc := hP.sub (ws' := [(a_store, .inr (0, [.ref a_store_numbers, .ref a_store_labels])), (a_store_numbers, .inl (cI, 64, .inl g_store_numbers)), (a_store_labels, .inl (cI, 64, .inl g_store_labels))]) [1, 2, 3] rfl
      have hDc := hD.sub (ws' := [(a_store, .inr (0, [.ref a_store_numbers, .ref a_store_labels])), (a_store_numbers, .inl (cI, 64, .inl g_store_numbers)), (a_store_labels, .inl (cI, 64, .inl g_store_labels))]) [1, 2, 3] (by decide) rfl
      have hFc := va_free (wc := [(a_store, .inr (0, [.ref a_store_numbers, .ref a_store_labels])), (a_store_numbers, .inl (cI, 64, .inl g_store_numbers)), (a_store_labels, .inl (cI, 64, .inl g_store_labels))]) hD hS hA [1, 2, 3] rfl
      refine va_callv (va_runV (As := [.int x_p0, .int x_p1, .int x_p2]) (rest := []) ⟨hx, hb, hml, hown, hts⟩ (ct_Ba_put l dC dI cI s.heap.size a_store a_store_numbers a_store_labels 64 g_store_numbers g_store_labels x_p0 x_p1 x_p2 (hs_27_1 c_1 c_2)) (cwV 3 hts (gV wm_407 wm_299 wm_300 wm_37 wm_301) rfl rfl rfl (by decide +kernel) ⟨Nat.le_of_ble_eq_true rfl, Nat.le_of_ble_eq_true rfl⟩) ⟨pcW_blind, va_recv hK hPc (ci := 0) (q0 := 0) rfl rfl, pcW_pre hPc hK hDc⟩ rfl rfl hl.1 rfl (lv_room (Nat.le_of_ble_eq_true rfl)) d_Co_poke_27 ⟨Nat.le_of_ble_eq_true rfl, Nat.le_of_ble_eq_true rfl⟩) hS (fun q _ h => hFc q h) hFc (fun u t H1 locs ht hvm hw hB hz1 hk1 hS => ?_)
      obtain ⟨hP1, -, hD1⟩ := hB
      rw [ht] at hP1
      obtain ⟨hP, hD⟩ := va_join (wr := [(h0, .inr (5, [.ref a_program, .ref a_registers, .ref a_store, .ref a_waiting, .ref a_gone, .ref a_kernel, .ref a_known, .ref a_asked, .int v_words, .int v_outcome, .int v_pc, .int v_pcLabel, .int v_done, .int v_misses, .int v_longMisses, .int v_resultLabel, .int v_nextLabel]))]) (w1 := [(a_store, .inr (0, [.ref a_store_numbers, .ref a_store_labels])), (a_store_numbers, .inl (cI, 64, .inl (upd g_store_numbers (Int32.toNatClampNeg x_p0) x_p1))), (a_store_labels, .inl (cI, 64, .inl (upd g_store_labels (Int32.toNatClampNeg x_p0) x_p2)))]) hP hD [1, 2, 3] [0] rfl rfl (by decide) (by decide) hk1 hFc hP1 hD1
      clear hFc hDc hPc hP1 hD1 hk1 hz1 hvm ht
      generalize H1 = H at hP hS ⊢
      have hP : va_P (dC, dI) clsL [(h0, .inr (5, [.ref a_program, .ref a_registers, .ref a_store, .ref a_waiting, .ref a_gone, .ref a_kernel, .ref a_known, .ref a_asked, .int v_words, .int v_outcome, .int v_pc, .int v_pcLabel, .int v_done, .int v_misses, .int v_longMisses, .int v_resultLabel, .int v_nextLabel])), (a_store, .inr (0, [.ref a_store_numbers, .ref a_store_labels])), (a_store_numbers, .inl (cI, 64, .inl (upd g_store_numbers (Int32.toNatClampNeg x_p0) x_p1))), (a_store_labels, .inl (cI, 64, .inl (upd g_store_labels (Int32.toNatClampNeg x_p0) x_p2)))] H := hP
      have hD : va_D A [(h0, .inr (5, [.ref a_program, .ref a_registers, .ref a_store, .ref a_waiting, .ref a_gone, .ref a_kernel, .ref a_known, .ref a_asked, .int v_words, .int v_outcome, .int v_pc, .int v_pcLabel, .int v_done, .int v_misses, .int v_longMisses, .int v_resultLabel, .int v_nextLabel])), (a_store, .inr (0, [.ref a_store_numbers, .ref a_store_labels])), (a_store_numbers, .inl (cI, 64, .inl (upd g_store_numbers (Int32.toNatClampNeg x_p0) x_p1))), (a_store_labels, .inl (cI, 64, .inl (upd g_store_labels (Int32.toNatClampNeg x_p0) x_p2)))] := hD
      have hP9 := hP.sub (ws' := [(h0, .inr (5, [.ref a_program, .ref a_registers, .ref a_store, .ref a_waiting, .ref a_gone, .ref a_kernel, .ref a_known, .ref a_asked, .int v_words, .int v_outcome, .int v_pc, .int v_pcLabel, .int v_done, .int v_misses, .int v_longMisses, .int v_resultLabel, .int v_nextLabel])), (a_store, .inr (0, [.ref a_store_numbers, .ref a_store_labels])), (a_store_numbers, .inl (cI, 64, .inl (upd g_store_numbers (Int32.toNatClampNeg x_p0) x_p1))), (a_store_labels, .inl (cI, 64, .inl (upd g_store_labels (Int32.toNatClampNeg x_p0) x_p2)))]) [0, 1, 2, 3] rfl
      have hD9 := hD.sub (ws' := [(h0, .inr (5, [.ref a_program, .ref a_registers, .ref a_store, .ref a_waiting, .ref a_gone, .ref a_kernel, .ref a_known, .ref a_asked, .int v_words, .int v_outcome, .int v_pc, .int v_pcLabel, .int v_done, .int v_misses, .int v_longMisses, .int v_resultLabel, .int v_nextLabel])), (a_store, .inr (0, [.ref a_store_numbers, .ref a_store_labels])), (a_store_numbers, .inl (cI, 64, .inl (upd g_store_numbers (Int32.toNatClampNeg x_p0) x_p1))), (a_store_labels, .inl (cI, 64, .inl (upd g_store_labels (Int32.toNatClampNeg x_p0) x_p2)))]) [0, 1, 2, 3] (by decide) rfl
      exact W.vret hx hb hr (fun t ht hW => ⟨⟨(), rfl, trivial, by rw [ht]; exact hP9, va_K.moved hW.alike hK, hD9⟩, hS.F ht⟩) hS.2.2 d_Co_poke_30
    · exact ((hd_2 c_1 c_2)).elim
def f_Co_input (v_waiting_room : Int32) (v_waiting_first : Int32) (v_waiting_count : Int32) (g_waiting_held_numbers : Nat → Int32) (g_waiting_held_labels : Nat → Int32) (x_p0 : Int32) (x_p1 : Int32) : Int32 × Int32 × (Nat → Int32) × (Nat → Int32) :=
  if (f_Li_isFull v_waiting_room v_waiting_count) = 0 then
    (((f_Li_append v_waiting_room v_waiting_first v_waiting_count g_waiting_held_numbers g_waiting_held_labels x_p0 x_p1).1), (f_Li_append v_waiting_room v_waiting_first v_waiting_count g_waiting_held_numbers g_waiting_held_labels x_p0 x_p1).1, (f_Li_append v_waiting_room v_waiting_first v_waiting_count g_waiting_held_numbers g_waiting_held_labels x_p0 x_p1).2.1, (f_Li_append v_waiting_room v_waiting_first v_waiting_count g_waiting_held_numbers g_waiting_held_labels x_p0 x_p1).2.2)
  else
    ((-1), v_waiting_count, g_waiting_held_numbers, g_waiting_held_labels)
set_option maxHeartbeats 4000000 in
set_option maxRecDepth 100000 in
theorem ct_Co_input (l : Launch) (dC : Nat → ClassId) (dI : Nat → Nat → Nat) (cI : ClassId) (sz : Nat) (h0 a_program a_registers a_store a_waiting a_gone a_kernel a_known a_asked a_waiting_held a_waiting_held_numbers a_waiting_held_labels : Nat) (v_words : Int32) (v_outcome : Int32) (v_pc : Int32) (v_pcLabel : Int32) (v_done : Int32) (v_misses : Int32) (v_longMisses : Int32) (v_resultLabel : Int32) (v_nextLabel : Int32) (v_waiting_room : Int32) (v_waiting_first : Int32) (v_waiting_count : Int32) (g_waiting_held_numbers : Nat → Int32) (g_waiting_held_labels : Nat → Int32) (x_p0 : Int32) (x_p1 : Int32) (hs_18_0 : ((f_Li_isFull v_waiting_room v_waiting_count) = 0) → ((¬ v_waiting_room ≤ v_waiting_count) → (vp_in (f_Li_placeOfNth v_waiting_room v_waiting_first v_waiting_count) 64))) : Met l y_Co_input w_Co_input ({ frames := 2, cells := 0, slots := 0, locals := 45 }) (pcW dC dI cI [(h0, .inr (5, [.ref a_program, .ref a_registers, .ref a_store, .ref a_waiting, .ref a_gone, .ref a_kernel, .ref a_known, .ref a_asked, .int v_words, .int v_outcome, .int v_pc, .int v_pcLabel, .int v_done, .int v_misses, .int v_longMisses, .int v_resultLabel, .int v_nextLabel])), (a_waiting, .inr (4, [.ref a_waiting_held, .int v_waiting_room, .int v_waiting_first, .int v_waiting_count])), (a_waiting_held, .inr (0, [.ref a_waiting_held_numbers, .ref a_waiting_held_labels])), (a_waiting_held_numbers, .inl (cI, 64, .inl g_waiting_held_numbers)), (a_waiting_held_labels, .inl (cI, 64, .inl g_waiting_held_labels))] sz [.ref h0, .int x_p0, .int x_p1]) (va_Qi (fun (r : Int32) (_ : Unit) => r = (f_Co_input v_waiting_room v_waiting_first v_waiting_count g_waiting_held_numbers g_waiting_held_labels x_p0 x_p1).1) (fun _ t => atW dC dI cI [(h0, .inr (5, [.ref a_program, .ref a_registers, .ref a_store, .ref a_waiting, .ref a_gone, .ref a_kernel, .ref a_known, .ref a_asked, .int v_words, .int v_outcome, .int v_pc, .int v_pcLabel, .int v_done, .int v_misses, .int v_longMisses, .int v_resultLabel, .int v_nextLabel])), (a_waiting, .inr (4, [.ref a_waiting_held, .int v_waiting_room, .int v_waiting_first, .int ((f_Co_input v_waiting_room v_waiting_first v_waiting_count g_waiting_held_numbers g_waiting_held_labels x_p0 x_p1).2.1)])), (a_waiting_held, .inr (0, [.ref a_waiting_held_numbers, .ref a_waiting_held_labels])), (a_waiting_held_numbers, .inl (cI, 64, .inl ((f_Co_input v_waiting_room v_waiting_first v_waiting_count g_waiting_held_numbers g_waiting_held_labels x_p0 x_p1).2.2.1))), (a_waiting_held_labels, .inl (cI, 64, .inl ((f_Co_input v_waiting_room v_waiting_first v_waiting_count g_waiting_held_numbers g_waiting_held_labels x_p0 x_p1).2.2.2)))] (va_A [(h0, .inr (5, [.ref a_program, .ref a_registers, .ref a_store, .ref a_waiting, .ref a_gone, .ref a_kernel, .ref a_known, .ref a_asked, .int v_words, .int v_outcome, .int v_pc, .int v_pcLabel, .int v_done, .int v_misses, .int v_longMisses, .int v_resultLabel, .int v_nextLabel])), (a_waiting, .inr (4, [.ref a_waiting_held, .int v_waiting_room, .int v_waiting_first, .int v_waiting_count])), (a_waiting_held, .inr (0, [.ref a_waiting_held_numbers, .ref a_waiting_held_labels])), (a_waiting_held_numbers, .inl (cI, 64, .inl g_waiting_held_numbers)), (a_waiting_held_labels, .inl (cI, 64, .inl g_waiting_held_labels))] sz) t) (va_A [(h0, .inr (5, [.ref a_program, .ref a_registers, .ref a_store, .ref a_waiting, .ref a_gone, .ref a_kernel, .ref a_known, .ref a_asked, .int v_words, .int v_outcome, .int v_pc, .int v_pcLabel, .int v_done, .int v_misses, .int v_longMisses, .int v_resultLabel, .int v_nextLabel])), (a_waiting, .inr (4, [.ref a_waiting_held, .int v_waiting_room, .int v_waiting_first, .int v_waiting_count])), (a_waiting_held, .inr (0, [.ref a_waiting_held_numbers, .ref a_waiting_held_labels])), (a_waiting_held_numbers, .inl (cI, 64, .inl g_waiting_held_numbers)), (a_waiting_held_labels, .inl (cI, 64, .inl g_waiting_held_labels))] sz)) 0 0 (va_A [(h0, .inr (5, [.ref a_program, .ref a_registers, .ref a_store, .ref a_waiting, .ref a_gone, .ref a_kernel, .ref a_known, .ref a_asked, .int v_words, .int v_outcome, .int v_pc, .int v_pcLabel, .int v_done, .int v_misses, .int v_longMisses, .int v_resultLabel, .int v_nextLabel])), (a_waiting, .inr (4, [.ref a_waiting_held, .int v_waiting_room, .int v_waiting_first, .int v_waiting_count])), (a_waiting_held, .inr (0, [.ref a_waiting_held_numbers, .ref a_waiting_held_labels])), (a_waiting_held_numbers, .inl (cI, 64, .inl g_waiting_held_numbers)), (a_waiting_held_labels, .inl (cI, 64, .inl g_waiting_held_labels))] sz) := by
  refine Met.ofW (cc := c_Co_input) (maxL := 3) (ret := (some .int)) (by decide) rfl ?_
  intro p e s m args below meth c s₁ B hml hv
  obtain ⟨rfl, hsz, hP, hK, hD0⟩ := hv
  have hx := B.exec
  have hb := B.bytes
  have hr := B.returns
  have hts : ∀ w ∈ wG, w.before _ s = true := fun w h => atoms_spec (ws := w_Co_input) B.pre w (List.mem_cons_of_mem _ h)
  have hown : s.vm.findClass "LabelledCore" = some m.cls := findClass_of_methodNamed B.named
  have hlocks := B.notSynchronized
  subst hsz
  have hD := hD0.self (sz := s.heap.size)
  generalize hAe : va_A [(h0, .inr (5, [.ref a_program, .ref a_registers, .ref a_store, .ref a_waiting, .ref a_gone, .ref a_kernel, .ref a_known, .ref a_asked, .int v_words, .int v_outcome, .int v_pc, .int v_pcLabel, .int v_done, .int v_misses, .int v_longMisses, .int v_resultLabel, .int v_nextLabel])), (a_waiting, .inr (4, [.ref a_waiting_held, .int v_waiting_room, .int v_waiting_first, .int v_waiting_count])), (a_waiting_held, .inr (0, [.ref a_waiting_held_numbers, .ref a_waiting_held_labels])), (a_waiting_held_numbers, .inl (cI, 64, .inl g_waiting_held_numbers)), (a_waiting_held_labels, .inl (cI, 64, .inl g_waiting_held_labels))] s.heap.size = A at hD ⊢
  have hA : ∀ q : Nat, s.heap.size ≤ q → A q := fun q h => by rw [← hAe]; exact Or.inr h
  have hS : va_S A s.heap s.heap [] := va_S.rf
  have hP : va_P (dC, dI) clsL [(h0, .inr (5, [.ref a_program, .ref a_registers, .ref a_store, .ref a_waiting, .ref a_gone, .ref a_kernel, .ref a_known, .ref a_asked, .int v_words, .int v_outcome, .int v_pc, .int v_pcLabel, .int v_done, .int v_misses, .int v_longMisses, .int v_resultLabel, .int v_nextLabel])), (a_waiting, .inr (4, [.ref a_waiting_held, .int v_waiting_room, .int v_waiting_first, .int v_waiting_count])), (a_waiting_held, .inr (0, [.ref a_waiting_held_numbers, .ref a_waiting_held_labels])), (a_waiting_held_numbers, .inl (cI, 64, .inl g_waiting_held_numbers)), (a_waiting_held_labels, .inl (cI, 64, .inl g_waiting_held_labels))] s.heap := hP
  have hl := lv_entry ([.ref h0, .int x_p0, .int x_p1]) (n := 3) (Nat.le_of_ble_eq_true rfl)
  rw [lg_entry_eq]
  generalize (lg_sl ([.ref h0, .int x_p0, .int x_p1]) ++ List.replicate (3 - (lg_sl ([.ref h0, .int x_p0, .int x_p1])).length) Slot.unset).toArray = ls at hl ⊢
  have hl : lv_has ls 3 [(0, .ref h0), (1, .int x_p0), (2, .int x_p1)] := hl
  refine lv_aload_n hx hb d_Co_input_0 rfl (lv_at hl 0 rfl) ?_
  refine va_get (D := (dC, dI)) (ci := 5) (v := .ref a_waiting) (C := "LabelledCore") (T := T_Co) (N := 17) hx hb hts in_Co hown hK hP 0 rfl rfl 3 (by decide) (hts _ wm_202) (fun _ h9 => h9) rfl d_Co_input_1 ?_
  have hPc := hP.sub (ws' := [(a_waiting, .inr (4, [.ref a_waiting_held, .int v_waiting_room, .int v_waiting_first, .int v_waiting_count]))]) [1] rfl
  refine W.callR ((W.runV (As := []) (rest := []) ⟨hx, hb, hml, hown, hts⟩ (ct_Li_isFull l dC dI cI a_waiting a_waiting_held v_waiting_room v_waiting_first v_waiting_count) (cwV 0 hts (gV wm_286 wm_287 wm_288 wm_38 wm_289) rfl rfl rfl (by decide +kernel) ⟨Nat.le_of_ble_eq_true rfl, Nat.le_of_ble_eq_true rfl⟩) ⟨pcR_blind, va_recv hK hPc (ci := 4) (q0 := 0) rfl rfl, pcR_pre hPc hK⟩ rfl rfl hl.1 rfl (lv_room (Nat.le_of_ble_eq_true rfl)) d_Co_input_4 ⟨Nat.le_of_ble_eq_true rfl, Nat.le_of_ble_eq_true rfl⟩)) ?_
  refine W.eq (g2 := F0 m 7 ls [.int (f_Li_isFull v_waiting_room v_waiting_count)]) rfl ?_
  refine lv_if_eq (tgt := 12) hx hb d_Co_input_7 (by decide) (fun c_1 => ?_) (fun c_1 => ?_)
  · refine lv_aload_n hx hb d_Co_input_12 rfl (lv_at hl 0 rfl) ?_
    refine va_get (D := (dC, dI)) (ci := 5) (v := .ref a_waiting) (C := "LabelledCore") (T := T_Co) (N := 17) hx hb hts in_Co hown hK hP 0 rfl rfl 3 (by decide) (hts _ wm_202) (fun _ h9 => h9) rfl d_Co_input_13 ?_
    refine lv_iload_n hx hb d_Co_input_16 rfl (lv_at hl 1 rfl) ?_
    refine lv_iload_n hx hb d_Co_input_17 rfl (lv_at hl 2 rfl) ?_
    have hPc := hP.sub (ws' := [(a_waiting, .inr (4, [.ref a_waiting_held, .int v_waiting_room, .int v_waiting_first, .int v_waiting_count])), (a_waiting_held, .inr (0, [.ref a_waiting_held_numbers, .ref a_waiting_held_labels])), (a_waiting_held_numbers, .inl (cI, 64, .inl g_waiting_held_numbers)), (a_waiting_held_labels, .inl (cI, 64, .inl g_waiting_held_labels))]) [1, 2, 3, 4] rfl
    have hDc := hD.sub (ws' := [(a_waiting, .inr (4, [.ref a_waiting_held, .int v_waiting_room, .int v_waiting_first, .int v_waiting_count])), (a_waiting_held, .inr (0, [.ref a_waiting_held_numbers, .ref a_waiting_held_labels])), (a_waiting_held_numbers, .inl (cI, 64, .inl g_waiting_held_numbers)), (a_waiting_held_labels, .inl (cI, 64, .inl g_waiting_held_labels))]) [1, 2, 3, 4] (by decide) rfl
    have hFc := va_free (wc := [(a_waiting, .inr (4, [.ref a_waiting_held, .int v_waiting_room, .int v_waiting_first, .int v_waiting_count])), (a_waiting_held, .inr (0, [.ref a_waiting_held_numbers, .ref a_waiting_held_labels])), (a_waiting_held_numbers, .inl (cI, 64, .inl g_waiting_held_numbers)), (a_waiting_held_labels, .inl (cI, 64, .inl g_waiting_held_labels))]) hD hS hA [1, 2, 3, 4] rfl
    refine va_callv (va_runV (As := [.int x_p0, .int x_p1]) (rest := []) ⟨hx, hb, hml, hown, hts⟩ (ct_Li_append l dC dI cI s.heap.size a_waiting a_waiting_held a_waiting_held_numbers a_waiting_held_labels 64 v_waiting_room v_waiting_first v_waiting_count g_waiting_held_numbers g_waiting_held_labels x_p0 x_p1 (hs_18_0 c_1)) (cwV 2 hts (gV wm_290 wm_291 wm_292 wm_38 wm_293) rfl rfl rfl (by decide +kernel) ⟨Nat.le_of_ble_eq_true rfl, Nat.le_of_ble_eq_true rfl⟩) ⟨pcW_blind, va_recv hK hPc (ci := 4) (q0 := 0) rfl rfl, pcW_pre hPc hK hDc⟩ rfl rfl hl.1 rfl (lv_room (Nat.le_of_ble_eq_true rfl)) d_Co_input_18 ⟨Nat.le_of_ble_eq_true rfl, Nat.le_of_ble_eq_true rfl⟩) hS (fun q _ h => hFc q h) hFc (fun u t H1 locs ht hvm hw hB hz1 hk1 hS => ?_)
    obtain ⟨hP1, -, hD1⟩ := hB
    rw [ht] at hP1
    obtain ⟨hP, hD⟩ := va_join (wr := [(h0, .inr (5, [.ref a_program, .ref a_registers, .ref a_store, .ref a_waiting, .ref a_gone, .ref a_kernel, .ref a_known, .ref a_asked, .int v_words, .int v_outcome, .int v_pc, .int v_pcLabel, .int v_done, .int v_misses, .int v_longMisses, .int v_resultLabel, .int v_nextLabel]))]) (w1 := [(a_waiting, .inr (4, [.ref a_waiting_held, .int v_waiting_room, .int v_waiting_first, .int ((f_Li_append v_waiting_room v_waiting_first v_waiting_count g_waiting_held_numbers g_waiting_held_labels x_p0 x_p1).1)])), (a_waiting_held, .inr (0, [.ref a_waiting_held_numbers, .ref a_waiting_held_labels])), (a_waiting_held_numbers, .inl (cI, 64, .inl ((f_Li_append v_waiting_room v_waiting_first v_waiting_count g_waiting_held_numbers g_waiting_held_labels x_p0 x_p1).2.1))), (a_waiting_held_labels, .inl (cI, 64, .inl ((f_Li_append v_waiting_room v_waiting_first v_waiting_count g_waiting_held_numbers g_waiting_held_labels x_p0 x_p1).2.2)))]) hP hD [1, 2, 3, 4] [0] rfl rfl (by decide) (by decide) hk1 hFc hP1 hD1
    clear hFc hDc hPc hP1 hD1 hk1 hz1 hvm ht
    generalize H1 = H at hP hS ⊢
    have hP : va_P (dC, dI) clsL [(h0, .inr (5, [.ref a_program, .ref a_registers, .ref a_store, .ref a_waiting, .ref a_gone, .ref a_kernel, .ref a_known, .ref a_asked, .int v_words, .int v_outcome, .int v_pc, .int v_pcLabel, .int v_done, .int v_misses, .int v_longMisses, .int v_resultLabel, .int v_nextLabel])), (a_waiting, .inr (4, [.ref a_waiting_held, .int v_waiting_room, .int v_waiting_first, .int ((f_Li_append v_waiting_room v_waiting_first v_waiting_count g_waiting_held_numbers g_waiting_held_labels x_p0 x_p1).1)])), (a_waiting_held, .inr (0, [.ref a_waiting_held_numbers, .ref a_waiting_held_labels])), (a_waiting_held_numbers, .inl (cI, 64, .inl ((f_Li_append v_waiting_room v_waiting_first v_waiting_count g_waiting_held_numbers g_waiting_held_labels x_p0 x_p1).2.1))), (a_waiting_held_labels, .inl (cI, 64, .inl ((f_Li_append v_waiting_room v_waiting_first v_waiting_count g_waiting_held_numbers g_waiting_held_labels x_p0 x_p1).2.2)))] H := hP
    have hD : va_D A [(h0, .inr (5, [.ref a_program, .ref a_registers, .ref a_store, .ref a_waiting, .ref a_gone, .ref a_kernel, .ref a_known, .ref a_asked, .int v_words, .int v_outcome, .int v_pc, .int v_pcLabel, .int v_done, .int v_misses, .int v_longMisses, .int v_resultLabel, .int v_nextLabel])), (a_waiting, .inr (4, [.ref a_waiting_held, .int v_waiting_room, .int v_waiting_first, .int ((f_Li_append v_waiting_room v_waiting_first v_waiting_count g_waiting_held_numbers g_waiting_held_labels x_p0 x_p1).1)])), (a_waiting_held, .inr (0, [.ref a_waiting_held_numbers, .ref a_waiting_held_labels])), (a_waiting_held_numbers, .inl (cI, 64, .inl ((f_Li_append v_waiting_room v_waiting_first v_waiting_count g_waiting_held_numbers g_waiting_held_labels x_p0 x_p1).2.1))), (a_waiting_held_labels, .inl (cI, 64, .inl ((f_Li_append v_waiting_room v_waiting_first v_waiting_count g_waiting_held_numbers g_waiting_held_labels x_p0 x_p1).2.2)))] := hD
    refine lv_aload_n hx hb d_Co_input_21 rfl (lv_at hl 0 rfl) ?_
    refine va_get (D := (dC, dI)) (ci := 5) (v := .ref a_waiting) (C := "LabelledCore") (T := T_Co) (N := 17) hx hb hts in_Co hown hK hP 0 rfl rfl 3 (by decide) (hts _ wm_202) (fun _ h9 => h9) rfl d_Co_input_22 ?_
    have hPc := hP.sub (ws' := [(a_waiting, .inr (4, [.ref a_waiting_held, .int v_waiting_room, .int v_waiting_first, .int ((f_Li_append v_waiting_room v_waiting_first v_waiting_count g_waiting_held_numbers g_waiting_held_labels x_p0 x_p1).1)]))]) [1] rfl
    refine W.callR ((W.runV (As := []) (rest := []) ⟨hx, hb, hml, hown, hts⟩ (ct_Li_size l dC dI cI a_waiting a_waiting_held v_waiting_room v_waiting_first ((f_Li_append v_waiting_room v_waiting_first v_waiting_count g_waiting_held_numbers g_waiting_held_labels x_p0 x_p1).1)) (cwV 0 hts (gV wm_302 wm_303 wm_304 wm_38 wm_305) rfl rfl rfl (by decide +kernel) ⟨Nat.le_of_ble_eq_true rfl, Nat.le_of_ble_eq_true rfl⟩) ⟨pcR_blind, va_recv hK hPc (ci := 4) (q0 := 0) rfl rfl, pcR_pre hPc hK⟩ rfl rfl hl.1 rfl (lv_room (Nat.le_of_ble_eq_true rfl)) d_Co_input_25 ⟨Nat.le_of_ble_eq_true rfl, Nat.le_of_ble_eq_true rfl⟩)) ?_
    refine W.eq (g2 := F0 m 28 ls [.int ((f_Li_append v_waiting_room v_waiting_first v_waiting_count g_waiting_held_numbers g_waiting_held_labels x_p0 x_p1).1)]) rfl ?_
    have ef : (f_Co_input v_waiting_room v_waiting_first v_waiting_count g_waiting_held_numbers g_waiting_held_labels x_p0 x_p1) = ((((f_Li_append v_waiting_room v_waiting_first v_waiting_count g_waiting_held_numbers g_waiting_held_labels x_p0 x_p1).1), (f_Li_append v_waiting_room v_waiting_first v_waiting_count g_waiting_held_numbers g_waiting_held_labels x_p0 x_p1).1, (f_Li_append v_waiting_room v_waiting_first v_waiting_count g_waiting_held_numbers g_waiting_held_labels x_p0 x_p1).2.1, (f_Li_append v_waiting_room v_waiting_first v_waiting_count g_waiting_held_numbers g_waiting_held_labels x_p0 x_p1).2.2) : Int32 × Int32 × (Nat → Int32) × (Nat → Int32)) := (if_pos c_1).trans rfl
    have hP9 := hP.sub (ws' := [(h0, .inr (5, [.ref a_program, .ref a_registers, .ref a_store, .ref a_waiting, .ref a_gone, .ref a_kernel, .ref a_known, .ref a_asked, .int v_words, .int v_outcome, .int v_pc, .int v_pcLabel, .int v_done, .int v_misses, .int v_longMisses, .int v_resultLabel, .int v_nextLabel])), (a_waiting, .inr (4, [.ref a_waiting_held, .int v_waiting_room, .int v_waiting_first, .int ((f_Li_append v_waiting_room v_waiting_first v_waiting_count g_waiting_held_numbers g_waiting_held_labels x_p0 x_p1).1)])), (a_waiting_held, .inr (0, [.ref a_waiting_held_numbers, .ref a_waiting_held_labels])), (a_waiting_held_numbers, .inl (cI, 64, .inl ((f_Li_append v_waiting_room v_waiting_first v_waiting_count g_waiting_held_numbers g_waiting_held_labels x_p0 x_p1).2.1))), (a_waiting_held_labels, .inl (cI, 64, .inl ((f_Li_append v_waiting_room v_waiting_first v_waiting_count g_waiting_held_numbers g_waiting_held_labels x_p0 x_p1).2.2)))]) [0, 1, 2, 3, 4] rfl
    have hD9 := hD.sub (ws' := [(h0, .inr (5, [.ref a_program, .ref a_registers, .ref a_store, .ref a_waiting, .ref a_gone, .ref a_kernel, .ref a_known, .ref a_asked, .int v_words, .int v_outcome, .int v_pc, .int v_pcLabel, .int v_done, .int v_misses, .int v_longMisses, .int v_resultLabel, .int v_nextLabel])), (a_waiting, .inr (4, [.ref a_waiting_held, .int v_waiting_room, .int v_waiting_first, .int ((f_Li_append v_waiting_room v_waiting_first v_waiting_count g_waiting_held_numbers g_waiting_held_labels x_p0 x_p1).1)])), (a_waiting_held, .inr (0, [.ref a_waiting_held_numbers, .ref a_waiting_held_labels])), (a_waiting_held_numbers, .inl (cI, 64, .inl ((f_Li_append v_waiting_room v_waiting_first v_waiting_count g_waiting_held_numbers g_waiting_held_labels x_p0 x_p1).2.1))), (a_waiting_held_labels, .inl (cI, 64, .inl ((f_Li_append v_waiting_room v_waiting_first v_waiting_count g_waiting_held_numbers g_waiting_held_labels x_p0 x_p1).2.2)))]) [0, 1, 2, 3, 4] (by decide) rfl
    exact W.iret (v := ((f_Li_append v_waiting_room v_waiting_first v_waiting_count g_waiting_held_numbers g_waiting_held_labels x_p0 x_p1).1)) hx hb hr (fun t ht hW => ⟨⟨((f_Li_append v_waiting_room v_waiting_first v_waiting_count g_waiting_held_numbers g_waiting_held_labels x_p0 x_p1).1), (), rfl, by rw [ef], by rw [ef, ht]; exact hP9, va_K.moved hW.alike hK, by rw [ef]; exact hD9⟩, hS.F ht⟩) hS.2.2 d_Co_input_28
  · refine lv_iconst (v := (-1)) hx hb d_Co_input_10 (by decide) ?_
    have ef : (f_Co_input v_waiting_room v_waiting_first v_waiting_count g_waiting_held_numbers g_waiting_held_labels x_p0 x_p1) = (((-1), v_waiting_count, g_waiting_held_numbers, g_waiting_held_labels) : Int32 × Int32 × (Nat → Int32) × (Nat → Int32)) := (if_neg c_1).trans rfl
    have hP9 := hP.sub (ws' := [(h0, .inr (5, [.ref a_program, .ref a_registers, .ref a_store, .ref a_waiting, .ref a_gone, .ref a_kernel, .ref a_known, .ref a_asked, .int v_words, .int v_outcome, .int v_pc, .int v_pcLabel, .int v_done, .int v_misses, .int v_longMisses, .int v_resultLabel, .int v_nextLabel])), (a_waiting, .inr (4, [.ref a_waiting_held, .int v_waiting_room, .int v_waiting_first, .int v_waiting_count])), (a_waiting_held, .inr (0, [.ref a_waiting_held_numbers, .ref a_waiting_held_labels])), (a_waiting_held_numbers, .inl (cI, 64, .inl g_waiting_held_numbers)), (a_waiting_held_labels, .inl (cI, 64, .inl g_waiting_held_labels))]) [0, 1, 2, 3, 4] rfl
    have hD9 := hD.sub (ws' := [(h0, .inr (5, [.ref a_program, .ref a_registers, .ref a_store, .ref a_waiting, .ref a_gone, .ref a_kernel, .ref a_known, .ref a_asked, .int v_words, .int v_outcome, .int v_pc, .int v_pcLabel, .int v_done, .int v_misses, .int v_longMisses, .int v_resultLabel, .int v_nextLabel])), (a_waiting, .inr (4, [.ref a_waiting_held, .int v_waiting_room, .int v_waiting_first, .int v_waiting_count])), (a_waiting_held, .inr (0, [.ref a_waiting_held_numbers, .ref a_waiting_held_labels])), (a_waiting_held_numbers, .inl (cI, 64, .inl g_waiting_held_numbers)), (a_waiting_held_labels, .inl (cI, 64, .inl g_waiting_held_labels))]) [0, 1, 2, 3, 4] (by decide) rfl
    exact W.iret (v := (-1)) hx hb hr (fun t ht hW => ⟨⟨(-1), (), rfl, by rw [ef], by rw [ef, ht]; exact hP9, va_K.moved hW.alike hK, by rw [ef]; exact hD9⟩, hS.F ht⟩) hS.2.2 d_Co_input_11
def f_Co_register (g_registers_numbers : Nat → Int32) (g_registers_labels : Nat → Int32) (x_p0 : Int32) : Int64 :=
  if x_p0 < 0 then
    default
  else
    if x_p0 < 32 then
      (f_Ba_pair g_registers_numbers g_registers_labels x_p0)
    else
      default
set_option maxHeartbeats 4000000 in
set_option maxRecDepth 100000 in
theorem ct_Co_register (l : Launch) (dC : Nat → ClassId) (dI : Nat → Nat → Nat) (cI : ClassId) (h0 a_program a_registers a_store a_waiting a_gone a_kernel a_known a_asked a_registers_numbers a_registers_labels : Nat) (v_words : Int32) (v_outcome : Int32) (v_pc : Int32) (v_pcLabel : Int32) (v_done : Int32) (v_misses : Int32) (v_longMisses : Int32) (v_resultLabel : Int32) (v_nextLabel : Int32) (g_registers_numbers : Nat → Int32) (g_registers_labels : Nat → Int32) (x_p0 : Int32) (hd_0 : (x_p0 < 0) → False) (hs_25_1 : (¬ x_p0 < 0) → (x_p0 < 32) → (vp_in x_p0 32)) (hd_2 : (¬ x_p0 < 0) → (¬ x_p0 < 32) → False) : Met l y_Co_register w_Co_register ({ frames := 2, cells := 0, slots := 0, locals := 42 }) (pcRE dC dI cI [(h0, .inr (5, [.ref a_program, .ref a_registers, .ref a_store, .ref a_waiting, .ref a_gone, .ref a_kernel, .ref a_known, .ref a_asked, .int v_words, .int v_outcome, .int v_pc, .int v_pcLabel, .int v_done, .int v_misses, .int v_longMisses, .int v_resultLabel, .int v_nextLabel])), (a_registers, .inr (0, [.ref a_registers_numbers, .ref a_registers_labels])), (a_registers_numbers, .inl (cI, 32, .inl g_registers_numbers)), (a_registers_labels, .inl (cI, 32, .inl g_registers_labels))] nestP [.ref h0, .int x_p0]) (QcReadL (f_Co_register g_registers_numbers g_registers_labels x_p0)) 0 0 (fun _ => False) := by
  refine Met.ofW (cc := c_Co_register) (maxL := 2) (ret := (some .long)) (by decide) rfl ?_
  intro p e s m args below meth c s₁ B hml hv
  obtain ⟨rfl, hP, hK, hE⟩ := hv
  have hx := B.exec
  have hb := B.bytes
  have hr := B.returns
  have hts : ∀ w ∈ wG, w.before _ s = true := fun w h => atoms_spec (ws := w_Co_register) B.pre w (List.mem_cons_of_mem _ h)
  have hown : s.vm.findClass "LabelledCore" = some m.cls := findClass_of_methodNamed B.named
  have hlocks := B.notSynchronized
  have hl := lv_entry ([.ref h0, .int x_p0]) (n := 2) (Nat.le_of_ble_eq_true rfl)
  rw [lg_entry_eq]
  generalize (lg_sl ([.ref h0, .int x_p0]) ++ List.replicate (2 - (lg_sl ([.ref h0, .int x_p0])).length) Slot.unset).toArray = ls at hl ⊢
  have hl : lv_has ls 2 [(0, .ref h0), (1, .int x_p0)] := hl
  refine lv_iload_n hx hb d_Co_register_0 rfl (lv_at hl 1 rfl) ?_
  refine lv_if_lt (tgt := 10) hx hb d_Co_register_1 (by decide) (fun c_1 => ?_) (fun c_1 => ?_)
  · exact ((hd_0 c_1)).elim
  · refine lv_iload_n hx hb d_Co_register_4 rfl (lv_at hl 1 rfl) ?_
    refine lv_bipush (v := 32) hx hb d_Co_register_5 (by decide) ?_
    refine lv_icmp_lt (tgt := 20) hx hb d_Co_register_7 (by decide) (fun c_2 => ?_) (fun c_2 => ?_)
    · refine lv_aload_n hx hb d_Co_register_20 rfl (lv_at hl 0 rfl) ?_
      refine va_get (D := (dC, dI)) (ci := 5) (v := .ref a_registers) (C := "LabelledCore") (T := T_Co) (N := 17) hx hb hts in_Co hown hK hP 0 rfl rfl 1 (by decide) (hts _ wm_200) (fun _ h9 => h9) rfl d_Co_register_21 ?_
      refine lv_iload_n hx hb d_Co_register_24 rfl (lv_at hl 1 rfl) ?_
      have hPc := hP.sub (ws' := [(a_registers, .inr (0, [.ref a_registers_numbers, .ref a_registers_labels])), (a_registers_numbers, .inl (cI, 32, .inl g_registers_numbers)), (a_registers_labels, .inl (cI, 32, .inl g_registers_labels))]) [1, 2, 3] rfl
      refine callRL ((W.runV (As := [.int x_p0]) (rest := []) ⟨hx, hb, hml, hown, hts⟩ (ct_Ba_pair l dC dI cI a_registers a_registers_numbers a_registers_labels 32 g_registers_numbers g_registers_labels x_p0 (hs_25_1 c_1 c_2)) (cwV 1 hts (gV wm_897 wm_898 wm_899 wm_37 wm_900) rfl rfl rfl (by decide +kernel) ⟨Nat.le_of_ble_eq_true rfl, Nat.le_of_ble_eq_true rfl⟩) ⟨pcRE_blind nestP.bl, va_recv hK hPc (ci := 0) (q0 := 0) rfl rfl, pcRE_pre hPc hK (fun U hW => nestP.wm hW hE)⟩ rfl rfl hl.1 rfl (lv_room (Nat.le_of_ble_eq_true rfl)) d_Co_register_25 ⟨Nat.le_of_ble_eq_true rfl, Nat.le_of_ble_eq_true rfl⟩)) ?_
      refine W.eq (g2 := F0 m 28 ls [.long (f_Ba_pair g_registers_numbers g_registers_labels x_p0)]) rfl ?_
      have ef : (f_Co_register g_registers_numbers g_registers_labels x_p0) = ((f_Ba_pair g_registers_numbers g_registers_labels x_p0) : Int64) := (if_neg c_1).trans ((if_pos c_2).trans rfl)
      exact W.lret (v := (f_Ba_pair g_registers_numbers g_registers_labels x_p0)) hx hb hr (fun t ht hW => ⟨by rw [ef], ht⟩) (fun _ h => by cases h) d_Co_register_28
    · exact ((hd_2 c_1 c_2)).elim
def f_Co_memory (g_store_numbers : Nat → Int32) (g_store_labels : Nat → Int32) (x_p0 : Int32) : Int64 :=
  if x_p0 < 0 then
    default
  else
    if x_p0 < 64 then
      (f_Ba_pair g_store_numbers g_store_labels x_p0)
    else
      default
set_option maxHeartbeats 4000000 in
set_option maxRecDepth 100000 in
theorem ct_Co_memory (l : Launch) (dC : Nat → ClassId) (dI : Nat → Nat → Nat) (cI : ClassId) (h0 a_program a_registers a_store a_waiting a_gone a_kernel a_known a_asked a_store_numbers a_store_labels : Nat) (v_words : Int32) (v_outcome : Int32) (v_pc : Int32) (v_pcLabel : Int32) (v_done : Int32) (v_misses : Int32) (v_longMisses : Int32) (v_resultLabel : Int32) (v_nextLabel : Int32) (g_store_numbers : Nat → Int32) (g_store_labels : Nat → Int32) (x_p0 : Int32) (hd_0 : (x_p0 < 0) → False) (hs_25_1 : (¬ x_p0 < 0) → (x_p0 < 64) → (vp_in x_p0 64)) (hd_2 : (¬ x_p0 < 0) → (¬ x_p0 < 64) → False) : Met l y_Co_memory w_Co_memory ({ frames := 2, cells := 0, slots := 0, locals := 42 }) (pcRE dC dI cI [(h0, .inr (5, [.ref a_program, .ref a_registers, .ref a_store, .ref a_waiting, .ref a_gone, .ref a_kernel, .ref a_known, .ref a_asked, .int v_words, .int v_outcome, .int v_pc, .int v_pcLabel, .int v_done, .int v_misses, .int v_longMisses, .int v_resultLabel, .int v_nextLabel])), (a_store, .inr (0, [.ref a_store_numbers, .ref a_store_labels])), (a_store_numbers, .inl (cI, 64, .inl g_store_numbers)), (a_store_labels, .inl (cI, 64, .inl g_store_labels))] nestP [.ref h0, .int x_p0]) (QcReadL (f_Co_memory g_store_numbers g_store_labels x_p0)) 0 0 (fun _ => False) := by
  refine Met.ofW (cc := c_Co_memory) (maxL := 2) (ret := (some .long)) (by decide) rfl ?_
  intro p e s m args below meth c s₁ B hml hv
  obtain ⟨rfl, hP, hK, hE⟩ := hv
  have hx := B.exec
  have hb := B.bytes
  have hr := B.returns
  have hts : ∀ w ∈ wG, w.before _ s = true := fun w h => atoms_spec (ws := w_Co_memory) B.pre w (List.mem_cons_of_mem _ h)
  have hown : s.vm.findClass "LabelledCore" = some m.cls := findClass_of_methodNamed B.named
  have hlocks := B.notSynchronized
  have hl := lv_entry ([.ref h0, .int x_p0]) (n := 2) (Nat.le_of_ble_eq_true rfl)
  rw [lg_entry_eq]
  generalize (lg_sl ([.ref h0, .int x_p0]) ++ List.replicate (2 - (lg_sl ([.ref h0, .int x_p0])).length) Slot.unset).toArray = ls at hl ⊢
  have hl : lv_has ls 2 [(0, .ref h0), (1, .int x_p0)] := hl
  refine lv_iload_n hx hb d_Co_memory_0 rfl (lv_at hl 1 rfl) ?_
  refine lv_if_lt (tgt := 10) hx hb d_Co_memory_1 (by decide) (fun c_1 => ?_) (fun c_1 => ?_)
  · exact ((hd_0 c_1)).elim
  · refine lv_iload_n hx hb d_Co_memory_4 rfl (lv_at hl 1 rfl) ?_
    refine lv_bipush (v := 64) hx hb d_Co_memory_5 (by decide) ?_
    refine lv_icmp_lt (tgt := 20) hx hb d_Co_memory_7 (by decide) (fun c_2 => ?_) (fun c_2 => ?_)
    · refine lv_aload_n hx hb d_Co_memory_20 rfl (lv_at hl 0 rfl) ?_
      refine va_get (D := (dC, dI)) (ci := 5) (v := .ref a_store) (C := "LabelledCore") (T := T_Co) (N := 17) hx hb hts in_Co hown hK hP 0 rfl rfl 2 (by decide) (hts _ wm_201) (fun _ h9 => h9) rfl d_Co_memory_21 ?_
      refine lv_iload_n hx hb d_Co_memory_24 rfl (lv_at hl 1 rfl) ?_
      have hPc := hP.sub (ws' := [(a_store, .inr (0, [.ref a_store_numbers, .ref a_store_labels])), (a_store_numbers, .inl (cI, 64, .inl g_store_numbers)), (a_store_labels, .inl (cI, 64, .inl g_store_labels))]) [1, 2, 3] rfl
      refine callRL ((W.runV (As := [.int x_p0]) (rest := []) ⟨hx, hb, hml, hown, hts⟩ (ct_Ba_pair l dC dI cI a_store a_store_numbers a_store_labels 64 g_store_numbers g_store_labels x_p0 (hs_25_1 c_1 c_2)) (cwV 1 hts (gV wm_897 wm_898 wm_899 wm_37 wm_900) rfl rfl rfl (by decide +kernel) ⟨Nat.le_of_ble_eq_true rfl, Nat.le_of_ble_eq_true rfl⟩) ⟨pcRE_blind nestP.bl, va_recv hK hPc (ci := 0) (q0 := 0) rfl rfl, pcRE_pre hPc hK (fun U hW => nestP.wm hW hE)⟩ rfl rfl hl.1 rfl (lv_room (Nat.le_of_ble_eq_true rfl)) d_Co_memory_25 ⟨Nat.le_of_ble_eq_true rfl, Nat.le_of_ble_eq_true rfl⟩)) ?_
      refine W.eq (g2 := F0 m 28 ls [.long (f_Ba_pair g_store_numbers g_store_labels x_p0)]) rfl ?_
      have ef : (f_Co_memory g_store_numbers g_store_labels x_p0) = ((f_Ba_pair g_store_numbers g_store_labels x_p0) : Int64) := (if_neg c_1).trans ((if_pos c_2).trans rfl)
      exact W.lret (v := (f_Ba_pair g_store_numbers g_store_labels x_p0)) hx hb hr (fun t ht hW => ⟨by rw [ef], ht⟩) (fun _ h => by cases h) d_Co_memory_28
    · exact ((hd_2 c_1 c_2)).elim
def f_Co_output (v_gone_room : Int32) (v_gone_first : Int32) (v_gone_count : Int32) (g_gone_held_numbers : Nat → Int32) (g_gone_held_labels : Nat → Int32) (x_p0 : Int32) : Int64 :=
  if x_p0 < 0 then
    default
  else
    if x_p0 < v_gone_count then
      (f_Li_pair v_gone_room v_gone_first g_gone_held_numbers g_gone_held_labels x_p0)
    else
      default
set_option maxHeartbeats 4000000 in
set_option maxRecDepth 100000 in
theorem ct_Co_output (l : Launch) (dC : Nat → ClassId) (dI : Nat → Nat → Nat) (cI : ClassId) (h0 a_program a_registers a_store a_waiting a_gone a_kernel a_known a_asked a_gone_held a_gone_held_numbers a_gone_held_labels : Nat) (v_words : Int32) (v_outcome : Int32) (v_pc : Int32) (v_pcLabel : Int32) (v_done : Int32) (v_misses : Int32) (v_longMisses : Int32) (v_resultLabel : Int32) (v_nextLabel : Int32) (v_gone_room : Int32) (v_gone_first : Int32) (v_gone_count : Int32) (g_gone_held_numbers : Nat → Int32) (g_gone_held_labels : Nat → Int32) (x_p0 : Int32) (hd_0 : (x_p0 < 0) → False) (hs_30_1 : (¬ x_p0 < 0) → (x_p0 < v_gone_count) → ((vp_in (f_Li_placeOfNth v_gone_room v_gone_first x_p0) 256))) (hd_2 : (¬ x_p0 < 0) → (¬ x_p0 < v_gone_count) → False) : Met l y_Co_output w_Co_output ({ frames := 3, cells := 0, slots := 0, locals := 63 }) (pcRE dC dI cI [(h0, .inr (5, [.ref a_program, .ref a_registers, .ref a_store, .ref a_waiting, .ref a_gone, .ref a_kernel, .ref a_known, .ref a_asked, .int v_words, .int v_outcome, .int v_pc, .int v_pcLabel, .int v_done, .int v_misses, .int v_longMisses, .int v_resultLabel, .int v_nextLabel])), (a_gone, .inr (4, [.ref a_gone_held, .int v_gone_room, .int v_gone_first, .int v_gone_count])), (a_gone_held, .inr (0, [.ref a_gone_held_numbers, .ref a_gone_held_labels])), (a_gone_held_numbers, .inl (cI, 256, .inl g_gone_held_numbers)), (a_gone_held_labels, .inl (cI, 256, .inl g_gone_held_labels))] nestP [.ref h0, .int x_p0]) (QcReadL (f_Co_output v_gone_room v_gone_first v_gone_count g_gone_held_numbers g_gone_held_labels x_p0)) 0 0 (fun _ => False) := by
  refine Met.ofW (cc := c_Co_output) (maxL := 2) (ret := (some .long)) (by decide) rfl ?_
  intro p e s m args below meth c s₁ B hml hv
  obtain ⟨rfl, hP, hK, hE⟩ := hv
  have hx := B.exec
  have hb := B.bytes
  have hr := B.returns
  have hts : ∀ w ∈ wG, w.before _ s = true := fun w h => atoms_spec (ws := w_Co_output) B.pre w (List.mem_cons_of_mem _ h)
  have hown : s.vm.findClass "LabelledCore" = some m.cls := findClass_of_methodNamed B.named
  have hlocks := B.notSynchronized
  have hl := lv_entry ([.ref h0, .int x_p0]) (n := 2) (Nat.le_of_ble_eq_true rfl)
  rw [lg_entry_eq]
  generalize (lg_sl ([.ref h0, .int x_p0]) ++ List.replicate (2 - (lg_sl ([.ref h0, .int x_p0])).length) Slot.unset).toArray = ls at hl ⊢
  have hl : lv_has ls 2 [(0, .ref h0), (1, .int x_p0)] := hl
  refine lv_iload_n hx hb d_Co_output_0 rfl (lv_at hl 1 rfl) ?_
  refine lv_if_lt (tgt := 15) hx hb d_Co_output_1 (by decide) (fun c_1 => ?_) (fun c_1 => ?_)
  · exact ((hd_0 c_1)).elim
  · refine lv_iload_n hx hb d_Co_output_4 rfl (lv_at hl 1 rfl) ?_
    refine lv_aload_n hx hb d_Co_output_5 rfl (lv_at hl 0 rfl) ?_
    refine va_get (D := (dC, dI)) (ci := 5) (v := .ref a_gone) (C := "LabelledCore") (T := T_Co) (N := 17) hx hb hts in_Co hown hK hP 0 rfl rfl 4 (by decide) (hts _ wm_203) (fun _ h9 => h9) rfl d_Co_output_6 ?_
    have hPc := hP.sub (ws' := [(a_gone, .inr (4, [.ref a_gone_held, .int v_gone_room, .int v_gone_first, .int v_gone_count]))]) [1] rfl
    refine W.callR ((W.runV (As := []) (rest := [.int x_p0]) ⟨hx, hb, hml, hown, hts⟩ (ct_Li_size l dC dI cI a_gone a_gone_held v_gone_room v_gone_first v_gone_count) (cwV 0 hts (gV wm_302 wm_303 wm_304 wm_38 wm_305) rfl rfl rfl (by decide +kernel) ⟨Nat.le_of_ble_eq_true rfl, Nat.le_of_ble_eq_true rfl⟩) ⟨pcR_blind, va_recv hK hPc (ci := 4) (q0 := 0) rfl rfl, pcR_pre hPc hK⟩ rfl rfl hl.1 rfl (lv_room (Nat.le_of_ble_eq_true rfl)) d_Co_output_9 ⟨Nat.le_of_ble_eq_true rfl, Nat.le_of_ble_eq_true rfl⟩)) ?_
    refine W.eq (g2 := F0 m 12 ls [.int v_gone_count, .int x_p0]) rfl ?_
    refine lv_icmp_lt (tgt := 25) hx hb d_Co_output_12 (by decide) (fun c_2 => ?_) (fun c_2 => ?_)
    · refine lv_aload_n hx hb d_Co_output_25 rfl (lv_at hl 0 rfl) ?_
      refine va_get (D := (dC, dI)) (ci := 5) (v := .ref a_gone) (C := "LabelledCore") (T := T_Co) (N := 17) hx hb hts in_Co hown hK hP 0 rfl rfl 4 (by decide) (hts _ wm_203) (fun _ h9 => h9) rfl d_Co_output_26 ?_
      refine lv_iload_n hx hb d_Co_output_29 rfl (lv_at hl 1 rfl) ?_
      have hPc := hP.sub (ws' := [(a_gone, .inr (4, [.ref a_gone_held, .int v_gone_room, .int v_gone_first, .int v_gone_count])), (a_gone_held, .inr (0, [.ref a_gone_held_numbers, .ref a_gone_held_labels])), (a_gone_held_numbers, .inl (cI, 256, .inl g_gone_held_numbers)), (a_gone_held_labels, .inl (cI, 256, .inl g_gone_held_labels))]) [1, 2, 3, 4] rfl
      refine callRL ((W.runV (As := [.int x_p0]) (rest := []) ⟨hx, hb, hml, hown, hts⟩ (ct_Li_pair l dC dI cI a_gone a_gone_held a_gone_held_numbers a_gone_held_labels 256 v_gone_room v_gone_first v_gone_count g_gone_held_numbers g_gone_held_labels x_p0 (hs_30_1 c_1 c_2)) (cwV 1 hts (gV wm_933 wm_934 wm_935 wm_38 wm_936) rfl rfl rfl (by decide +kernel) ⟨Nat.le_of_ble_eq_true rfl, Nat.le_of_ble_eq_true rfl⟩) ⟨pcRE_blind nestP.bl, va_recv hK hPc (ci := 4) (q0 := 0) rfl rfl, pcRE_pre hPc hK (fun U hW => nestP.wm hW hE)⟩ rfl rfl hl.1 rfl (lv_room (Nat.le_of_ble_eq_true rfl)) d_Co_output_30 ⟨Nat.le_of_ble_eq_true rfl, Nat.le_of_ble_eq_true rfl⟩)) ?_
      refine W.eq (g2 := F0 m 33 ls [.long (f_Li_pair v_gone_room v_gone_first g_gone_held_numbers g_gone_held_labels x_p0)]) rfl ?_
      have ef : (f_Co_output v_gone_room v_gone_first v_gone_count g_gone_held_numbers g_gone_held_labels x_p0) = ((f_Li_pair v_gone_room v_gone_first g_gone_held_numbers g_gone_held_labels x_p0) : Int64) := (if_neg c_1).trans ((if_pos c_2).trans rfl)
      exact W.lret (v := (f_Li_pair v_gone_room v_gone_first g_gone_held_numbers g_gone_held_labels x_p0)) hx hb hr (fun t ht hW => ⟨by rw [ef], ht⟩) (fun _ h => by cases h) d_Co_output_33
    · exact ((hd_2 c_1 c_2)).elim
def f_Co_told (v_outcome : Int32) (v_pc : Int32) (v_pcLabel : Int32) (v_done : Int32) (v_misses : Int32) (v_longMisses : Int32) (v_known_count : Int32) (v_gone_count : Int32) (v_waiting_count : Int32) (x_p0 : Int32) : Int32 :=
  if x_p0 = 0 then
    v_outcome
  else
    if x_p0 = 1 then
      v_pc
    else
      if x_p0 = 2 then
        v_pcLabel
      else
        if x_p0 = 3 then
          v_done
        else
          if x_p0 = 4 then
            v_misses
          else
            if x_p0 = 5 then
              v_known_count
            else
              if x_p0 = 6 then
                v_gone_count
              else
                if x_p0 = 7 then
                  v_waiting_count
                else
                  if x_p0 = 8 then
                    v_longMisses
                  else
                    default
set_option maxHeartbeats 4000000 in
set_option maxRecDepth 100000 in
theorem ct_Co_told (l : Launch) (dC : Nat → ClassId) (dI : Nat → Nat → Nat) (cI : ClassId) (h0 a_program a_registers a_store a_waiting a_gone a_kernel a_known a_asked a_known_groups a_known_ps a_known_xs a_known_ys a_known_ms a_known_results a_known_nexts a_gone_held a_waiting_held : Nat) (v_words : Int32) (v_outcome : Int32) (v_pc : Int32) (v_pcLabel : Int32) (v_done : Int32) (v_misses : Int32) (v_longMisses : Int32) (v_resultLabel : Int32) (v_nextLabel : Int32) (v_known_entries : Int32) (v_known_count : Int32) (v_known_oldest : Int32) (v_gone_room : Int32) (v_gone_first : Int32) (v_gone_count : Int32) (v_waiting_room : Int32) (v_waiting_first : Int32) (v_waiting_count : Int32) (x_p0 : Int32) (hd_0 : (¬ x_p0 = 0) → (¬ x_p0 = 1) → (¬ x_p0 = 2) → (¬ x_p0 = 3) → (¬ x_p0 = 4) → (¬ x_p0 = 5) → (¬ x_p0 = 6) → (¬ x_p0 = 7) → (¬ x_p0 = 8) → False) : Met l y_Co_told w_Co_told ({ frames := 1, cells := 0, slots := 0, locals := 20 }) (pcR dC dI cI [(h0, .inr (5, [.ref a_program, .ref a_registers, .ref a_store, .ref a_waiting, .ref a_gone, .ref a_kernel, .ref a_known, .ref a_asked, .int v_words, .int v_outcome, .int v_pc, .int v_pcLabel, .int v_done, .int v_misses, .int v_longMisses, .int v_resultLabel, .int v_nextLabel])), (a_known, .inr (3, [.ref a_known_groups, .ref a_known_ps, .ref a_known_xs, .ref a_known_ys, .ref a_known_ms, .ref a_known_results, .ref a_known_nexts, .int v_known_entries, .int v_known_count, .int v_known_oldest])), (a_gone, .inr (4, [.ref a_gone_held, .int v_gone_room, .int v_gone_first, .int v_gone_count])), (a_waiting, .inr (4, [.ref a_waiting_held, .int v_waiting_room, .int v_waiting_first, .int v_waiting_count]))] [.ref h0, .int x_p0]) (QcRead (f_Co_told v_outcome v_pc v_pcLabel v_done v_misses v_longMisses v_known_count v_gone_count v_waiting_count x_p0)) 0 0 (fun _ => False) := by
  refine Met.ofW (cc := c_Co_told) (maxL := 2) (ret := (some .int)) (by decide) rfl ?_
  intro p e s m args below meth c s₁ B hml hv
  obtain ⟨rfl, hP, hK⟩ := hv
  have hx := B.exec
  have hb := B.bytes
  have hr := B.returns
  have hts : ∀ w ∈ wG, w.before _ s = true := fun w h => atoms_spec (ws := w_Co_told) B.pre w (List.mem_cons_of_mem _ h)
  have hown : s.vm.findClass "LabelledCore" = some m.cls := findClass_of_methodNamed B.named
  have hlocks := B.notSynchronized
  have hl := lv_entry ([.ref h0, .int x_p0]) (n := 2) (Nat.le_of_ble_eq_true rfl)
  rw [lg_entry_eq]
  generalize (lg_sl ([.ref h0, .int x_p0]) ++ List.replicate (2 - (lg_sl ([.ref h0, .int x_p0])).length) Slot.unset).toArray = ls at hl ⊢
  have hl : lv_has ls 2 [(0, .ref h0), (1, .int x_p0)] := hl
  refine lv_iload_n hx hb d_Co_told_0 rfl (lv_at hl 1 rfl) ?_
  by_cases c_1 : x_p0 = 0
  · refine lv_tableIn (off := 51) (tgt := 52) hx hb d_Co_told_1 (by rw [c_1]; decide +kernel) (by rw [c_1]; decide +kernel) (by rw [c_1]; decide +kernel) (by decide) ?_
    refine lv_aload_n hx hb d_Co_told_52 rfl (lv_at hl 0 rfl) ?_
    refine va_get (D := (dC, dI)) (ci := 5) (v := .int v_outcome) (C := "LabelledCore") (T := T_Co) (N := 17) hx hb hts in_Co hown hK hP 0 rfl rfl 9 (by decide) (hts _ wm_208) (fun _ h9 => h9) rfl d_Co_told_53 ?_
    have ef : (f_Co_told v_outcome v_pc v_pcLabel v_done v_misses v_longMisses v_known_count v_gone_count v_waiting_count x_p0) = (v_outcome : Int32) := (if_pos c_1).trans rfl
    exact W.iret (v := v_outcome) hx hb hr (fun t ht hW => ⟨by rw [ef], ht⟩) (fun _ h => by cases h) d_Co_told_56
  · by_cases c_2 : x_p0 = 1
    · refine lv_tableIn (off := 56) (tgt := 57) hx hb d_Co_told_1 (by rw [c_2]; decide +kernel) (by rw [c_2]; decide +kernel) (by rw [c_2]; decide +kernel) (by decide) ?_
      refine lv_aload_n hx hb d_Co_told_57 rfl (lv_at hl 0 rfl) ?_
      refine va_get (D := (dC, dI)) (ci := 5) (v := .int v_pc) (C := "LabelledCore") (T := T_Co) (N := 17) hx hb hts in_Co hown hK hP 0 rfl rfl 10 (by decide) (hts _ wm_209) (fun _ h9 => h9) rfl d_Co_told_58 ?_
      have ef : (f_Co_told v_outcome v_pc v_pcLabel v_done v_misses v_longMisses v_known_count v_gone_count v_waiting_count x_p0) = (v_pc : Int32) := (if_neg c_1).trans ((if_pos c_2).trans rfl)
      exact W.iret (v := v_pc) hx hb hr (fun t ht hW => ⟨by rw [ef], ht⟩) (fun _ h => by cases h) d_Co_told_61
    · by_cases c_3 : x_p0 = 2
      · refine lv_tableIn (off := 61) (tgt := 62) hx hb d_Co_told_1 (by rw [c_3]; decide +kernel) (by rw [c_3]; decide +kernel) (by rw [c_3]; decide +kernel) (by decide) ?_
        refine lv_aload_n hx hb d_Co_told_62 rfl (lv_at hl 0 rfl) ?_
        refine va_get (D := (dC, dI)) (ci := 5) (v := .int v_pcLabel) (C := "LabelledCore") (T := T_Co) (N := 17) hx hb hts in_Co hown hK hP 0 rfl rfl 11 (by decide) (hts _ wm_210) (fun _ h9 => h9) rfl d_Co_told_63 ?_
        have ef : (f_Co_told v_outcome v_pc v_pcLabel v_done v_misses v_longMisses v_known_count v_gone_count v_waiting_count x_p0) = (v_pcLabel : Int32) := (if_neg c_1).trans ((if_neg c_2).trans ((if_pos c_3).trans rfl))
        exact W.iret (v := v_pcLabel) hx hb hr (fun t ht hW => ⟨by rw [ef], ht⟩) (fun _ h => by cases h) d_Co_told_66
      · by_cases c_4 : x_p0 = 3
        · refine lv_tableIn (off := 66) (tgt := 67) hx hb d_Co_told_1 (by rw [c_4]; decide +kernel) (by rw [c_4]; decide +kernel) (by rw [c_4]; decide +kernel) (by decide) ?_
          refine lv_aload_n hx hb d_Co_told_67 rfl (lv_at hl 0 rfl) ?_
          refine va_get (D := (dC, dI)) (ci := 5) (v := .int v_done) (C := "LabelledCore") (T := T_Co) (N := 17) hx hb hts in_Co hown hK hP 0 rfl rfl 12 (by decide) (hts _ wm_211) (fun _ h9 => h9) rfl d_Co_told_68 ?_
          have ef : (f_Co_told v_outcome v_pc v_pcLabel v_done v_misses v_longMisses v_known_count v_gone_count v_waiting_count x_p0) = (v_done : Int32) := (if_neg c_1).trans ((if_neg c_2).trans ((if_neg c_3).trans ((if_pos c_4).trans rfl)))
          exact W.iret (v := v_done) hx hb hr (fun t ht hW => ⟨by rw [ef], ht⟩) (fun _ h => by cases h) d_Co_told_71
        · by_cases c_5 : x_p0 = 4
          · refine lv_tableIn (off := 71) (tgt := 72) hx hb d_Co_told_1 (by rw [c_5]; decide +kernel) (by rw [c_5]; decide +kernel) (by rw [c_5]; decide +kernel) (by decide) ?_
            refine lv_aload_n hx hb d_Co_told_72 rfl (lv_at hl 0 rfl) ?_
            refine va_get (D := (dC, dI)) (ci := 5) (v := .int v_misses) (C := "LabelledCore") (T := T_Co) (N := 17) hx hb hts in_Co hown hK hP 0 rfl rfl 13 (by decide) (hts _ wm_212) (fun _ h9 => h9) rfl d_Co_told_73 ?_
            have ef : (f_Co_told v_outcome v_pc v_pcLabel v_done v_misses v_longMisses v_known_count v_gone_count v_waiting_count x_p0) = (v_misses : Int32) := (if_neg c_1).trans ((if_neg c_2).trans ((if_neg c_3).trans ((if_neg c_4).trans ((if_pos c_5).trans rfl))))
            exact W.iret (v := v_misses) hx hb hr (fun t ht hW => ⟨by rw [ef], ht⟩) (fun _ h => by cases h) d_Co_told_76
          · by_cases c_6 : x_p0 = 5
            · refine lv_tableIn (off := 76) (tgt := 77) hx hb d_Co_told_1 (by rw [c_6]; decide +kernel) (by rw [c_6]; decide +kernel) (by rw [c_6]; decide +kernel) (by decide) ?_
              refine lv_aload_n hx hb d_Co_told_77 rfl (lv_at hl 0 rfl) ?_
              refine va_get (D := (dC, dI)) (ci := 5) (v := .ref a_known) (C := "LabelledCore") (T := T_Co) (N := 17) hx hb hts in_Co hown hK hP 0 rfl rfl 6 (by decide) (hts _ wm_205) (fun _ h9 => h9) rfl d_Co_told_78 ?_
              have hPc := hP.sub (ws' := [(a_known, .inr (3, [.ref a_known_groups, .ref a_known_ps, .ref a_known_xs, .ref a_known_ys, .ref a_known_ms, .ref a_known_results, .ref a_known_nexts, .int v_known_entries, .int v_known_count, .int v_known_oldest]))]) [1] rfl
              refine W.callR ((W.runV (As := []) (rest := []) ⟨hx, hb, hml, hown, hts⟩ (ct_Kc_size l dC dI cI a_known a_known_groups a_known_ps a_known_xs a_known_ys a_known_ms a_known_results a_known_nexts v_known_entries v_known_count v_known_oldest) (cwV 0 hts (gV wm_945 wm_946 wm_947 wm_40 wm_948) rfl rfl rfl (by decide +kernel) ⟨Nat.le_of_ble_eq_true rfl, Nat.le_of_ble_eq_true rfl⟩) ⟨pcR_blind, va_recv hK hPc (ci := 3) (q0 := 0) rfl rfl, pcR_pre hPc hK⟩ rfl rfl hl.1 rfl (lv_room (Nat.le_of_ble_eq_true rfl)) d_Co_told_81 ⟨Nat.le_of_ble_eq_true rfl, Nat.le_of_ble_eq_true rfl⟩)) ?_
              refine W.eq (g2 := F0 m 84 ls [.int v_known_count]) rfl ?_
              have ef : (f_Co_told v_outcome v_pc v_pcLabel v_done v_misses v_longMisses v_known_count v_gone_count v_waiting_count x_p0) = (v_known_count : Int32) := (if_neg c_1).trans ((if_neg c_2).trans ((if_neg c_3).trans ((if_neg c_4).trans ((if_neg c_5).trans ((if_pos c_6).trans rfl)))))
              exact W.iret (v := v_known_count) hx hb hr (fun t ht hW => ⟨by rw [ef], ht⟩) (fun _ h => by cases h) d_Co_told_84
            · by_cases c_7 : x_p0 = 6
              · refine lv_tableIn (off := 84) (tgt := 85) hx hb d_Co_told_1 (by rw [c_7]; decide +kernel) (by rw [c_7]; decide +kernel) (by rw [c_7]; decide +kernel) (by decide) ?_
                refine lv_aload_n hx hb d_Co_told_85 rfl (lv_at hl 0 rfl) ?_
                refine va_get (D := (dC, dI)) (ci := 5) (v := .ref a_gone) (C := "LabelledCore") (T := T_Co) (N := 17) hx hb hts in_Co hown hK hP 0 rfl rfl 4 (by decide) (hts _ wm_203) (fun _ h9 => h9) rfl d_Co_told_86 ?_
                have hPc := hP.sub (ws' := [(a_gone, .inr (4, [.ref a_gone_held, .int v_gone_room, .int v_gone_first, .int v_gone_count]))]) [2] rfl
                refine W.callR ((W.runV (As := []) (rest := []) ⟨hx, hb, hml, hown, hts⟩ (ct_Li_size l dC dI cI a_gone a_gone_held v_gone_room v_gone_first v_gone_count) (cwV 0 hts (gV wm_302 wm_303 wm_304 wm_38 wm_305) rfl rfl rfl (by decide +kernel) ⟨Nat.le_of_ble_eq_true rfl, Nat.le_of_ble_eq_true rfl⟩) ⟨pcR_blind, va_recv hK hPc (ci := 4) (q0 := 0) rfl rfl, pcR_pre hPc hK⟩ rfl rfl hl.1 rfl (lv_room (Nat.le_of_ble_eq_true rfl)) d_Co_told_89 ⟨Nat.le_of_ble_eq_true rfl, Nat.le_of_ble_eq_true rfl⟩)) ?_
                refine W.eq (g2 := F0 m 92 ls [.int v_gone_count]) rfl ?_
                have ef : (f_Co_told v_outcome v_pc v_pcLabel v_done v_misses v_longMisses v_known_count v_gone_count v_waiting_count x_p0) = (v_gone_count : Int32) := (if_neg c_1).trans ((if_neg c_2).trans ((if_neg c_3).trans ((if_neg c_4).trans ((if_neg c_5).trans ((if_neg c_6).trans ((if_pos c_7).trans rfl))))))
                exact W.iret (v := v_gone_count) hx hb hr (fun t ht hW => ⟨by rw [ef], ht⟩) (fun _ h => by cases h) d_Co_told_92
              · by_cases c_8 : x_p0 = 7
                · refine lv_tableIn (off := 92) (tgt := 93) hx hb d_Co_told_1 (by rw [c_8]; decide +kernel) (by rw [c_8]; decide +kernel) (by rw [c_8]; decide +kernel) (by decide) ?_
                  refine lv_aload_n hx hb d_Co_told_93 rfl (lv_at hl 0 rfl) ?_
                  refine va_get (D := (dC, dI)) (ci := 5) (v := .ref a_waiting) (C := "LabelledCore") (T := T_Co) (N := 17) hx hb hts in_Co hown hK hP 0 rfl rfl 3 (by decide) (hts _ wm_202) (fun _ h9 => h9) rfl d_Co_told_94 ?_
                  have hPc := hP.sub (ws' := [(a_waiting, .inr (4, [.ref a_waiting_held, .int v_waiting_room, .int v_waiting_first, .int v_waiting_count]))]) [3] rfl
                  refine W.callR ((W.runV (As := []) (rest := []) ⟨hx, hb, hml, hown, hts⟩ (ct_Li_size l dC dI cI a_waiting a_waiting_held v_waiting_room v_waiting_first v_waiting_count) (cwV 0 hts (gV wm_302 wm_303 wm_304 wm_38 wm_305) rfl rfl rfl (by decide +kernel) ⟨Nat.le_of_ble_eq_true rfl, Nat.le_of_ble_eq_true rfl⟩) ⟨pcR_blind, va_recv hK hPc (ci := 4) (q0 := 0) rfl rfl, pcR_pre hPc hK⟩ rfl rfl hl.1 rfl (lv_room (Nat.le_of_ble_eq_true rfl)) d_Co_told_97 ⟨Nat.le_of_ble_eq_true rfl, Nat.le_of_ble_eq_true rfl⟩)) ?_
                  refine W.eq (g2 := F0 m 100 ls [.int v_waiting_count]) rfl ?_
                  have ef : (f_Co_told v_outcome v_pc v_pcLabel v_done v_misses v_longMisses v_known_count v_gone_count v_waiting_count x_p0) = (v_waiting_count : Int32) := (if_neg c_1).trans ((if_neg c_2).trans ((if_neg c_3).trans ((if_neg c_4).trans ((if_neg c_5).trans ((if_neg c_6).trans ((if_neg c_7).trans ((if_pos c_8).trans rfl)))))))
                  exact W.iret (v := v_waiting_count) hx hb hr (fun t ht hW => ⟨by rw [ef], ht⟩) (fun _ h => by cases h) d_Co_told_100
                · by_cases c_9 : x_p0 = 8
                  · refine lv_tableIn (off := 100) (tgt := 101) hx hb d_Co_told_1 (by rw [c_9]; decide +kernel) (by rw [c_9]; decide +kernel) (by rw [c_9]; decide +kernel) (by decide) ?_
                    refine lv_aload_n hx hb d_Co_told_101 rfl (lv_at hl 0 rfl) ?_
                    refine va_get (D := (dC, dI)) (ci := 5) (v := .int v_longMisses) (C := "LabelledCore") (T := T_Co) (N := 17) hx hb hts in_Co hown hK hP 0 rfl rfl 14 (by decide) (hts _ wm_213) (fun _ h9 => h9) rfl d_Co_told_102 ?_
                    have ef : (f_Co_told v_outcome v_pc v_pcLabel v_done v_misses v_longMisses v_known_count v_gone_count v_waiting_count x_p0) = (v_longMisses : Int32) := (if_neg c_1).trans ((if_neg c_2).trans ((if_neg c_3).trans ((if_neg c_4).trans ((if_neg c_5).trans ((if_neg c_6).trans ((if_neg c_7).trans ((if_neg c_8).trans ((if_pos c_9).trans rfl))))))))
                    exact W.iret (v := v_longMisses) hx hb hr (fun t ht hW => ⟨by rw [ef], ht⟩) (fun _ h => by cases h) d_Co_told_105
                  · refine lv_tableOut (tgt := 106) hx hb d_Co_told_1 (by have q0 := lv_neT c_1 (show (0 : Int32).toInt = 0 by decide); have q1 := lv_neT c_2 (show (1 : Int32).toInt = 1 by decide); have q2 := lv_neT c_3 (show (2 : Int32).toInt = 2 by decide); have q3 := lv_neT c_4 (show (3 : Int32).toInt = 3 by decide); have q4 := lv_neT c_5 (show (4 : Int32).toInt = 4 by decide); have q5 := lv_neT c_6 (show (5 : Int32).toInt = 5 by decide); have q6 := lv_neT c_7 (show (6 : Int32).toInt = 6 by decide); have q7 := lv_neT c_8 (show (7 : Int32).toInt = 7 by decide); have q8 := lv_neT c_9 (show (8 : Int32).toInt = 8 by decide); omega) (by decide) ?_
                    exact ((hd_0 c_1 c_2 c_3 c_4 c_5 c_6 c_7 c_8 c_9)).elim
