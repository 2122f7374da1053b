set_option maxHeartbeats 4000000 in
set_option maxRecDepth 100000 in
theorem ct_Ba_put (l : Launch) (dC : Nat → ClassId) (dI : Nat → Nat → Nat) (cI : ClassId) (sz : Nat) (h0 a_numbers a_labels : Nat) (n : Nat) (g_numbers : Nat → Int32) (g_labels : Nat → Int32) (x_p0 : Int32) (x_p1 : Int32) (x_p2 : Int32) (hi : vp_in x_p0 n) : Met l y_Ba_put w_Ba_put ({ frames := 0, cells := 0, slots := 0, locals := 0 }) (pcW dC dI cI [(h0, .inr (0, [.ref a_numbers, .ref a_labels])), (a_numbers, .inl (cI, n, .inl g_numbers)), (a_labels, .inl (cI, n, .inl g_labels))] sz [.ref h0, .int x_p0, .int x_p1, .int x_p2]) (va_Qv (fun _ : Unit => True) (fun _ t => atW dC dI cI [(h0, .inr (0, [.ref a_numbers, .ref a_labels])), (a_numbers, .inl (cI, n, .inl (upd g_numbers (Int32.toNatClampNeg x_p0) x_p1))), (a_labels, .inl (cI, n, .inl (upd g_labels (Int32.toNatClampNeg x_p0) x_p2)))] (va_A [(h0, .inr (0, [.ref a_numbers, .ref a_labels])), (a_numbers, .inl (cI, n, .inl g_numbers)), (a_labels, .inl (cI, n, .inl g_labels))] sz) t) (va_A [(h0, .inr (0, [.ref a_numbers, .ref a_labels])), (a_numbers, .inl (cI, n, .inl g_numbers)), (a_labels, .inl (cI, n, .inl g_labels))] sz)) 0 0 (va_A [(h0, .inr (0, [.ref a_numbers, .ref a_labels])), (a_numbers, .inl (cI, n, .inl g_numbers)), (a_labels, .inl (cI, n, .inl g_labels))] sz) := by
  refine Met.ofW (cc := c_Ba_put) (maxL := 4) (ret := none) (by decide) rfl ?_
  intro p e s m args below meth c s₁ B hml hv
  obtain ⟨rfl, hsz, hP, hK, hD0⟩ := hv
  have hx := B.exec
  have hb := B.bytes
  have hr := B.returns
  have hts : ∀ w ∈ wG, w.before _ s = true := fun w h => atoms_spec (ws := w_Ba_put) B.pre w (List.mem_cons_of_mem _ h)
  have hown : s.vm.findClass "LabelledCore$Bank" = some m.cls := findClass_of_methodNamed B.named
  have hlocks := B.notSynchronized
  subst hsz
  have hD := hD0.self (sz := s.heap.size)
  generalize hAe : va_A [(h0, .inr (0, [.ref a_numbers, .ref a_labels])), (a_numbers, .inl (cI, n, .inl g_numbers)), (a_labels, .inl (cI, n, .inl g_labels))] s.heap.size = A at hD ⊢
  have hA : ∀ q : Nat, s.heap.size ≤ q → A q := fun q h => by rw [← hAe]; exact Or.inr h
  have hS : va_S A s.heap s.heap [] := va_S.rf
  have hP : va_P (dC, dI) clsL [(h0, .inr (0, [.ref a_numbers, .ref a_labels])), (a_numbers, .inl (cI, n, .inl g_numbers)), (a_labels, .inl (cI, n, .inl g_labels))] s.heap := hP
  have hl := lv_entry ([.ref h0, .int x_p0, .int x_p1, .int x_p2]) (n := 4) (Nat.le_of_ble_eq_true rfl)
  rw [lg_entry_eq]
  generalize (lg_sl ([.ref h0, .int x_p0, .int x_p1, .int x_p2]) ++ List.replicate (4 - (lg_sl ([.ref h0, .int x_p0, .int x_p1, .int x_p2])).length) Slot.unset).toArray = ls at hl ⊢
  have hl : lv_has ls 4 [(0, .ref h0), (1, .int x_p0), (2, .int x_p1), (3, .int x_p2)] := hl
  refine lv_aload_n hx hb d_Ba_put_0 rfl (lv_at hl 0 rfl) ?_
  refine va_get (D := (dC, dI)) (ci := 0) (v := .ref a_numbers) (C := "LabelledCore$Bank") (T := T_Ba) (N := 2) hx hb hts in_Ba hown hK hP 0 rfl rfl 0 (by decide) (hts _ wm_75) (fun _ h9 => h9) rfl d_Ba_put_1 ?_
  refine lv_iload_n hx hb d_Ba_put_4 rfl (lv_at hl 1 rfl) ?_
  refine lv_iload_n hx hb d_Ba_put_5 rfl (lv_at hl 2 rfl) ?_
  refine va_iast hx hb hK hP hD hS 1 0 rfl rfl hi d_Ba_put_6 (fun H locs hP hD hS => ?_)
  have hP : va_P (dC, dI) clsL [(h0, .inr (0, [.ref a_numbers, .ref a_labels])), (a_numbers, .inl (cI, n, .inl (upd g_numbers (Int32.toNatClampNeg x_p0) x_p1))), (a_labels, .inl (cI, n, .inl g_labels))] H := hP
  have hD : va_D A [(h0, .inr (0, [.ref a_numbers, .ref a_labels])), (a_numbers, .inl (cI, n, .inl (upd g_numbers (Int32.toNatClampNeg x_p0) x_p1))), (a_labels, .inl (cI, n, .inl g_labels))] := hD
  refine lv_aload_n hx hb d_Ba_put_7 rfl (lv_at hl 0 rfl) ?_
  refine va_get (D := (dC, dI)) (ci := 0) (v := .ref a_labels) (C := "LabelledCore$Bank") (T := T_Ba) (N := 2) hx hb hts in_Ba hown hK hP 0 rfl rfl 1 (by decide) (hts _ wm_76) (fun _ h9 => h9) rfl d_Ba_put_8 ?_
  refine lv_iload_n hx hb d_Ba_put_11 rfl (lv_at hl 1 rfl) ?_
  refine lv_iload_n hx hb d_Ba_put_12 rfl (lv_at hl 3 rfl) ?_
  refine va_iast hx hb hK hP hD hS 2 0 rfl rfl hi d_Ba_put_13 (fun H locs hP hD hS => ?_)
  have hP : va_P (dC, dI) clsL [(h0, .inr (0, [.ref a_numbers, .ref a_labels])), (a_numbers, .inl (cI, n, .inl (upd g_numbers (Int32.toNatClampNeg x_p0) x_p1))), (a_labels, .inl (cI, n, .inl (upd g_labels (Int32.toNatClampNeg x_p0) x_p2)))] H := hP
  have hD : va_D A [(h0, .inr (0, [.ref a_numbers, .ref a_labels])), (a_numbers, .inl (cI, n, .inl (upd g_numbers (Int32.toNatClampNeg x_p0) x_p1))), (a_labels, .inl (cI, n, .inl (upd g_labels (Int32.toNatClampNeg x_p0) x_p2)))] := hD
  have hP9 := hP.sub (ws' := [(h0, .inr (0, [.ref a_numbers, .ref a_labels])), (a_numbers, .inl (cI, n, .inl (upd g_numbers (Int32.toNatClampNeg x_p0) x_p1))), (a_labels, .inl (cI, n, .inl (upd g_labels (Int32.toNatClampNeg x_p0) x_p2)))]) [0, 1, 2] rfl
  have hD9 := hD.sub (ws' := [(h0, .inr (0, [.ref a_numbers, .ref a_labels])), (a_numbers, .inl (cI, n, .inl (upd g_numbers (Int32.toNatClampNeg x_p0) x_p1))), (a_labels, .inl (cI, n, .inl (upd g_labels (Int32.toNatClampNeg x_p0) x_p2)))]) [0, 1, 2] (by decide) rfl
  exact W.vret hx hb hr (fun t ht hW => ⟨⟨(), rfl, trivial, by rw [ht]; exact hP9, va_K.moved hW.alike hK, hD9⟩, hS.F ht⟩) hS.2.2 d_Ba_put_14
set_option maxHeartbeats 4000000 in
set_option maxRecDepth 100000 in
theorem ct_Ba_number (l : Launch) (dC : Nat → ClassId) (dI : Nat → Nat → Nat) (cI : ClassId) (h0 a_numbers a_labels : Nat) (n : Nat) (g_numbers : Nat → Int32) (x_p0 : Int32) (hi : vp_in x_p0 n) : Met l y_Ba_number w_Ba_number ({ frames := 0, cells := 0, slots := 0, locals := 0 }) (pcR dC dI cI [(h0, .inr (0, [.ref a_numbers, .ref a_labels])), (a_numbers, .inl (cI, n, .inl g_numbers))] [.ref h0, .int x_p0]) (QcRead (g_numbers (Int32.toNatClampNeg x_p0))) 0 0 (fun _ => False) := by
  refine Met.ofW (cc := c_Ba_number) (maxL := 2) (ret := (some .int)) (by decide) rfl ?_
  intro p e s m args below meth c s₁ B hml hv
  obtain ⟨rfl, hP, hK⟩ := hv
  have hx := B.exec
  have hb := B.bytes
  have hr := B.returns
  have hts : ∀ w ∈ wG, w.before _ s = true := fun w h => atoms_spec (ws := w_Ba_number) B.pre w (List.mem_cons_of_mem _ h)
  have hown : s.vm.findClass "LabelledCore$Bank" = some m.cls := findClass_of_methodNamed B.named
  have hlocks := B.notSynchronized
  have hl := lv_entry ([.ref h0, .int x_p0]) (n := 2) (Nat.le_of_ble_eq_true rfl)
  rw [lg_entry_eq]
  generalize (lg_sl ([.ref h0, .int x_p0]) ++ List.replicate (2 - (lg_sl ([.ref h0, .int x_p0])).length) Slot.unset).toArray = ls at hl ⊢
  have hl : lv_has ls 2 [(0, .ref h0), (1, .int x_p0)] := hl
  refine lv_aload_n hx hb d_Ba_number_0 rfl (lv_at hl 0 rfl) ?_
  refine va_get (D := (dC, dI)) (ci := 0) (v := .ref a_numbers) (C := "LabelledCore$Bank") (T := T_Ba) (N := 2) hx hb hts in_Ba hown hK hP 0 rfl rfl 0 (by decide) (hts _ wm_75) (fun _ h9 => h9) rfl d_Ba_number_1 ?_
  refine lv_iload_n hx hb d_Ba_number_4 rfl (lv_at hl 1 rfl) ?_
  refine va_iald hx hb hK hP 1 0 rfl rfl hi d_Ba_number_5 ?_
  exact W.iret (v := (g_numbers (Int32.toNatClampNeg x_p0))) hx hb hr (fun t ht hW => ⟨rfl, ht⟩) (fun _ h => by cases h) d_Ba_number_6
set_option maxHeartbeats 4000000 in
set_option maxRecDepth 100000 in
theorem ct_Ba_label (l : Launch) (dC : Nat → ClassId) (dI : Nat → Nat → Nat) (cI : ClassId) (h0 a_numbers a_labels : Nat) (n : Nat) (g_labels : Nat → Int32) (x_p0 : Int32) (hi : vp_in x_p0 n) : Met l y_Ba_label w_Ba_label ({ frames := 0, cells := 0, slots := 0, locals := 0 }) (pcR dC dI cI [(h0, .inr (0, [.ref a_numbers, .ref a_labels])), (a_labels, .inl (cI, n, .inl g_labels))] [.ref h0, .int x_p0]) (QcRead (g_labels (Int32.toNatClampNeg x_p0))) 0 0 (fun _ => False) := by
  refine Met.ofW (cc := c_Ba_label) (maxL := 2) (ret := (some .int)) (by decide) rfl ?_
  intro p e s m args below meth c s₁ B hml hv
  obtain ⟨rfl, hP, hK⟩ := hv
  have hx := B.exec
  have hb := B.bytes
  have hr := B.returns
  have hts : ∀ w ∈ wG, w.before _ s = true := fun w h => atoms_spec (ws := w_Ba_label) B.pre w (List.mem_cons_of_mem _ h)
  have hown : s.vm.findClass "LabelledCore$Bank" = some m.cls := findClass_of_methodNamed B.named
  have hlocks := B.notSynchronized
  have hl := lv_entry ([.ref h0, .int x_p0]) (n := 2) (Nat.le_of_ble_eq_true rfl)
  rw [lg_entry_eq]
  generalize (lg_sl ([.ref h0, .int x_p0]) ++ List.replicate (2 - (lg_sl ([.ref h0, .int x_p0])).length) Slot.unset).toArray = ls at hl ⊢
  have hl : lv_has ls 2 [(0, .ref h0), (1, .int x_p0)] := hl
  refine lv_aload_n hx hb d_Ba_label_0 rfl (lv_at hl 0 rfl) ?_
  refine va_get (D := (dC, dI)) (ci := 0) (v := .ref a_labels) (C := "LabelledCore$Bank") (T := T_Ba) (N := 2) hx hb hts in_Ba hown hK hP 0 rfl rfl 1 (by decide) (hts _ wm_76) (fun _ h9 => h9) rfl d_Ba_label_1 ?_
  refine lv_iload_n hx hb d_Ba_label_4 rfl (lv_at hl 1 rfl) ?_
  refine va_iald hx hb hK hP 1 0 rfl rfl hi d_Ba_label_5 ?_
  exact W.iret (v := (g_labels (Int32.toNatClampNeg x_p0))) hx hb hr (fun t ht hW => ⟨rfl, ht⟩) (fun _ h => by cases h) d_Ba_label_6
set_option maxHeartbeats 4000000 in
set_option maxRecDepth 100000 in
theorem ct_Li_forget (l : Launch) (dC : Nat → ClassId) (dI : Nat → Nat → Nat) (cI : ClassId) (sz : Nat) (h0 a_held : Nat) (v_room : Int32) (v_first : Int32) (v_count : Int32) : Met l y_Li_forget w_Li_forget ({ frames := 0, cells := 0, slots := 0, locals := 0 }) (pcW dC dI cI [(h0, .inr (4, [.ref a_held, .int v_room, .int v_first, .int v_count]))] sz [.ref h0]) (va_Qv (fun _ : Unit => True) (fun _ t => atW dC dI cI [(h0, .inr (4, [.ref a_held, .int v_room, .int 0, .int 0]))] (va_A [(h0, .inr (4, [.ref a_held, .int v_room, .int v_first, .int v_count]))] sz) t) (va_A [(h0, .inr (4, [.ref a_held, .int v_room, .int v_first, .int v_count]))] sz)) 0 0 (va_A [(h0, .inr (4, [.ref a_held, .int v_room, .int v_first, .int v_count]))] sz) := by
  refine Met.ofW (cc := c_Li_forget) (maxL := 1) (ret := none) (by decide) rfl ?_
  intro p e s m args below meth c s₁ B hml hv
  obtain ⟨rfl, hsz, hP, hK, hD0⟩ := hv
  have hx := B.exec
  have hb := B.bytes
  have hr := B.returns
  have hts : ∀ w ∈ wG, w.before _ s = true := fun w h => atoms_spec (ws := w_Li_forget) B.pre w (List.mem_cons_of_mem _ h)
  have hown : s.vm.findClass "LabelledCore$Line" = some m.cls := findClass_of_methodNamed B.named
  have hlocks := B.notSynchronized
  subst hsz
  have hD := hD0.self (sz := s.heap.size)
  generalize hAe : va_A [(h0, .inr (4, [.ref a_held, .int v_room, .int v_first, .int v_count]))] s.heap.size = A at hD ⊢
  have hA : ∀ q : Nat, s.heap.size ≤ q → A q := fun q h => by rw [← hAe]; exact Or.inr h
  have hS : va_S A s.heap s.heap [] := va_S.rf
  have hP : va_P (dC, dI) clsL [(h0, .inr (4, [.ref a_held, .int v_room, .int v_first, .int v_count]))] s.heap := hP
  have hl := lv_entry ([.ref h0]) (n := 1) (Nat.le_of_ble_eq_true rfl)
  rw [lg_entry_eq]
  generalize (lg_sl ([.ref h0]) ++ List.replicate (1 - (lg_sl ([.ref h0])).length) Slot.unset).toArray = ls at hl ⊢
  have hl : lv_has ls 1 [(0, .ref h0)] := hl
  refine lv_aload_n hx hb d_Li_forget_0 rfl (lv_at hl 0 rfl) ?_
  refine lv_iconst (v := 0) hx hb d_Li_forget_1 (by decide) ?_
  refine va_put (D := (dC, dI)) (ci := 4) (v := .int 0) (ty := .int) (C := "LabelledCore$Line") (T := T_Li) (N := 4) hx hb hts in_Li t_Li ty_Li nm_Li hown hK hP hD hS 0 rfl rfl 2 (by decide) (hts _ wm_93) (fun _ h9 => h9) rfl (by decide +kernel) rfl rfl (Nat.le_of_ble_eq_true rfl) d_Li_forget_2 (fun H locs hP hD hS => ?_)
  have hP : va_P (dC, dI) clsL [(h0, .inr (4, [.ref a_held, .int v_room, .int 0, .int v_count]))] H := hP
  have hD : va_D A [(h0, .inr (4, [.ref a_held, .int v_room, .int 0, .int v_count]))] := hD
  refine lv_aload_n hx hb d_Li_forget_5 rfl (lv_at hl 0 rfl) ?_
  refine lv_iconst (v := 0) hx hb d_Li_forget_6 (by decide) ?_
  refine va_put (D := (dC, dI)) (ci := 4) (v := .int 0) (ty := .int) (C := "LabelledCore$Line") (T := T_Li) (N := 4) hx hb hts in_Li t_Li ty_Li nm_Li hown hK hP hD hS 0 rfl rfl 3 (by decide) (hts _ wm_94) (fun _ h9 => h9) rfl (by decide +kernel) rfl rfl (Nat.le_of_ble_eq_true rfl) d_Li_forget_7 (fun H locs hP hD hS => ?_)
  have hP : va_P (dC, dI) clsL [(h0, .inr (4, [.ref a_held, .int v_room, .int 0, .int 0]))] H := hP
  have hD : va_D A [(h0, .inr (4, [.ref a_held, .int v_room, .int 0, .int 0]))] := hD
  have hP9 := hP.sub (ws' := [(h0, .inr (4, [.ref a_held, .int v_room, .int 0, .int 0]))]) [0] rfl
  have hD9 := hD.sub (ws' := [(h0, .inr (4, [.ref a_held, .int v_room, .int 0, .int 0]))]) [0] (by decide) rfl
  exact W.vret hx hb hr (fun t ht hW => ⟨⟨(), rfl, trivial, by rw [ht]; exact hP9, va_K.moved hW.alike hK, hD9⟩, hS.F ht⟩) hS.2.2 d_Li_forget_10
set_option maxHeartbeats 4000000 in
set_option maxRecDepth 100000 in
theorem ct_Li_size (l : Launch) (dC : Nat → ClassId) (dI : Nat → Nat → Nat) (cI : ClassId) (h0 a_held : Nat) (v_room : Int32) (v_first : Int32) (v_count : Int32) : Met l y_Li_size w_Li_size ({ frames := 0, cells := 0, slots := 0, locals := 0 }) (pcR dC dI cI [(h0, .inr (4, [.ref a_held, .int v_room, .int v_first, .int v_count]))] [.ref h0]) (QcRead v_count) 0 0 (fun _ => False) := by
  refine Met.ofW (cc := c_Li_size) (maxL := 1) (ret := (some .int)) (by decide) rfl ?_
  intro p e s m args below meth c s₁ B hml hv
  obtain ⟨rfl, hP, hK⟩ := hv
  have hx := B.exec
  have hb := B.bytes
  have hr := B.returns
  have hts : ∀ w ∈ wG, w.before _ s = true := fun w h => atoms_spec (ws := w_Li_size) B.pre w (List.mem_cons_of_mem _ h)
  have hown : s.vm.findClass "LabelledCore$Line" = some m.cls := findClass_of_methodNamed B.named
  have hlocks := B.notSynchronized
  have hl := lv_entry ([.ref h0]) (n := 1) (Nat.le_of_ble_eq_true rfl)
  rw [lg_entry_eq]
  generalize (lg_sl ([.ref h0]) ++ List.replicate (1 - (lg_sl ([.ref h0])).length) Slot.unset).toArray = ls at hl ⊢
  have hl : lv_has ls 1 [(0, .ref h0)] := hl
  refine lv_aload_n hx hb d_Li_size_0 rfl (lv_at hl 0 rfl) ?_
  refine va_get (D := (dC, dI)) (ci := 4) (v := .int v_count) (C := "LabelledCore$Line") (T := T_Li) (N := 4) hx hb hts in_Li hown hK hP 0 rfl rfl 3 (by decide) (hts _ wm_94) (fun _ h9 => h9) rfl d_Li_size_1 ?_
  exact W.iret (v := v_count) hx hb hr (fun t ht hW => ⟨rfl, ht⟩) (fun _ h => by cases h) d_Li_size_4
def f_Li_isFull (v_room : Int32) (v_count : Int32) : Int32 :=
  if v_count < v_room then
    0
  else
    1
set_option maxHeartbeats 4000000 in
set_option maxRecDepth 100000 in
theorem ct_Li_isFull (l : Launch) (dC : Nat → ClassId) (dI : Nat → Nat → Nat) (cI : ClassId) (h0 a_held : Nat) (v_room : Int32) (v_first : Int32) (v_count : Int32) : Met l y_Li_isFull w_Li_isFull ({ frames := 0, cells := 0, slots := 0, locals := 0 }) (pcR dC dI cI [(h0, .inr (4, [.ref a_held, .int v_room, .int v_first, .int v_count]))] [.ref h0]) (QcRead (f_Li_isFull v_room v_count)) 0 0 (fun _ => False) := by
  refine Met.ofW (cc := c_Li_isFull) (maxL := 1) (ret := (some .boolean)) (by decide) rfl ?_
  intro p e s m args below meth c s₁ B hml hv
  obtain ⟨rfl, hP, hK⟩ := hv
  have hx := B.exec
  have hb := B.bytes
  have hr := B.returns
  have hts : ∀ w ∈ wG, w.before _ s = true := fun w h => atoms_spec (ws := w_Li_isFull) B.pre w (List.mem_cons_of_mem _ h)
  have hown : s.vm.findClass "LabelledCore$Line" = some m.cls := findClass_of_methodNamed B.named
  have hlocks := B.notSynchronized
  have hl := lv_entry ([.ref h0]) (n := 1) (Nat.le_of_ble_eq_true rfl)
  rw [lg_entry_eq]
  generalize (lg_sl ([.ref h0]) ++ List.replicate (1 - (lg_sl ([.ref h0])).length) Slot.unset).toArray = ls at hl ⊢
  have hl : lv_has ls 1 [(0, .ref h0)] := hl
  refine lv_aload_n hx hb d_Li_isFull_0 rfl (lv_at hl 0 rfl) ?_
  refine va_get (D := (dC, dI)) (ci := 4) (v := .int v_count) (C := "LabelledCore$Line") (T := T_Li) (N := 4) hx hb hts in_Li hown hK hP 0 rfl rfl 3 (by decide) (hts _ wm_94) (fun _ h9 => h9) rfl d_Li_isFull_1 ?_
  refine lv_aload_n hx hb d_Li_isFull_4 rfl (lv_at hl 0 rfl) ?_
  refine va_get (D := (dC, dI)) (ci := 4) (v := .int v_room) (C := "LabelledCore$Line") (T := T_Li) (N := 4) hx hb hts in_Li hown hK hP 0 rfl rfl 1 (by decide) (hts _ wm_92) (fun _ h9 => h9) rfl d_Li_isFull_5 ?_
  refine lv_icmp_lt (tgt := 15) hx hb d_Li_isFull_8 (by decide) (fun c_1 => ?_) (fun c_1 => ?_)
  · refine lv_iconst (v := 0) hx hb d_Li_isFull_15 (by decide) ?_
    have ef : (f_Li_isFull v_room v_count) = (0 : Int32) := (if_pos c_1).trans rfl
    exact W.zret (v := 0) hx hb hr rfl (fun t ht hW => ⟨by rw [ef], ht⟩) (fun _ h => by cases h) d_Li_isFull_16
  · refine lv_iconst (v := 1) hx hb d_Li_isFull_11 (by decide) ?_
    refine lv_goto (tgt := 16) hx hb d_Li_isFull_12 (by decide) ?_
    have ef : (f_Li_isFull v_room v_count) = (1 : Int32) := (if_neg c_1).trans rfl
    exact W.zret (v := 1) hx hb hr rfl (fun t ht hW => ⟨by rw [ef], ht⟩) (fun _ h => by cases h) d_Li_isFull_16
def f_Li_placeOfNth (v_room : Int32) (v_first : Int32) (x_p0 : Int32) : Int32 :=
  if (v_first + x_p0) < v_room then
    (v_first + x_p0)
  else
    ((v_first + x_p0) - v_room)
set_option maxHeartbeats 4000000 in
set_option maxRecDepth 100000 in
theorem ct_Li_placeOfNth (l : Launch) (dC : Nat → ClassId) (dI : Nat → Nat → Nat) (cI : ClassId) (h0 a_held : Nat) (v_room : Int32) (v_first : Int32) (v_count : Int32) (x_p0 : Int32) : Met l y_Li_placeOfNth w_Li_placeOfNth ({ frames := 0, cells := 0, slots := 0, locals := 0 }) (pcR dC dI cI [(h0, .inr (4, [.ref a_held, .int v_room, .int v_first, .int v_count]))] [.ref h0, .int x_p0]) (QcRead (f_Li_placeOfNth v_room v_first x_p0)) 0 0 (fun _ => False) := by
  refine Met.ofW (cc := c_Li_placeOfNth) (maxL := 3) (ret := (some .int)) (by decide) rfl ?_
  intro p e s m args below meth c s₁ B hml hv
  obtain ⟨rfl, hP, hK⟩ := hv
  have hx := B.exec
  have hb := B.bytes
  have hr := B.returns
  have hts : ∀ w ∈ wG, w.before _ s = true := fun w h => atoms_spec (ws := w_Li_placeOfNth) B.pre w (List.mem_cons_of_mem _ h)
  have hown : s.vm.findClass "LabelledCore$Line" = some m.cls := findClass_of_methodNamed B.named
  have hlocks := B.notSynchronized
  have hl := lv_entry ([.ref h0, .int x_p0]) (n := 3) (Nat.le_of_ble_eq_true rfl)
  rw [lg_entry_eq]
  generalize (lg_sl ([.ref h0, .int x_p0]) ++ List.replicate (3 - (lg_sl ([.ref h0, .int x_p0])).length) Slot.unset).toArray = ls at hl ⊢
  have hl : lv_has ls 3 [(0, .ref h0), (1, .int x_p0)] := hl
  refine lv_aload_n hx hb d_Li_placeOfNth_0 rfl (lv_at hl 0 rfl) ?_
  refine va_get (D := (dC, dI)) (ci := 4) (v := .int v_first) (C := "LabelledCore$Line") (T := T_Li) (N := 4) hx hb hts in_Li hown hK hP 0 rfl rfl 2 (by decide) (hts _ wm_93) (fun _ h9 => h9) rfl d_Li_placeOfNth_1 ?_
  refine lv_iload_n hx hb d_Li_placeOfNth_4 rfl (lv_at hl 1 rfl) ?_
  refine lv_iadd hx hb d_Li_placeOfNth_5 ?_
  refine lv_istore_n (lv' := [(2, .int (v_first + x_p0)), (0, .ref h0), (1, .int x_p0)]) hx hb d_Li_placeOfNth_6 rfl hl (by decide) rfl (fun ls hl => ?_)
  refine lv_iload_n hx hb d_Li_placeOfNth_7 rfl (lv_at hl 0 rfl) ?_
  refine lv_aload_n hx hb d_Li_placeOfNth_8 rfl (lv_at hl 1 rfl) ?_
  refine va_get (D := (dC, dI)) (ci := 4) (v := .int v_room) (C := "LabelledCore$Line") (T := T_Li) (N := 4) hx hb hts in_Li hown hK hP 0 rfl rfl 1 (by decide) (hts _ wm_92) (fun _ h9 => h9) rfl d_Li_placeOfNth_9 ?_
  refine lv_icmp_lt (tgt := 24) hx hb d_Li_placeOfNth_12 (by decide) (fun c_1 => ?_) (fun c_1 => ?_)
  · refine lv_iload_n hx hb d_Li_placeOfNth_24 rfl (lv_at hl 0 rfl) ?_
    have ef : (f_Li_placeOfNth v_room v_first x_p0) = ((v_first + x_p0) : Int32) := (if_pos c_1).trans rfl
    exact W.iret (v := (v_first + x_p0)) hx hb hr (fun t ht hW => ⟨by rw [ef], ht⟩) (fun _ h => by cases h) d_Li_placeOfNth_25
  · refine lv_iload_n hx hb d_Li_placeOfNth_15 rfl (lv_at hl 0 rfl) ?_
    refine lv_aload_n hx hb d_Li_placeOfNth_16 rfl (lv_at hl 1 rfl) ?_
    refine va_get (D := (dC, dI)) (ci := 4) (v := .int v_room) (C := "LabelledCore$Line") (T := T_Li) (N := 4) hx hb hts in_Li hown hK hP 0 rfl rfl 1 (by decide) (hts _ wm_92) (fun _ h9 => h9) rfl d_Li_placeOfNth_17 ?_
    refine lv_isub hx hb d_Li_placeOfNth_20 ?_
    refine lv_goto (tgt := 25) hx hb d_Li_placeOfNth_21 (by decide) ?_
    have ef : (f_Li_placeOfNth v_room v_first x_p0) = (((v_first + x_p0) - v_room) : Int32) := (if_neg c_1).trans rfl
    exact W.iret (v := ((v_first + x_p0) - v_room)) hx hb hr (fun t ht hW => ⟨by rw [ef], ht⟩) (fun _ h => by cases h) d_Li_placeOfNth_25
def f_Li_append (v_room : Int32) (v_first : Int32) (v_count : Int32) (g_held_numbers : Nat → Int32) (g_held_labels : Nat → Int32) (x_p0 : Int32) (x_p1 : Int32) : Int32 × (Nat → Int32) × (Nat → Int32) :=
  if v_room ≤ v_count then
    (v_count, g_held_numbers, g_held_labels)
  else
    ((v_count + 1), (upd g_held_numbers (Int32.toNatClampNeg (f_Li_placeOfNth v_room v_first v_count)) x_p0), (upd g_held_labels (Int32.toNatClampNeg (f_Li_placeOfNth v_room v_first v_count)) x_p1))
set_option maxHeartbeats 4000000 in
set_option maxRecDepth 100000 in
theorem ct_Li_append (l : Launch) (dC : Nat → ClassId) (dI : Nat → Nat → Nat) (cI : ClassId) (sz : Nat) (h0 a_held a_held_numbers a_held_labels : Nat) (n : Nat) (v_room : Int32) (v_first : Int32) (v_count : Int32) (g_held_numbers : Nat → Int32) (g_held_labels : Nat → Int32) (x_p0 : Int32) (x_p1 : Int32) (hs_25_0 : (¬ v_room ≤ v_count) → (vp_in (f_Li_placeOfNth v_room v_first v_count) n)) : Met l y_Li_append w_Li_append ({ frames := 1, cells := 0, slots := 0, locals := 23 }) (pcW dC dI cI [(h0, .inr (4, [.ref a_held, .int v_room, .int v_first, .int v_count])), (a_held, .inr (0, [.ref a_held_numbers, .ref a_held_labels])), (a_held_numbers, .inl (cI, n, .inl g_held_numbers)), (a_held_labels, .inl (cI, n, .inl g_held_labels))] sz [.ref h0, .int x_p0, .int x_p1]) (va_Qv (fun _ : Unit => True) (fun _ t => atW dC dI cI [(h0, .inr (4, [.ref a_held, .int v_room, .int v_first, .int ((f_Li_append v_room v_first v_count g_held_numbers g_held_labels x_p0 x_p1).1)])), (a_held, .inr (0, [.ref a_held_numbers, .ref a_held_labels])), (a_held_numbers, .inl (cI, n, .inl ((f_Li_append v_room v_first v_count g_held_numbers g_held_labels x_p0 x_p1).2.1))), (a_held_labels, .inl (cI, n, .inl ((f_Li_append v_room v_first v_count g_held_numbers g_held_labels x_p0 x_p1).2.2)))] (va_A [(h0, .inr (4, [.ref a_held, .int v_room, .int v_first, .int v_count])), (a_held, .inr (0, [.ref a_held_numbers, .ref a_held_labels])), (a_held_numbers, .inl (cI, n, .inl g_held_numbers)), (a_held_labels, .inl (cI, n, .inl g_held_labels))] sz) t) (va_A [(h0, .inr (4, [.ref a_held, .int v_room, .int v_first, .int v_count])), (a_held, .inr (0, [.ref a_held_numbers, .ref a_held_labels])), (a_held_numbers, .inl (cI, n, .inl g_held_numbers)), (a_held_labels, .inl (cI, n, .inl g_held_labels))] sz)) 0 0 (va_A [(h0, .inr (4, [.ref a_held, .int v_room, .int v_first, .int v_count])), (a_held, .inr (0, [.ref a_held_numbers, .ref a_held_labels])), (a_held_numbers, .inl (cI, n, .inl g_held_numbers)), (a_held_labels, .inl (cI, n, .inl g_held_labels))] sz) := by
  refine Met.ofW (cc := c_Li_append) (maxL := 3) (ret := none) (by decide) rfl ?_
  intro p e s m args below meth c s₁ B hml hv
  obtain ⟨rfl, hsz, hP, hK, hD0⟩ := hv
  have hx := B.exec
  have hb := B.bytes
  have hr := B.returns
  have hts : ∀ w ∈ wG, w.before _ s = true := fun w h => atoms_spec (ws := w_Li_append) B.pre w (List.mem_cons_of_mem _ h)
  have hown : s.vm.findClass "LabelledCore$Line" = some m.cls := findClass_of_methodNamed B.named
  have hlocks := B.notSynchronized
  subst hsz
  have hD := hD0.self (sz := s.heap.size)
  generalize hAe : va_A [(h0, .inr (4, [.ref a_held, .int v_room, .int v_first, .int v_count])), (a_held, .inr (0, [.ref a_held_numbers, .ref a_held_labels])), (a_held_numbers, .inl (cI, n, .inl g_held_numbers)), (a_held_labels, .inl (cI, n, .inl g_held_labels))] s.heap.size = A at hD ⊢
  have hA : ∀ q : Nat, s.heap.size ≤ q → A q := fun q h => by rw [← hAe]; exact Or.inr h
  have hS : va_S A s.heap s.heap [] := va_S.rf
  have hP : va_P (dC, dI) clsL [(h0, .inr (4, [.ref a_held, .int v_room, .int v_first, .int v_count])), (a_held, .inr (0, [.ref a_held_numbers, .ref a_held_labels])), (a_held_numbers, .inl (cI, n, .inl g_held_numbers)), (a_held_labels, .inl (cI, n, .inl g_held_labels))] s.heap := hP
  have hl := lv_entry ([.ref h0, .int x_p0, .int x_p1]) (n := 3) (Nat.le_of_ble_eq_true rfl)
  rw [lg_entry_eq]
  generalize (lg_sl ([.ref h0, .int x_p0, .int x_p1]) ++ List.replicate (3 - (lg_sl ([.ref h0, .int x_p0, .int x_p1])).length) Slot.unset).toArray = ls at hl ⊢
  have hl : lv_has ls 3 [(0, .ref h0), (1, .int x_p0), (2, .int x_p1)] := hl
  refine lv_aload_n hx hb d_Li_append_0 rfl (lv_at hl 0 rfl) ?_
  refine va_get (D := (dC, dI)) (ci := 4) (v := .int v_count) (C := "LabelledCore$Line") (T := T_Li) (N := 4) hx hb hts in_Li hown hK hP 0 rfl rfl 3 (by decide) (hts _ wm_94) (fun _ h9 => h9) rfl d_Li_append_1 ?_
  refine lv_aload_n hx hb d_Li_append_4 rfl (lv_at hl 0 rfl) ?_
  refine va_get (D := (dC, dI)) (ci := 4) (v := .int v_room) (C := "LabelledCore$Line") (T := T_Li) (N := 4) hx hb hts in_Li hown hK hP 0 rfl rfl 1 (by decide) (hts _ wm_92) (fun _ h9 => h9) rfl d_Li_append_5 ?_
  refine lv_icmp_ge (tgt := 38) hx hb d_Li_append_8 (by decide) (fun c_1 => ?_) (fun c_1 => ?_)
  · have ef : (f_Li_append v_room v_first v_count g_held_numbers g_held_labels x_p0 x_p1) = ((v_count, g_held_numbers, g_held_labels) : Int32 × (Nat → Int32) × (Nat → Int32)) := (if_pos c_1).trans rfl
    have hP9 := hP.sub (ws' := [(h0, .inr (4, [.ref a_held, .int v_room, .int v_first, .int v_count])), (a_held, .inr (0, [.ref a_held_numbers, .ref a_held_labels])), (a_held_numbers, .inl (cI, n, .inl g_held_numbers)), (a_held_labels, .inl (cI, n, .inl g_held_labels))]) [0, 1, 2, 3] rfl
    have hD9 := hD.sub (ws' := [(h0, .inr (4, [.ref a_held, .int v_room, .int v_first, .int v_count])), (a_held, .inr (0, [.ref a_held_numbers, .ref a_held_labels])), (a_held_numbers, .inl (cI, n, .inl g_held_numbers)), (a_held_labels, .inl (cI, n, .inl g_held_labels))]) [0, 1, 2, 3] (by decide) rfl
    exact W.vret hx hb hr (fun t ht hW => ⟨⟨(), rfl, trivial, by rw [ef, ht]; exact hP9, va_K.moved hW.alike hK, by rw [ef]; exact hD9⟩, hS.F ht⟩) hS.2.2 d_Li_append_38
  · refine lv_aload_n hx hb d_Li_append_11 rfl (lv_at hl 0 rfl) ?_
    refine va_get (D := (dC, dI)) (ci := 4) (v := .ref a_held) (C := "LabelledCore$Line") (T := T_Li) (N := 4) hx hb hts in_Li hown hK hP 0 rfl rfl 0 (by decide) (hts _ wm_91) (fun _ h9 => h9) rfl d_Li_append_12 ?_
    refine lv_aload_n hx hb d_Li_append_15 rfl (lv_at hl 0 rfl) ?_
    refine lv_aload_n hx hb d_Li_append_16 rfl (lv_at hl 0 rfl) ?_
    refine va_get (D := (dC, dI)) (ci := 4) (v := .int v_count) (C := "LabelledCore$Line") (T := T_Li) (N := 4) hx hb hts in_Li hown hK hP 0 rfl rfl 3 (by decide) (hts _ wm_94) (fun _ h9 => h9) rfl d_Li_append_17 ?_
    have hPc := hP.sub (ws' := [(h0, .inr (4, [.ref a_held, .int v_room, .int v_first, .int v_count]))]) [0] rfl
    refine W.callR ((W.runV (As := [.int v_count]) (rest := [.ref a_held]) ⟨hx, hb, hml, hown, hts⟩ (ct_Li_placeOfNth l dC dI cI h0 a_held v_room v_first v_count v_count) (cwV 1 hts (gV wm_294 wm_296 wm_2 wm_38 wm_297) rfl rfl rfl (by decide +kernel) ⟨Nat.le_of_ble_eq_true rfl, Nat.le_of_ble_eq_true rfl⟩) ⟨pcR_blind, va_recv hK hPc (ci := 4) (q0 := 0) rfl rfl, pcR_pre hPc hK⟩ rfl rfl hl.1 rfl (lv_room (Nat.le_of_ble_eq_true rfl)) d_Li_append_20 ⟨Nat.le_of_ble_eq_true rfl, Nat.le_of_ble_eq_true rfl⟩)) ?_
    refine W.eq (g2 := F0 m 23 ls [.int (f_Li_placeOfNth v_room v_first v_count), .ref a_held]) rfl ?_
    refine lv_iload_n hx hb d_Li_append_23 rfl (lv_at hl 1 rfl) ?_
    refine lv_iload_n hx hb d_Li_append_24 rfl (lv_at hl 2 rfl) ?_
    have hPc := hP.sub (ws' := [(a_held, .inr (0, [.ref a_held_numbers, .ref a_held_labels])), (a_held_numbers, .inl (cI, n, .inl g_held_numbers)), (a_held_labels, .inl (cI, n, .inl g_held_labels))]) [1, 2, 3] rfl
    have hDc := hD.sub (ws' := [(a_held, .inr (0, [.ref a_held_numbers, .ref a_held_labels])), (a_held_numbers, .inl (cI, n, .inl g_held_numbers)), (a_held_labels, .inl (cI, n, .inl g_held_labels))]) [1, 2, 3] (by decide) rfl
    have hFc := va_free (wc := [(a_held, .inr (0, [.ref a_held_numbers, .ref a_held_labels])), (a_held_numbers, .inl (cI, n, .inl g_held_numbers)), (a_held_labels, .inl (cI, n, .inl g_held_labels))]) hD hS hA [1, 2, 3] rfl
    refine va_callv (va_runV (As := [.int (f_Li_placeOfNth v_room v_first v_count), .int x_p0, .int x_p1]) (rest := []) ⟨hx, hb, hml, hown, hts⟩ (ct_Ba_put l dC dI cI s.heap.size a_held a_held_numbers a_held_labels n g_held_numbers g_held_labels (f_Li_placeOfNth v_room v_first v_count) x_p0 x_p1 (hs_25_0 c_1)) (cwV 3 hts (gV wm_298 wm_299 wm_300 wm_37 wm_301) rfl rfl rfl (by decide +kernel) ⟨Nat.le_of_ble_eq_true rfl, Nat.le_of_ble_eq_true rfl⟩) ⟨pcW_blind, va_recv hK hPc (ci := 0) (q0 := 0) rfl rfl, pcW_pre hPc hK hDc⟩ rfl rfl hl.1 rfl (lv_room (Nat.le_of_ble_eq_true rfl)) d_Li_append_25 ⟨Nat.le_of_ble_eq_true rfl, Nat.le_of_ble_eq_true rfl⟩) hS (fun q _ h => hFc q h) hFc (fun u t H1 locs ht hvm hw hB hz1 hk1 hS => ?_)
    obtain ⟨hP1, -, hD1⟩ := hB
    rw [ht] at hP1
    obtain ⟨hP, hD⟩ := va_join (wr := [(h0, .inr (4, [.ref a_held, .int v_room, .int v_first, .int v_count]))]) (w1 := [(a_held, .inr (0, [.ref a_held_numbers, .ref a_held_labels])), (a_held_numbers, .inl (cI, n, .inl (upd g_held_numbers (Int32.toNatClampNeg (f_Li_placeOfNth v_room v_first v_count)) x_p0))), (a_held_labels, .inl (cI, n, .inl (upd g_held_labels (Int32.toNatClampNeg (f_Li_placeOfNth v_room v_first v_count)) x_p1)))]) hP hD [1, 2, 3] [0] rfl rfl (by decide) (by decide) hk1 hFc hP1 hD1
    clear hFc hDc hPc hP1 hD1 hk1 hz1 hvm ht
    generalize H1 = H at hP hS ⊢
    have hP : va_P (dC, dI) clsL [(h0, .inr (4, [.ref a_held, .int v_room, .int v_first, .int v_count])), (a_held, .inr (0, [.ref a_held_numbers, .ref a_held_labels])), (a_held_numbers, .inl (cI, n, .inl (upd g_held_numbers (Int32.toNatClampNeg (f_Li_placeOfNth v_room v_first v_count)) x_p0))), (a_held_labels, .inl (cI, n, .inl (upd g_held_labels (Int32.toNatClampNeg (f_Li_placeOfNth v_room v_first v_count)) x_p1)))] H := hP
    have hD : va_D A [(h0, .inr (4, [.ref a_held, .int v_room, .int v_first, .int v_count])), (a_held, .inr (0, [.ref a_held_numbers, .ref a_held_labels])), (a_held_numbers, .inl (cI, n, .inl (upd g_held_numbers (Int32.toNatClampNeg (f_Li_placeOfNth v_room v_first v_count)) x_p0))), (a_held_labels, .inl (cI, n, .inl (upd g_held_labels (Int32.toNatClampNeg (f_Li_placeOfNth v_room v_first v_count)) x_p1)))] := hD
    refine lv_aload_n hx hb d_Li_append_28 rfl (lv_at hl 0 rfl) ?_
    refine lv_dup hx hb d_Li_append_29 rfl ?_
    refine va_get (D := (dC, dI)) (ci := 4) (v := .int v_count) (C := "LabelledCore$Line") (T := T_Li) (N := 4) hx hb hts in_Li hown hK hP 0 rfl rfl 3 (by decide) (hts _ wm_94) (fun _ h9 => h9) rfl d_Li_append_30 ?_
    refine lv_iconst (v := 1) hx hb d_Li_append_33 (by decide) ?_
    refine lv_iadd hx hb d_Li_append_34 ?_
    refine va_put (D := (dC, dI)) (ci := 4) (v := .int (v_count + 1)) (ty := .int) (C := "LabelledCore$Line") (T := T_Li) (N := 4) hx hb hts in_Li t_Li ty_Li nm_Li hown hK hP hD hS 0 rfl rfl 3 (by decide) (hts _ wm_94) (fun _ h9 => h9) rfl (by decide +kernel) rfl rfl (Nat.le_of_ble_eq_true rfl) d_Li_append_35 (fun H locs hP hD hS => ?_)
    have hP : va_P (dC, dI) clsL [(h0, .inr (4, [.ref a_held, .int v_room, .int v_first, .int (v_count + 1)])), (a_held, .inr (0, [.ref a_held_numbers, .ref a_held_labels])), (a_held_numbers, .inl (cI, n, .inl (upd g_held_numbers (Int32.toNatClampNeg (f_Li_placeOfNth v_room v_first v_count)) x_p0))), (a_held_labels, .inl (cI, n, .inl (upd g_held_labels (Int32.toNatClampNeg (f_Li_placeOfNth v_room v_first v_count)) x_p1)))] H := hP
    have hD : va_D A [(h0, .inr (4, [.ref a_held, .int v_room, .int v_first, .int (v_count + 1)])), (a_held, .inr (0, [.ref a_held_numbers, .ref a_held_labels])), (a_held_numbers, .inl (cI, n, .inl (upd g_held_numbers (Int32.toNatClampNeg (f_Li_placeOfNth v_room v_first v_count)) x_p0))), (a_held_labels, .inl (cI, n, .inl (upd g_held_labels (Int32.toNatClampNeg (f_Li_placeOfNth v_room v_first v_count)) x_p1)))] := hD
    have ef : (f_Li_append v_room v_first v_count g_held_numbers g_held_labels x_p0 x_p1) = (((v_count + 1), (upd g_held_numbers (Int32.toNatClampNeg (f_Li_placeOfNth v_room v_first v_count)) x_p0), (upd g_held_labels (Int32.toNatClampNeg (f_Li_placeOfNth v_room v_first v_count)) x_p1)) : Int32 × (Nat → Int32) × (Nat → Int32)) := (if_neg c_1).trans rfl
    have hP9 := hP.sub (ws' := [(h0, .inr (4, [.ref a_held, .int v_room, .int v_first, .int (v_count + 1)])), (a_held, .inr (0, [.ref a_held_numbers, .ref a_held_labels])), (a_held_numbers, .inl (cI, n, .inl (upd g_held_numbers (Int32.toNatClampNeg (f_Li_placeOfNth v_room v_first v_count)) x_p0))), (a_held_labels, .inl (cI, n, .inl (upd g_held_labels (Int32.toNatClampNeg (f_Li_placeOfNth v_room v_first v_count)) x_p1)))]) [0, 1, 2, 3] rfl
    have hD9 := hD.sub (ws' := [(h0, .inr (4, [.ref a_held, .int v_room, .int v_first, .int (v_count + 1)])), (a_held, .inr (0, [.ref a_held_numbers, .ref a_held_labels])), (a_held_numbers, .inl (cI, n, .inl (upd g_held_numbers (Int32.toNatClampNeg (f_Li_placeOfNth v_room v_first v_count)) x_p0))), (a_held_labels, .inl (cI, n, .inl (upd g_held_labels (Int32.toNatClampNeg (f_Li_placeOfNth v_room v_first v_count)) x_p1)))]) [0, 1, 2, 3] (by decide) rfl
    exact W.vret hx hb hr (fun t ht hW => ⟨⟨(), rfl, trivial, by rw [ef, ht]; exact hP9, va_K.moved hW.alike hK, by rw [ef]; exact hD9⟩, hS.F ht⟩) hS.2.2 d_Li_append_38
def f_Li_dropFirst (v_room : Int32) (v_first : Int32) (v_count : Int32) : Int32 × Int32 :=
  if v_count ≤ 0 then
    (v_first, v_count)
  else
    ((f_Li_placeOfNth v_room v_first 1), (v_count - 1))
set_option maxHeartbeats 4000000 in
set_option maxRecDepth 100000 in
theorem ct_Li_dropFirst (l : Launch) (dC : Nat → ClassId) (dI : Nat → Nat → Nat) (cI : ClassId) (sz : Nat) (h0 a_held : Nat) (v_room : Int32) (v_first : Int32) (v_count : Int32) : Met l y_Li_dropFirst w_Li_dropFirst ({ frames := 1, cells := 0, slots := 0, locals := 22 }) (pcW dC dI cI [(h0, .inr (4, [.ref a_held, .int v_room, .int v_first, .int v_count]))] sz [.ref h0]) (va_Qv (fun _ : Unit => True) (fun _ t => atW dC dI cI [(h0, .inr (4, [.ref a_held, .int v_room, .int ((f_Li_dropFirst v_room v_first v_count).1), .int ((f_Li_dropFirst v_room v_first v_count).2)]))] (va_A [(h0, .inr (4, [.ref a_held, .int v_room, .int v_first, .int v_count]))] sz) t) (va_A [(h0, .inr (4, [.ref a_held, .int v_room, .int v_first, .int v_count]))] sz)) 0 0 (va_A [(h0, .inr (4, [.ref a_held, .int v_room, .int v_first, .int v_count]))] sz) := by
  refine Met.ofW (cc := c_Li_dropFirst) (maxL := 1) (ret := none) (by decide) rfl ?_
  intro p e s m args below meth c s₁ B hml hv
  obtain ⟨rfl, hsz, hP, hK, hD0⟩ := hv
  have hx := B.exec
  have hb := B.bytes
  have hr := B.returns
  have hts : ∀ w ∈ wG, w.before _ s = true := fun w h => atoms_spec (ws := w_Li_dropFirst) B.pre w (List.mem_cons_of_mem _ h)
  have hown : s.vm.findClass "LabelledCore$Line" = some m.cls := findClass_of_methodNamed B.named
  have hlocks := B.notSynchronized
  subst hsz
  have hD := hD0.self (sz := s.heap.size)
  generalize hAe : va_A [(h0, .inr (4, [.ref a_held, .int v_room, .int v_first, .int v_count]))] s.heap.size = A at hD ⊢
  have hA : ∀ q : Nat, s.heap.size ≤ q → A q := fun q h => by rw [← hAe]; exact Or.inr h
  have hS : va_S A s.heap s.heap [] := va_S.rf
  have hP : va_P (dC, dI) clsL [(h0, .inr (4, [.ref a_held, .int v_room, .int v_first, .int v_count]))] s.heap := hP
  have hl := lv_entry ([.ref h0]) (n := 1) (Nat.le_of_ble_eq_true rfl)
  rw [lg_entry_eq]
  generalize (lg_sl ([.ref h0]) ++ List.replicate (1 - (lg_sl ([.ref h0])).length) Slot.unset).toArray = ls at hl ⊢
  have hl : lv_has ls 1 [(0, .ref h0)] := hl
  refine lv_aload_n hx hb d_Li_dropFirst_0 rfl (lv_at hl 0 rfl) ?_
  refine va_get (D := (dC, dI)) (ci := 4) (v := .int v_count) (C := "LabelledCore$Line") (T := T_Li) (N := 4) hx hb hts in_Li hown hK hP 0 rfl rfl 3 (by decide) (hts _ wm_94) (fun _ h9 => h9) rfl d_Li_dropFirst_1 ?_
  refine lv_if_le (tgt := 26) hx hb d_Li_dropFirst_4 (by decide) (fun c_1 => ?_) (fun c_1 => ?_)
  · have ef : (f_Li_dropFirst v_room v_first v_count) = ((v_first, v_count) : Int32 × Int32) := (if_pos c_1).trans rfl
    have hP9 := hP.sub (ws' := [(h0, .inr (4, [.ref a_held, .int v_room, .int v_first, .int v_count]))]) [0] rfl
    have hD9 := hD.sub (ws' := [(h0, .inr (4, [.ref a_held, .int v_room, .int v_first, .int v_count]))]) [0] (by decide) rfl
    exact W.vret hx hb hr (fun t ht hW => ⟨⟨(), rfl, trivial, by rw [ef, ht]; exact hP9, va_K.moved hW.alike hK, by rw [ef]; exact hD9⟩, hS.F ht⟩) hS.2.2 d_Li_dropFirst_26
  · refine lv_aload_n hx hb d_Li_dropFirst_7 rfl (lv_at hl 0 rfl) ?_
    refine lv_aload_n hx hb d_Li_dropFirst_8 rfl (lv_at hl 0 rfl) ?_
    refine lv_iconst (v := 1) hx hb d_Li_dropFirst_9 (by decide) ?_
    have hPc := hP.sub (ws' := [(h0, .inr (4, [.ref a_held, .int v_room, .int v_first, .int v_count]))]) [0] rfl
    refine W.callR ((W.runV (As := [.int 1]) (rest := [.ref h0]) ⟨hx, hb, hml, hown, hts⟩ (ct_Li_placeOfNth l dC dI cI h0 a_held v_room v_first v_count 1) (cwV 1 hts (gV wm_294 wm_296 wm_2 wm_38 wm_297) rfl rfl rfl (by decide +kernel) ⟨Nat.le_of_ble_eq_true rfl, Nat.le_of_ble_eq_true rfl⟩) ⟨pcR_blind, va_recv hK hPc (ci := 4) (q0 := 0) rfl rfl, pcR_pre hPc hK⟩ rfl rfl hl.1 rfl (lv_room (Nat.le_of_ble_eq_true rfl)) d_Li_dropFirst_10 ⟨Nat.le_of_ble_eq_true rfl, Nat.le_of_ble_eq_true rfl⟩)) ?_
    refine W.eq (g2 := F0 m 13 ls [.int (f_Li_placeOfNth v_room v_first 1), .ref h0]) rfl ?_
    refine va_put (D := (dC, dI)) (ci := 4) (v := .int (f_Li_placeOfNth v_room v_first 1)) (ty := .int) (C := "LabelledCore$Line") (T := T_Li) (N := 4) hx hb hts in_Li t_Li ty_Li nm_Li hown hK hP hD hS 0 rfl rfl 2 (by decide) (hts _ wm_93) (fun _ h9 => h9) rfl (by decide +kernel) rfl rfl (Nat.le_of_ble_eq_true rfl) d_Li_dropFirst_13 (fun H locs hP hD hS => ?_)
    have hP : va_P (dC, dI) clsL [(h0, .inr (4, [.ref a_held, .int v_room, .int (f_Li_placeOfNth v_room v_first 1), .int v_count]))] H := hP
    have hD : va_D A [(h0, .inr (4, [.ref a_held, .int v_room, .int (f_Li_placeOfNth v_room v_first 1), .int v_count]))] := hD
    refine lv_aload_n hx hb d_Li_dropFirst_16 rfl (lv_at hl 0 rfl) ?_
    refine lv_dup hx hb d_Li_dropFirst_17 rfl ?_
    refine va_get (D := (dC, dI)) (ci := 4) (v := .int v_count) (C := "LabelledCore$Line") (T := T_Li) (N := 4) hx hb hts in_Li hown hK hP 0 rfl rfl 3 (by decide) (hts _ wm_94) (fun _ h9 => h9) rfl d_Li_dropFirst_18 ?_
    refine lv_iconst (v := 1) hx hb d_Li_dropFirst_21 (by decide) ?_
    refine lv_isub hx hb d_Li_dropFirst_22 ?_
    refine va_put (D := (dC, dI)) (ci := 4) (v := .int (v_count - 1)) (ty := .int) (C := "LabelledCore$Line") (T := T_Li) (N := 4) hx hb hts in_Li t_Li ty_Li nm_Li hown hK hP hD hS 0 rfl rfl 3 (by decide) (hts _ wm_94) (fun _ h9 => h9) rfl (by decide +kernel) rfl rfl (Nat.le_of_ble_eq_true rfl) d_Li_dropFirst_23 (fun H locs hP hD hS => ?_)
    have hP : va_P (dC, dI) clsL [(h0, .inr (4, [.ref a_held, .int v_room, .int (f_Li_placeOfNth v_room v_first 1), .int (v_count - 1)]))] H := hP
    have hD : va_D A [(h0, .inr (4, [.ref a_held, .int v_room, .int (f_Li_placeOfNth v_room v_first 1), .int (v_count - 1)]))] := hD
    have ef : (f_Li_dropFirst v_room v_first v_count) = (((f_Li_placeOfNth v_room v_first 1), (v_count - 1)) : Int32 × Int32) := (if_neg c_1).trans rfl
    have hP9 := hP.sub (ws' := [(h0, .inr (4, [.ref a_held, .int v_room, .int (f_Li_placeOfNth v_room v_first 1), .int (v_count - 1)]))]) [0] rfl
    have hD9 := hD.sub (ws' := [(h0, .inr (4, [.ref a_held, .int v_room, .int (f_Li_placeOfNth v_room v_first 1), .int (v_count - 1)]))]) [0] (by decide) rfl
    exact W.vret hx hb hr (fun t ht hW => ⟨⟨(), rfl, trivial, by rw [ef, ht]; exact hP9, va_K.moved hW.alike hK, by rw [ef]; exact hD9⟩, hS.F ht⟩) hS.2.2 d_Li_dropFirst_26
set_option maxHeartbeats 4000000 in
set_option maxRecDepth 100000 in
theorem ct_Li_firstNumber (l : Launch) (dC : Nat → ClassId) (dI : Nat → Nat → Nat) (cI : ClassId) (h0 a_held a_held_numbers a_held_labels : Nat) (n : Nat) (v_room : Int32) (v_first : Int32) (v_count : Int32) (g_held_numbers : Nat → Int32) (hs_8_0 : (vp_in v_first n)) : Met l y_Li_firstNumber w_Li_firstNumber ({ frames := 1, cells := 0, slots := 0, locals := 21 }) (pcR dC dI cI [(h0, .inr (4, [.ref a_held, .int v_room, .int v_first, .int v_count])), (a_held, .inr (0, [.ref a_held_numbers, .ref a_held_labels])), (a_held_numbers, .inl (cI, n, .inl g_held_numbers))] [.ref h0]) (QcRead (g_held_numbers (Int32.toNatClampNeg v_first))) 0 0 (fun _ => False) := by
  refine Met.ofW (cc := c_Li_firstNumber) (maxL := 1) (ret := (some .int)) (by decide) rfl ?_
  intro p e s m args below meth c s₁ B hml hv
  obtain ⟨rfl, hP, hK⟩ := hv
  have hx := B.exec
  have hb := B.bytes
  have hr := B.returns
  have hts : ∀ w ∈ wG, w.before _ s = true := fun w h => atoms_spec (ws := w_Li_firstNumber) B.pre w (List.mem_cons_of_mem _ h)
  have hown : s.vm.findClass "LabelledCore$Line" = some m.cls := findClass_of_methodNamed B.named
  have hlocks := B.notSynchronized
  have hl := lv_entry ([.ref h0]) (n := 1) (Nat.le_of_ble_eq_true rfl)
  rw [lg_entry_eq]
  generalize (lg_sl ([.ref h0]) ++ List.replicate (1 - (lg_sl ([.ref h0])).length) Slot.unset).toArray = ls at hl ⊢
  have hl : lv_has ls 1 [(0, .ref h0)] := hl
  refine lv_aload_n hx hb d_Li_firstNumber_0 rfl (lv_at hl 0 rfl) ?_
  refine va_get (D := (dC, dI)) (ci := 4) (v := .ref a_held) (C := "LabelledCore$Line") (T := T_Li) (N := 4) hx hb hts in_Li hown hK hP 0 rfl rfl 0 (by decide) (hts _ wm_91) (fun _ h9 => h9) rfl d_Li_firstNumber_1 ?_
  refine lv_aload_n hx hb d_Li_firstNumber_4 rfl (lv_at hl 0 rfl) ?_
  refine va_get (D := (dC, dI)) (ci := 4) (v := .int v_first) (C := "LabelledCore$Line") (T := T_Li) (N := 4) hx hb hts in_Li hown hK hP 0 rfl rfl 2 (by decide) (hts _ wm_93) (fun _ h9 => h9) rfl d_Li_firstNumber_5 ?_
  have hPc := hP.sub (ws' := [(a_held, .inr (0, [.ref a_held_numbers, .ref a_held_labels])), (a_held_numbers, .inl (cI, n, .inl g_held_numbers))]) [1, 2] rfl
  refine W.callR ((W.runV (As := [.int v_first]) (rest := []) ⟨hx, hb, hml, hown, hts⟩ (ct_Ba_number l dC dI cI a_held a_held_numbers a_held_labels n g_held_numbers v_first hs_8_0) (cwV 1 hts (gV wm_884 wm_467 wm_468 wm_37 wm_469) rfl rfl rfl (by decide +kernel) ⟨Nat.le_of_ble_eq_true rfl, Nat.le_of_ble_eq_true rfl⟩) ⟨pcR_blind, va_recv hK hPc (ci := 0) (q0 := 0) rfl rfl, pcR_pre hPc hK⟩ rfl rfl hl.1 rfl (lv_room (Nat.le_of_ble_eq_true rfl)) d_Li_firstNumber_8 ⟨Nat.le_of_ble_eq_true rfl, Nat.le_of_ble_eq_true rfl⟩)) ?_
  refine W.eq (g2 := F0 m 11 ls [.int (g_held_numbers (Int32.toNatClampNeg v_first))]) rfl ?_
  exact W.iret (v := (g_held_numbers (Int32.toNatClampNeg v_first))) hx hb hr (fun t ht hW => ⟨rfl, ht⟩) (fun _ h => by cases h) d_Li_firstNumber_11
set_option maxHeartbeats 4000000 in
set_option maxRecDepth 100000 in
theorem ct_Li_firstLabel (l : Launch) (dC : Nat → ClassId) (dI : Nat → Nat → Nat) (cI : ClassId) (h0 a_held a_held_numbers a_held_labels : Nat) (n : Nat) (v_room : Int32) (v_first : Int32) (v_count : Int32) (g_held_labels : Nat → Int32) (hs_8_0 : (vp_in v_first n)) : Met l y_Li_firstLabel w_Li_firstLabel ({ frames := 1, cells := 0, slots := 0, locals := 21 }) (pcR dC dI cI [(h0, .inr (4, [.ref a_held, .int v_room, .int v_first, .int v_count])), (a_held, .inr (0, [.ref a_held_numbers, .ref a_held_labels])), (a_held_labels, .inl (cI, n, .inl g_held_labels))] [.ref h0]) (QcRead (g_held_labels (Int32.toNatClampNeg v_first))) 0 0 (fun _ => False) := by
  refine Met.ofW (cc := c_Li_firstLabel) (maxL := 1) (ret := (some .int)) (by decide) rfl ?_
  intro p e s m args below meth c s₁ B hml hv
  obtain ⟨rfl, hP, hK⟩ := hv
  have hx := B.exec
  have hb := B.bytes
  have hr := B.returns
  have hts : ∀ w ∈ wG, w.before _ s = true := fun w h => atoms_spec (ws := w_Li_firstLabel) B.pre w (List.mem_cons_of_mem _ h)
  have hown : s.vm.findClass "LabelledCore$Line" = some m.cls := findClass_of_methodNamed B.named
  have hlocks := B.notSynchronized
  have hl := lv_entry ([.ref h0]) (n := 1) (Nat.le_of_ble_eq_true rfl)
  rw [lg_entry_eq]
  generalize (lg_sl ([.ref h0]) ++ List.replicate (1 - (lg_sl ([.ref h0])).length) Slot.unset).toArray = ls at hl ⊢
  have hl : lv_has ls 1 [(0, .ref h0)] := hl
  refine lv_aload_n hx hb d_Li_firstLabel_0 rfl (lv_at hl 0 rfl) ?_
  refine va_get (D := (dC, dI)) (ci := 4) (v := .ref a_held) (C := "LabelledCore$Line") (T := T_Li) (N := 4) hx hb hts in_Li hown hK hP 0 rfl rfl 0 (by decide) (hts _ wm_91) (fun _ h9 => h9) rfl d_Li_firstLabel_1 ?_
  refine lv_aload_n hx hb d_Li_firstLabel_4 rfl (lv_at hl 0 rfl) ?_
  refine va_get (D := (dC, dI)) (ci := 4) (v := .int v_first) (C := "LabelledCore$Line") (T := T_Li) (N := 4) hx hb hts in_Li hown hK hP 0 rfl rfl 2 (by decide) (hts _ wm_93) (fun _ h9 => h9) rfl d_Li_firstLabel_5 ?_
  have hPc := hP.sub (ws' := [(a_held, .inr (0, [.ref a_held_numbers, .ref a_held_labels])), (a_held_labels, .inl (cI, n, .inl g_held_labels))]) [1, 2] rfl
  refine W.callR ((W.runV (As := [.int v_first]) (rest := []) ⟨hx, hb, hml, hown, hts⟩ (ct_Ba_label l dC dI cI a_held a_held_numbers a_held_labels n g_held_labels v_first hs_8_0) (cwV 1 hts (gV wm_507 wm_491 wm_492 wm_37 wm_493) rfl rfl rfl (by decide +kernel) ⟨Nat.le_of_ble_eq_true rfl, Nat.le_of_ble_eq_true rfl⟩) ⟨pcR_blind, va_recv hK hPc (ci := 0) (q0 := 0) rfl rfl, pcR_pre hPc hK⟩ rfl rfl hl.1 rfl (lv_room (Nat.le_of_ble_eq_true rfl)) d_Li_firstLabel_8 ⟨Nat.le_of_ble_eq_true rfl, Nat.le_of_ble_eq_true rfl⟩)) ?_
  refine W.eq (g2 := F0 m 11 ls [.int (g_held_labels (Int32.toNatClampNeg v_first))]) rfl ?_
  exact W.iret (v := (g_held_labels (Int32.toNatClampNeg v_first))) hx hb hr (fun t ht hW => ⟨rfl, ht⟩) (fun _ h => by cases h) d_Li_firstLabel_11
set_option maxHeartbeats 4000000 in
set_option maxRecDepth 100000 in
theorem ct_Kc_forget (l : Launch) (dC : Nat → ClassId) (dI : Nat → Nat → Nat) (cI : ClassId) (sz : Nat) (h0 a_groups a_ps a_xs a_ys a_ms a_results a_nexts : Nat) (v_entries : Int32) (v_count : Int32) (v_oldest : Int32) : Met l y_Kc_forget w_Kc_forget ({ frames := 0, cells := 0, slots := 0, locals := 0 }) (pcW dC dI cI [(h0, .inr (3, [.ref a_groups, .ref a_ps, .ref a_xs, .ref a_ys, .ref a_ms, .ref a_results, .ref a_nexts, .int v_entries, .int v_count, .int v_oldest]))] sz [.ref h0]) (va_Qv (fun _ : Unit => True) (fun _ t => atW dC dI cI [(h0, .inr (3, [.ref a_groups, .ref a_ps, .ref a_xs, .ref a_ys, .ref a_ms, .ref a_results, .ref a_nexts, .int v_entries, .int 0, .int 0]))] (va_A [(h0, .inr (3, [.ref a_groups, .ref a_ps, .ref a_xs, .ref a_ys, .ref a_ms, .ref a_results, .ref a_nexts, .int v_entries, .int v_count, .int v_oldest]))] sz) t) (va_A [(h0, .inr (3, [.ref a_groups, .ref a_ps, .ref a_xs, .ref a_ys, .ref a_ms, .ref a_results, .ref a_nexts, .int v_entries, .int v_count, .int v_oldest]))] sz)) 0 0 (va_A [(h0, .inr (3, [.ref a_groups, .ref a_ps, .ref a_xs, .ref a_ys, .ref a_ms, .ref a_results, .ref a_nexts, .int v_entries, .int v_count, .int v_oldest]))] sz) := by
  refine Met.ofW (cc := c_Kc_forget) (maxL := 1) (ret := none) (by decide) rfl ?_
  intro p e s m args below meth c s₁ B hml hv
  obtain ⟨rfl, hsz, hP, hK, hD0⟩ := hv
  have hx := B.exec
  have hb := B.bytes
  have hr := B.returns
  have hts : ∀ w ∈ wG, w.before _ s = true := fun w h => atoms_spec (ws := w_Kc_forget) B.pre w (List.mem_cons_of_mem _ h)
  have hown : s.vm.findClass "LabelledCore$KeyCache" = some m.cls := findClass_of_methodNamed B.named
  have hlocks := B.notSynchronized
  subst hsz
  have hD := hD0.self (sz := s.heap.size)
  generalize hAe : va_A [(h0, .inr (3, [.ref a_groups, .ref a_ps, .ref a_xs, .ref a_ys, .ref a_ms, .ref a_results, .ref a_nexts, .int v_entries, .int v_count, .int v_oldest]))] s.heap.size = A at hD ⊢
  have hA : ∀ q : Nat, s.heap.size ≤ q → A q := fun q h => by rw [← hAe]; exact Or.inr h
  have hS : va_S A s.heap s.heap [] := va_S.rf
  have hP : va_P (dC, dI) clsL [(h0, .inr (3, [.ref a_groups, .ref a_ps, .ref a_xs, .ref a_ys, .ref a_ms, .ref a_results, .ref a_nexts, .int v_entries, .int v_count, .int v_oldest]))] s.heap := hP
  have hl := lv_entry ([.ref h0]) (n := 1) (Nat.le_of_ble_eq_true rfl)
  rw [lg_entry_eq]
  generalize (lg_sl ([.ref h0]) ++ List.replicate (1 - (lg_sl ([.ref h0])).length) Slot.unset).toArray = ls at hl ⊢
  have hl : lv_has ls 1 [(0, .ref h0)] := hl
  refine lv_aload_n hx hb d_Kc_forget_0 rfl (lv_at hl 0 rfl) ?_
  refine lv_iconst (v := 0) hx hb d_Kc_forget_1 (by decide) ?_
  refine va_put (D := (dC, dI)) (ci := 3) (v := .int 0) (ty := .int) (C := "LabelledCore$KeyCache") (T := T_Kc) (N := 10) hx hb hts in_Kc t_Kc ty_Kc nm_Kc hown hK hP hD hS 0 rfl rfl 8 (by decide) (hts _ wm_131) (fun _ h9 => h9) rfl (by decide +kernel) rfl rfl (Nat.le_of_ble_eq_true rfl) d_Kc_forget_2 (fun H locs hP hD hS => ?_)
  have hP : va_P (dC, dI) clsL [(h0, .inr (3, [.ref a_groups, .ref a_ps, .ref a_xs, .ref a_ys, .ref a_ms, .ref a_results, .ref a_nexts, .int v_entries, .int 0, .int v_oldest]))] H := hP
  have hD : va_D A [(h0, .inr (3, [.ref a_groups, .ref a_ps, .ref a_xs, .ref a_ys, .ref a_ms, .ref a_results, .ref a_nexts, .int v_entries, .int 0, .int v_oldest]))] := hD
  refine lv_aload_n hx hb d_Kc_forget_5 rfl (lv_at hl 0 rfl) ?_
  refine lv_iconst (v := 0) hx hb d_Kc_forget_6 (by decide) ?_
  refine va_put (D := (dC, dI)) (ci := 3) (v := .int 0) (ty := .int) (C := "LabelledCore$KeyCache") (T := T_Kc) (N := 10) hx hb hts in_Kc t_Kc ty_Kc nm_Kc hown hK hP hD hS 0 rfl rfl 9 (by decide) (hts _ wm_132) (fun _ h9 => h9) rfl (by decide +kernel) rfl rfl (Nat.le_of_ble_eq_true rfl) d_Kc_forget_7 (fun H locs hP hD hS => ?_)
  have hP : va_P (dC, dI) clsL [(h0, .inr (3, [.ref a_groups, .ref a_ps, .ref a_xs, .ref a_ys, .ref a_ms, .ref a_results, .ref a_nexts, .int v_entries, .int 0, .int 0]))] H := hP
  have hD : va_D A [(h0, .inr (3, [.ref a_groups, .ref a_ps, .ref a_xs, .ref a_ys, .ref a_ms, .ref a_results, .ref a_nexts, .int v_entries, .int 0, .int 0]))] := hD
  have hP9 := hP.sub (ws' := [(h0, .inr (3, [.ref a_groups, .ref a_ps, .ref a_xs, .ref a_ys, .ref a_ms, .ref a_results, .ref a_nexts, .int v_entries, .int 0, .int 0]))]) [0] rfl
  have hD9 := hD.sub (ws' := [(h0, .inr (3, [.ref a_groups, .ref a_ps, .ref a_xs, .ref a_ys, .ref a_ms, .ref a_results, .ref a_nexts, .int v_entries, .int 0, .int 0]))]) [0] (by decide) rfl
  exact W.vret hx hb hr (fun t ht hW => ⟨⟨(), rfl, trivial, by rw [ht]; exact hP9, va_K.moved hW.alike hK, hD9⟩, hS.F ht⟩) hS.2.2 d_Kc_forget_10
set_option maxHeartbeats 4000000 in
set_option maxRecDepth 100000 in
theorem ct_Kc_resize (l : Launch) (dC : Nat → ClassId) (dI : Nat → Nat → Nat) (cI : ClassId) (sz : Nat) (h0 a_groups a_ps a_xs a_ys a_ms a_results a_nexts : Nat) (v_entries : Int32) (v_count : Int32) (v_oldest : Int32) (x_p0 : Int32) : Met l y_Kc_resize w_Kc_resize ({ frames := 1, cells := 0, slots := 0, locals := 20 }) (pcW dC dI cI [(h0, .inr (3, [.ref a_groups, .ref a_ps, .ref a_xs, .ref a_ys, .ref a_ms, .ref a_results, .ref a_nexts, .int v_entries, .int v_count, .int v_oldest]))] sz [.ref h0, .int x_p0]) (va_Qi (fun (r : Int32) (_ : Unit) => r = v_entries) (fun _ t => atW dC dI cI [(h0, .inr (3, [.ref a_groups, .ref a_ps, .ref a_xs, .ref a_ys, .ref a_ms, .ref a_results, .ref a_nexts, .int x_p0, .int 0, .int 0]))] (va_A [(h0, .inr (3, [.ref a_groups, .ref a_ps, .ref a_xs, .ref a_ys, .ref a_ms, .ref a_results, .ref a_nexts, .int v_entries, .int v_count, .int v_oldest]))] sz) t) (va_A [(h0, .inr (3, [.ref a_groups, .ref a_ps, .ref a_xs, .ref a_ys, .ref a_ms, .ref a_results, .ref a_nexts, .int v_entries, .int v_count, .int v_oldest]))] sz)) 0 0 (va_A [(h0, .inr (3, [.ref a_groups, .ref a_ps, .ref a_xs, .ref a_ys, .ref a_ms, .ref a_results, .ref a_nexts, .int v_entries, .int v_count, .int v_oldest]))] sz) := by
  refine Met.ofW (cc := c_Kc_resize) (maxL := 3) (ret := (some .int)) (by decide) rfl ?_
  intro p e s m args below meth c s₁ B hml hv
  obtain ⟨rfl, hsz, hP, hK, hD0⟩ := hv
  have hx := B.exec
  have hb := B.bytes
  have hr := B.returns
  have hts : ∀ w ∈ wG, w.before _ s = true := fun w h => atoms_spec (ws := w_Kc_resize) B.pre w (List.mem_cons_of_mem _ h)
  have hown : s.vm.findClass "LabelledCore$KeyCache" = some m.cls := findClass_of_methodNamed B.named
  have hlocks := B.notSynchronized
  subst hsz
  have hD := hD0.self (sz := s.heap.size)
  generalize hAe : va_A [(h0, .inr (3, [.ref a_groups, .ref a_ps, .ref a_xs, .ref a_ys, .ref a_ms, .ref a_results, .ref a_nexts, .int v_entries, .int v_count, .int v_oldest]))] s.heap.size = A at hD ⊢
  have hA : ∀ q : Nat, s.heap.size ≤ q → A q := fun q h => by rw [← hAe]; exact Or.inr h
  have hS : va_S A s.heap s.heap [] := va_S.rf
  have hP : va_P (dC, dI) clsL [(h0, .inr (3, [.ref a_groups, .ref a_ps, .ref a_xs, .ref a_ys, .ref a_ms, .ref a_results, .ref a_nexts, .int v_entries, .int v_count, .int v_oldest]))] s.heap := hP
  have hl := lv_entry ([.ref h0, .int x_p0]) (n := 3) (Nat.le_of_ble_eq_true rfl)
  rw [lg_entry_eq]
  generalize (lg_sl ([.ref h0, .int x_p0]) ++ List.replicate (3 - (lg_sl ([.ref h0, .int x_p0])).length) Slot.unset).toArray = ls at hl ⊢
  have hl : lv_has ls 3 [(0, .ref h0), (1, .int x_p0)] := hl
  refine lv_aload_n hx hb d_Kc_resize_0 rfl (lv_at hl 0 rfl) ?_
  refine va_get (D := (dC, dI)) (ci := 3) (v := .int v_entries) (C := "LabelledCore$KeyCache") (T := T_Kc) (N := 10) hx hb hts in_Kc hown hK hP 0 rfl rfl 7 (by decide) (hts _ wm_130) (fun _ h9 => h9) rfl d_Kc_resize_1 ?_
  refine lv_istore_n (lv' := [(2, .int v_entries), (0, .ref h0), (1, .int x_p0)]) hx hb d_Kc_resize_4 rfl hl (by decide) rfl (fun ls hl => ?_)
  refine lv_aload_n hx hb d_Kc_resize_5 rfl (lv_at hl 1 rfl) ?_
  refine lv_iload_n hx hb d_Kc_resize_6 rfl (lv_at hl 2 rfl) ?_
  refine va_put (D := (dC, dI)) (ci := 3) (v := .int x_p0) (ty := .int) (C := "LabelledCore$KeyCache") (T := T_Kc) (N := 10) hx hb hts in_Kc t_Kc ty_Kc nm_Kc hown hK hP hD hS 0 rfl rfl 7 (by decide) (hts _ wm_130) (fun _ h9 => h9) rfl (by decide +kernel) rfl rfl (Nat.le_of_ble_eq_true rfl) d_Kc_resize_7 (fun H locs hP hD hS => ?_)
  have hP : va_P (dC, dI) clsL [(h0, .inr (3, [.ref a_groups, .ref a_ps, .ref a_xs, .ref a_ys, .ref a_ms, .ref a_results, .ref a_nexts, .int x_p0, .int v_count, .int v_oldest]))] H := hP
  have hD : va_D A [(h0, .inr (3, [.ref a_groups, .ref a_ps, .ref a_xs, .ref a_ys, .ref a_ms, .ref a_results, .ref a_nexts, .int x_p0, .int v_count, .int v_oldest]))] := hD
  refine lv_aload_n hx hb d_Kc_resize_10 rfl (lv_at hl 1 rfl) ?_
  have hPc := hP.sub (ws' := [(h0, .inr (3, [.ref a_groups, .ref a_ps, .ref a_xs, .ref a_ys, .ref a_ms, .ref a_results, .ref a_nexts, .int x_p0, .int v_count, .int v_oldest]))]) [0] rfl
  have hDc := hD.sub (ws' := [(h0, .inr (3, [.ref a_groups, .ref a_ps, .ref a_xs, .ref a_ys, .ref a_ms, .ref a_results, .ref a_nexts, .int x_p0, .int v_count, .int v_oldest]))]) [0] (by decide) rfl
  have hFc := va_free (wc := [(h0, .inr (3, [.ref a_groups, .ref a_ps, .ref a_xs, .ref a_ys, .ref a_ms, .ref a_results, .ref a_nexts, .int x_p0, .int v_count, .int v_oldest]))]) hD hS hA [0] rfl
  refine va_callv (va_runV (As := []) (rest := []) ⟨hx, hb, hml, hown, hts⟩ (ct_Kc_forget l dC dI cI H.size h0 a_groups a_ps a_xs a_ys a_ms a_results a_nexts x_p0 v_count v_oldest) (cwV 0 hts (gV wm_398 wm_275 wm_276 wm_40 wm_277) rfl rfl rfl (by decide +kernel) ⟨Nat.le_of_ble_eq_true rfl, Nat.le_of_ble_eq_true rfl⟩) ⟨pcW_blind, va_recv hK hPc (ci := 3) (q0 := 0) rfl rfl, pcW_pre hPc hK hDc⟩ rfl rfl hl.1 rfl (lv_room (Nat.le_of_ble_eq_true rfl)) d_Kc_resize_11 ⟨Nat.le_of_ble_eq_true rfl, Nat.le_of_ble_eq_true rfl⟩) hS (fun q _ h => hFc q h) hFc (fun u t H1 locs ht hvm hw hB hz1 hk1 hS => ?_)
  obtain ⟨hP1, -, hD1⟩ := hB
  rw [ht] at hP1
  obtain ⟨hP, hD⟩ := va_join (wr := []) (w1 := [(h0, .inr (3, [.ref a_groups, .ref a_ps, .ref a_xs, .ref a_ys, .ref a_ms, .ref a_results, .ref a_nexts, .int x_p0, .int 0, .int 0]))]) hP hD [0] [] rfl rfl (by decide) (by decide) hk1 hFc hP1 hD1
  clear hFc hDc hPc hP1 hD1 hk1 hz1 hvm ht
  generalize H1 = H at hP hS ⊢
  have hP : va_P (dC, dI) clsL [(h0, .inr (3, [.ref a_groups, .ref a_ps, .ref a_xs, .ref a_ys, .ref a_ms, .ref a_results, .ref a_nexts, .int x_p0, .int 0, .int 0]))] H := hP
  have hD : va_D A [(h0, .inr (3, [.ref a_groups, .ref a_ps, .ref a_xs, .ref a_ys, .ref a_ms, .ref a_results, .ref a_nexts, .int x_p0, .int 0, .int 0]))] := hD
  refine lv_iload_n hx hb d_Kc_resize_14 rfl (lv_at hl 0 rfl) ?_
  have hP9 := hP.sub (ws' := [(h0, .inr (3, [.ref a_groups, .ref a_ps, .ref a_xs, .ref a_ys, .ref a_ms, .ref a_results, .ref a_nexts, .int x_p0, .int 0, .int 0]))]) [0] rfl
  have hD9 := hD.sub (ws' := [(h0, .inr (3, [.ref a_groups, .ref a_ps, .ref a_xs, .ref a_ys, .ref a_ms, .ref a_results, .ref a_nexts, .int x_p0, .int 0, .int 0]))]) [0] (by decide) rfl
  exact W.iret (v := v_entries) hx hb hr (fun t ht hW => ⟨⟨v_entries, (), rfl, rfl, by rw [ht]; exact hP9, va_K.moved hW.alike hK, hD9⟩, hS.F ht⟩) hS.2.2 d_Kc_resize_15
set_option maxHeartbeats 4000000 in
set_option maxRecDepth 100000 in
theorem ct_Kc_size (l : Launch) (dC : Nat → ClassId) (dI : Nat → Nat → Nat) (cI : ClassId) (h0 a_groups a_ps a_xs a_ys a_ms a_results a_nexts : Nat) (v_entries : Int32) (v_count : Int32) (v_oldest : Int32) : Met l y_Kc_size w_Kc_size ({ frames := 0, cells := 0, slots := 0, locals := 0 }) (pcR dC dI cI [(h0, .inr (3, [.ref a_groups, .ref a_ps, .ref a_xs, .ref a_ys, .ref a_ms, .ref a_results, .ref a_nexts, .int v_entries, .int v_count, .int v_oldest]))] [.ref h0]) (QcRead v_count) 0 0 (fun _ => False) := by
  refine Met.ofW (cc := c_Kc_size) (maxL := 1) (ret := (some .int)) (by decide) rfl ?_
  intro p e s m args below meth c s₁ B hml hv
  obtain ⟨rfl, hP, hK⟩ := hv
  have hx := B.exec
  have hb := B.bytes
  have hr := B.returns
  have hts : ∀ w ∈ wG, w.before _ s = true := fun w h => atoms_spec (ws := w_Kc_size) B.pre w (List.mem_cons_of_mem _ h)
  have hown : s.vm.findClass "LabelledCore$KeyCache" = some m.cls := findClass_of_methodNamed B.named
  have hlocks := B.notSynchronized
  have hl := lv_entry ([.ref h0]) (n := 1) (Nat.le_of_ble_eq_true rfl)
  rw [lg_entry_eq]
  generalize (lg_sl ([.ref h0]) ++ List.replicate (1 - (lg_sl ([.ref h0])).length) Slot.unset).toArray = ls at hl ⊢
  have hl : lv_has ls 1 [(0, .ref h0)] := hl
  refine lv_aload_n hx hb d_Kc_size_0 rfl (lv_at hl 0 rfl) ?_
  refine va_get (D := (dC, dI)) (ci := 3) (v := .int v_count) (C := "LabelledCore$KeyCache") (T := T_Kc) (N := 10) hx hb hts in_Kc hown hK hP 0 rfl rfl 8 (by decide) (hts _ wm_131) (fun _ h9 => h9) rfl d_Kc_size_1 ?_
  exact W.iret (v := v_count) hx hb hr (fun t ht hW => ⟨rfl, ht⟩) (fun _ h => by cases h) d_Kc_size_4
def f_Kc_takePlace (v_entries : Int32) (v_count : Int32) (v_oldest : Int32) : Int32 × Int32 × Int32 :=
  if v_entries ≤ v_count then
    if (v_oldest + 1) < v_entries then
      (v_oldest, v_count, (v_oldest + 1))
    else
      (v_oldest, v_count, 0)
  else
    (((v_count + 1) - 1), (v_count + 1), v_oldest)
set_option maxHeartbeats 4000000 in
set_option maxRecDepth 100000 in
theorem ct_Kc_takePlace (l : Launch) (dC : Nat → ClassId) (dI : Nat → Nat → Nat) (cI : ClassId) (sz : Nat) (h0 a_groups a_ps a_xs a_ys a_ms a_results a_nexts : Nat) (v_entries : Int32) (v_count : Int32) (v_oldest : Int32) : Met l y_Kc_takePlace w_Kc_takePlace ({ frames := 0, cells := 0, slots := 0, locals := 0 }) (pcW dC dI cI [(h0, .inr (3, [.ref a_groups, .ref a_ps, .ref a_xs, .ref a_ys, .ref a_ms, .ref a_results, .ref a_nexts, .int v_entries, .int v_count, .int v_oldest]))] sz [.ref h0]) (va_Qi (fun (r : Int32) (_ : Unit) => r = (f_Kc_takePlace v_entries v_count v_oldest).1) (fun _ t => atW dC dI cI [(h0, .inr (3, [.ref a_groups, .ref a_ps, .ref a_xs, .ref a_ys, .ref a_ms, .ref a_results, .ref a_nexts, .int v_entries, .int ((f_Kc_takePlace v_entries v_count v_oldest).2.1), .int ((f_Kc_takePlace v_entries v_count v_oldest).2.2)]))] (va_A [(h0, .inr (3, [.ref a_groups, .ref a_ps, .ref a_xs, .ref a_ys, .ref a_ms, .ref a_results, .ref a_nexts, .int v_entries, .int v_count, .int v_oldest]))] sz) t) (va_A [(h0, .inr (3, [.ref a_groups, .ref a_ps, .ref a_xs, .ref a_ys, .ref a_ms, .ref a_results, .ref a_nexts, .int v_entries, .int v_count, .int v_oldest]))] sz)) 0 0 (va_A [(h0, .inr (3, [.ref a_groups, .ref a_ps, .ref a_xs, .ref a_ys, .ref a_ms, .ref a_results, .ref a_nexts, .int v_entries, .int v_count, .int v_oldest]))] sz) := by
  refine Met.ofW (cc := c_Kc_takePlace) (maxL := 2) (ret := (some .int)) (by decide) rfl ?_
  intro p e s m args below meth c s₁ B hml hv
  obtain ⟨rfl, hsz, hP, hK, hD0⟩ := hv
  have hx := B.exec
  have hb := B.bytes
  have hr := B.returns
  have hts : ∀ w ∈ wG, w.before _ s = true := fun w h => atoms_spec (ws := w_Kc_takePlace) B.pre w (List.mem_cons_of_mem _ h)
  have hown : s.vm.findClass "LabelledCore$KeyCache" = some m.cls := findClass_of_methodNamed B.named
  have hlocks := B.notSynchronized
  subst hsz
  have hD := hD0.self (sz := s.heap.size)
  generalize hAe : va_A [(h0, .inr (3, [.ref a_groups, .ref a_ps, .ref a_xs, .ref a_ys, .ref a_ms, .ref a_results, .ref a_nexts, .int v_entries, .int v_count, .int v_oldest]))] s.heap.size = A at hD ⊢
  have hA : ∀ q : Nat, s.heap.size ≤ q → A q := fun q h => by rw [← hAe]; exact Or.inr h
  have hS : va_S A s.heap s.heap [] := va_S.rf
  have hP : va_P (dC, dI) clsL [(h0, .inr (3, [.ref a_groups, .ref a_ps, .ref a_xs, .ref a_ys, .ref a_ms, .ref a_results, .ref a_nexts, .int v_entries, .int v_count, .int v_oldest]))] s.heap := hP
  have hl := lv_entry ([.ref h0]) (n := 2) (Nat.le_of_ble_eq_true rfl)
  rw [lg_entry_eq]
  generalize (lg_sl ([.ref h0]) ++ List.replicate (2 - (lg_sl ([.ref h0])).length) Slot.unset).toArray = ls at hl ⊢
  have hl : lv_has ls 2 [(0, .ref h0)] := hl
  refine lv_aload_n hx hb d_Kc_takePlace_0 rfl (lv_at hl 0 rfl) ?_
  refine va_get (D := (dC, dI)) (ci := 3) (v := .int v_count) (C := "LabelledCore$KeyCache") (T := T_Kc) (N := 10) hx hb hts in_Kc hown hK hP 0 rfl rfl 8 (by decide) (hts _ wm_131) (fun _ h9 => h9) rfl d_Kc_takePlace_1 ?_
  refine lv_aload_n hx hb d_Kc_takePlace_4 rfl (lv_at hl 0 rfl) ?_
  refine va_get (D := (dC, dI)) (ci := 3) (v := .int v_entries) (C := "LabelledCore$KeyCache") (T := T_Kc) (N := 10) hx hb hts in_Kc hown hK hP 0 rfl rfl 7 (by decide) (hts _ wm_130) (fun _ h9 => h9) rfl d_Kc_takePlace_5 ?_
  refine lv_icmp_ge (tgt := 28) hx hb d_Kc_takePlace_8 (by decide) (fun c_1 => ?_) (fun c_1 => ?_)
  · refine lv_aload_n hx hb d_Kc_takePlace_28 rfl (lv_at hl 0 rfl) ?_
    refine va_get (D := (dC, dI)) (ci := 3) (v := .int v_oldest) (C := "LabelledCore$KeyCache") (T := T_Kc) (N := 10) hx hb hts in_Kc hown hK hP 0 rfl rfl 9 (by decide) (hts _ wm_132) (fun _ h9 => h9) rfl d_Kc_takePlace_29 ?_
    refine lv_istore_n (lv' := [(1, .int v_oldest), (0, .ref h0)]) hx hb d_Kc_takePlace_32 rfl hl (by decide) rfl (fun ls hl => ?_)
    refine lv_aload_n hx hb d_Kc_takePlace_33 rfl (lv_at hl 1 rfl) ?_
    refine lv_iload_n hx hb d_Kc_takePlace_34 rfl (lv_at hl 0 rfl) ?_
    refine lv_iconst (v := 1) hx hb d_Kc_takePlace_35 (by decide) ?_
    refine lv_iadd hx hb d_Kc_takePlace_36 ?_
    refine lv_aload_n hx hb d_Kc_takePlace_37 rfl (lv_at hl 1 rfl) ?_
    refine va_get (D := (dC, dI)) (ci := 3) (v := .int v_entries) (C := "LabelledCore$KeyCache") (T := T_Kc) (N := 10) hx hb hts in_Kc hown hK hP 0 rfl rfl 7 (by decide) (hts _ wm_130) (fun _ h9 => h9) rfl d_Kc_takePlace_38 ?_
    refine lv_icmp_lt (tgt := 48) hx hb d_Kc_takePlace_41 (by decide) (fun c_2 => ?_) (fun c_2 => ?_)
    · refine lv_iload_n hx hb d_Kc_takePlace_48 rfl (lv_at hl 0 rfl) ?_
      refine lv_iconst (v := 1) hx hb d_Kc_takePlace_49 (by decide) ?_
      refine lv_iadd hx hb d_Kc_takePlace_50 ?_
      refine va_put (D := (dC, dI)) (ci := 3) (v := .int (v_oldest + 1)) (ty := .int) (C := "LabelledCore$KeyCache") (T := T_Kc) (N := 10) hx hb hts in_Kc t_Kc ty_Kc nm_Kc hown hK hP hD hS 0 rfl rfl 9 (by decide) (hts _ wm_132) (fun _ h9 => h9) rfl (by decide +kernel) rfl rfl (Nat.le_of_ble_eq_true rfl) d_Kc_takePlace_51 (fun H locs hP hD hS => ?_)
      have hP : va_P (dC, dI) clsL [(h0, .inr (3, [.ref a_groups, .ref a_ps, .ref a_xs, .ref a_ys, .ref a_ms, .ref a_results, .ref a_nexts, .int v_entries, .int v_count, .int (v_oldest + 1)]))] H := hP
      have hD : va_D A [(h0, .inr (3, [.ref a_groups, .ref a_ps, .ref a_xs, .ref a_ys, .ref a_ms, .ref a_results, .ref a_nexts, .int v_entries, .int v_count, .int (v_oldest + 1)]))] := hD
      refine lv_iload_n hx hb d_Kc_takePlace_54 rfl (lv_at hl 0 rfl) ?_
      have ef : (f_Kc_takePlace v_entries v_count v_oldest) = ((v_oldest, v_count, (v_oldest + 1)) : Int32 × Int32 × Int32) := (if_pos c_1).trans ((if_pos c_2).trans rfl)
      have hP9 := hP.sub (ws' := [(h0, .inr (3, [.ref a_groups, .ref a_ps, .ref a_xs, .ref a_ys, .ref a_ms, .ref a_results, .ref a_nexts, .int v_entries, .int v_count, .int (v_oldest + 1)]))]) [0] rfl
      have hD9 := hD.sub (ws' := [(h0, .inr (3, [.ref a_groups, .ref a_ps, .ref a_xs, .ref a_ys, .ref a_ms, .ref a_results, .ref a_nexts, .int v_entries, .int v_count, .int (v_oldest + 1)]))]) [0] (by decide) rfl
      exact W.iret (v := v_oldest) hx hb hr (fun t ht hW => ⟨⟨v_oldest, (), rfl, by rw [ef], by rw [ef, ht]; exact hP9, va_K.moved hW.alike hK, by rw [ef]; exact hD9⟩, hS.F ht⟩) hS.2.2 d_Kc_takePlace_55
    · refine lv_iconst (v := 0) hx hb d_Kc_takePlace_44 (by decide) ?_
      refine lv_goto (tgt := 51) hx hb d_Kc_takePlace_45 (by decide) ?_
      refine va_put (D := (dC, dI)) (ci := 3) (v := .int 0) (ty := .int) (C := "LabelledCore$KeyCache") (T := T_Kc) (N := 10) hx hb hts in_Kc t_Kc ty_Kc nm_Kc hown hK hP hD hS 0 rfl rfl 9 (by decide) (hts _ wm_132) (fun _ h9 => h9) rfl (by decide +kernel) rfl rfl (Nat.le_of_ble_eq_true rfl) d_Kc_takePlace_51 (fun H locs hP hD hS => ?_)
      have hP : va_P (dC, dI) clsL [(h0, .inr (3, [.ref a_groups, .ref a_ps, .ref a_xs, .ref a_ys, .ref a_ms, .ref a_results, .ref a_nexts, .int v_entries, .int v_count, .int 0]))] H := hP
      have hD : va_D A [(h0, .inr (3, [.ref a_groups, .ref a_ps, .ref a_xs, .ref a_ys, .ref a_ms, .ref a_results, .ref a_nexts, .int v_entries, .int v_count, .int 0]))] := hD
      refine lv_iload_n hx hb d_Kc_takePlace_54 rfl (lv_at hl 0 rfl) ?_
      have ef : (f_Kc_takePlace v_entries v_count v_oldest) = ((v_oldest, v_count, 0) : Int32 × Int32 × Int32) := (if_pos c_1).trans ((if_neg c_2).trans rfl)
      have hP9 := hP.sub (ws' := [(h0, .inr (3, [.ref a_groups, .ref a_ps, .ref a_xs, .ref a_ys, .ref a_ms, .ref a_results, .ref a_nexts, .int v_entries, .int v_count, .int 0]))]) [0] rfl
      have hD9 := hD.sub (ws' := [(h0, .inr (3, [.ref a_groups, .ref a_ps, .ref a_xs, .ref a_ys, .ref a_ms, .ref a_results, .ref a_nexts, .int v_entries, .int v_count, .int 0]))]) [0] (by decide) rfl
      exact W.iret (v := v_oldest) hx hb hr (fun t ht hW => ⟨⟨v_oldest, (), rfl, by rw [ef], by rw [ef, ht]; exact hP9, va_K.moved hW.alike hK, by rw [ef]; exact hD9⟩, hS.F ht⟩) hS.2.2 d_Kc_takePlace_55
  · refine lv_aload_n hx hb d_Kc_takePlace_11 rfl (lv_at hl 0 rfl) ?_
    refine lv_dup hx hb d_Kc_takePlace_12 rfl ?_
    refine va_get (D := (dC, dI)) (ci := 3) (v := .int v_count) (C := "LabelledCore$KeyCache") (T := T_Kc) (N := 10) hx hb hts in_Kc hown hK hP 0 rfl rfl 8 (by decide) (hts _ wm_131) (fun _ h9 => h9) rfl d_Kc_takePlace_13 ?_
    refine lv_iconst (v := 1) hx hb d_Kc_takePlace_16 (by decide) ?_
    refine lv_iadd hx hb d_Kc_takePlace_17 ?_
    refine va_put (D := (dC, dI)) (ci := 3) (v := .int (v_count + 1)) (ty := .int) (C := "LabelledCore$KeyCache") (T := T_Kc) (N := 10) hx hb hts in_Kc t_Kc ty_Kc nm_Kc hown hK hP hD hS 0 rfl rfl 8 (by decide) (hts _ wm_131) (fun _ h9 => h9) rfl (by decide +kernel) rfl rfl (Nat.le_of_ble_eq_true rfl) d_Kc_takePlace_18 (fun H locs hP hD hS => ?_)
    have hP : va_P (dC, dI) clsL [(h0, .inr (3, [.ref a_groups, .ref a_ps, .ref a_xs, .ref a_ys, .ref a_ms, .ref a_results, .ref a_nexts, .int v_entries, .int (v_count + 1), .int v_oldest]))] H := hP
    have hD : va_D A [(h0, .inr (3, [.ref a_groups, .ref a_ps, .ref a_xs, .ref a_ys, .ref a_ms, .ref a_results, .ref a_nexts, .int v_entries, .int (v_count + 1), .int v_oldest]))] := hD
    refine lv_aload_n hx hb d_Kc_takePlace_21 rfl (lv_at hl 0 rfl) ?_
    refine va_get (D := (dC, dI)) (ci := 3) (v := .int (v_count + 1)) (C := "LabelledCore$KeyCache") (T := T_Kc) (N := 10) hx hb hts in_Kc hown hK hP 0 rfl rfl 8 (by decide) (hts _ wm_131) (fun _ h9 => h9) rfl d_Kc_takePlace_22 ?_
    refine lv_iconst (v := 1) hx hb d_Kc_takePlace_25 (by decide) ?_
    refine lv_isub hx hb d_Kc_takePlace_26 ?_
    have ef : (f_Kc_takePlace v_entries v_count v_oldest) = ((((v_count + 1) - 1), (v_count + 1), v_oldest) : Int32 × Int32 × Int32) := (if_neg c_1).trans rfl
    have hP9 := hP.sub (ws' := [(h0, .inr (3, [.ref a_groups, .ref a_ps, .ref a_xs, .ref a_ys, .ref a_ms, .ref a_results, .ref a_nexts, .int v_entries, .int (v_count + 1), .int v_oldest]))]) [0] rfl
    have hD9 := hD.sub (ws' := [(h0, .inr (3, [.ref a_groups, .ref a_ps, .ref a_xs, .ref a_ys, .ref a_ms, .ref a_results, .ref a_nexts, .int v_entries, .int (v_count + 1), .int v_oldest]))]) [0] (by decide) rfl
    exact W.iret (v := ((v_count + 1) - 1)) hx hb hr (fun t ht hW => ⟨⟨((v_count + 1) - 1), (), rfl, by rw [ef], by rw [ef, ht]; exact hP9, va_K.moved hW.alike hK, by rw [ef]; exact hD9⟩, hS.F ht⟩) hS.2.2 d_Kc_takePlace_27
set_option maxHeartbeats 4000000 in
set_option maxRecDepth 100000 in
theorem ct_Kc_resultOf (l : Launch) (dC : Nat → ClassId) (dI : Nat → Nat → Nat) (cI : ClassId) (h0 a_groups a_ps a_xs a_ys a_ms a_results a_nexts : Nat) (v_entries : Int32) (v_count : Int32) (v_oldest : Int32) (g_results : Nat → Int32) (x_p0 : Int32) (hs_5_0 : vp_in x_p0 64) : Met l y_Kc_resultOf w_Kc_resultOf ({ frames := 0, cells := 0, slots := 0, locals := 0 }) (pcR dC dI cI [(h0, .inr (3, [.ref a_groups, .ref a_ps, .ref a_xs, .ref a_ys, .ref a_ms, .ref a_results, .ref a_nexts, .int v_entries, .int v_count, .int v_oldest])), (a_results, .inl (cI, 64, .inl g_results))] [.ref h0, .int x_p0]) (QcRead (g_results (Int32.toNatClampNeg x_p0))) 0 0 (fun _ => False) := by
  refine Met.ofW (cc := c_Kc_resultOf) (maxL := 2) (ret := (some .int)) (by decide) rfl ?_
  intro p e s m args below meth c s₁ B hml hv
  obtain ⟨rfl, hP, hK⟩ := hv
  have hx := B.exec
  have hb := B.bytes
  have hr := B.returns
  have hts : ∀ w ∈ wG, w.before _ s = true := fun w h => atoms_spec (ws := w_Kc_resultOf) B.pre w (List.mem_cons_of_mem _ h)
  have hown : s.vm.findClass "LabelledCore$KeyCache" = some m.cls := findClass_of_methodNamed B.named
  have hlocks := B.notSynchronized
  have hl := lv_entry ([.ref h0, .int x_p0]) (n := 2) (Nat.le_of_ble_eq_true rfl)
  rw [lg_entry_eq]
  generalize (lg_sl ([.ref h0, .int x_p0]) ++ List.replicate (2 - (lg_sl ([.ref h0, .int x_p0])).length) Slot.unset).toArray = ls at hl ⊢
  have hl : lv_has ls 2 [(0, .ref h0), (1, .int x_p0)] := hl
  refine lv_aload_n hx hb d_Kc_resultOf_0 rfl (lv_at hl 0 rfl) ?_
  refine va_get (D := (dC, dI)) (ci := 3) (v := .ref a_results) (C := "LabelledCore$KeyCache") (T := T_Kc) (N := 10) hx hb hts in_Kc hown hK hP 0 rfl rfl 5 (by decide) (hts _ wm_128) (fun _ h9 => h9) rfl d_Kc_resultOf_1 ?_
  refine lv_iload_n hx hb d_Kc_resultOf_4 rfl (lv_at hl 1 rfl) ?_
  refine va_iald hx hb hK hP 1 0 rfl rfl hs_5_0 d_Kc_resultOf_5 ?_
  exact W.iret (v := (g_results (Int32.toNatClampNeg x_p0))) hx hb hr (fun t ht hW => ⟨rfl, ht⟩) (fun _ h => by cases h) d_Kc_resultOf_6
set_option maxHeartbeats 4000000 in
set_option maxRecDepth 100000 in
theorem ct_Kc_nextOf (l : Launch) (dC : Nat → ClassId) (dI : Nat → Nat → Nat) (cI : ClassId) (h0 a_groups a_ps a_xs a_ys a_ms a_results a_nexts : Nat) (v_entries : Int32) (v_count : Int32) (v_oldest : Int32) (g_nexts : Nat → Int32) (x_p0 : Int32) (hs_5_0 : vp_in x_p0 64) : Met l y_Kc_nextOf w_Kc_nextOf ({ frames := 0, cells := 0, slots := 0, locals := 0 }) (pcR dC dI cI [(h0, .inr (3, [.ref a_groups, .ref a_ps, .ref a_xs, .ref a_ys, .ref a_ms, .ref a_results, .ref a_nexts, .int v_entries, .int v_count, .int v_oldest])), (a_nexts, .inl (cI, 64, .inl g_nexts))] [.ref h0, .int x_p0]) (QcRead (g_nexts (Int32.toNatClampNeg x_p0))) 0 0 (fun _ => False) := by
  refine Met.ofW (cc := c_Kc_nextOf) (maxL := 2) (ret := (some .int)) (by decide) rfl ?_
  intro p e s m args below meth c s₁ B hml hv
  obtain ⟨rfl, hP, hK⟩ := hv
  have hx := B.exec
  have hb := B.bytes
  have hr := B.returns
  have hts : ∀ w ∈ wG, w.before _ s = true := fun w h => atoms_spec (ws := w_Kc_nextOf) B.pre w (List.mem_cons_of_mem _ h)
  have hown : s.vm.findClass "LabelledCore$KeyCache" = some m.cls := findClass_of_methodNamed B.named
  have hlocks := B.notSynchronized
  have hl := lv_entry ([.ref h0, .int x_p0]) (n := 2) (Nat.le_of_ble_eq_true rfl)
  rw [lg_entry_eq]
  generalize (lg_sl ([.ref h0, .int x_p0]) ++ List.replicate (2 - (lg_sl ([.ref h0, .int x_p0])).length) Slot.unset).toArray = ls at hl ⊢
  have hl : lv_has ls 2 [(0, .ref h0), (1, .int x_p0)] := hl
  refine lv_aload_n hx hb d_Kc_nextOf_0 rfl (lv_at hl 0 rfl) ?_
  refine va_get (D := (dC, dI)) (ci := 3) (v := .ref a_nexts) (C := "LabelledCore$KeyCache") (T := T_Kc) (N := 10) hx hb hts in_Kc hown hK hP 0 rfl rfl 6 (by decide) (hts _ wm_129) (fun _ h9 => h9) rfl d_Kc_nextOf_1 ?_
  refine lv_iload_n hx hb d_Kc_nextOf_4 rfl (lv_at hl 1 rfl) ?_
  refine va_iald hx hb hK hP 1 0 rfl rfl hs_5_0 d_Kc_nextOf_5 ?_
  exact W.iret (v := (g_nexts (Int32.toNatClampNeg x_p0))) hx hb hr (fun t ht hW => ⟨rfl, ht⟩) (fun _ h => by cases h) d_Kc_nextOf_6
def f_Kc_install (v_entries : Int32) (v_count : Int32) (v_oldest : Int32) (v_p0_group : Int32) (g_groups : Nat → Int32) (g_results : Nat → Int32) (x_p1 : Int32) : (Nat → Int32) × (Nat → Int32) :=
  ((upd g_groups (Int32.toNatClampNeg ((f_Kc_takePlace v_entries v_count v_oldest).1)) v_p0_group), (upd g_results (Int32.toNatClampNeg ((f_Kc_takePlace v_entries v_count v_oldest).1)) x_p1))
set_option maxHeartbeats 4000000 in
set_option maxRecDepth 100000 in
theorem ct_Kc_install (l : Launch) (dC : Nat → ClassId) (dI : Nat → Nat → Nat) (cI : ClassId) (sz : Nat) (h0 a_groups a_ps a_xs a_ys a_ms a_results a_nexts h_p0 : Nat) (v_entries : Int32) (v_count : Int32) (v_oldest : Int32) (v_p0_group : Int32) (v_p0_p : Int32) (v_p0_x : Int32) (v_p0_y : Int32) (v_p0_m : Int32) (g_groups : Nat → Int32) (g_ps : Nat → Int32) (g_xs : Nat → Int32) (g_ys : Nat → Int32) (g_ms : Nat → Int32) (g_results : Nat → Int32) (g_nexts : Nat → Int32) (x_p1 : Int32) (x_p2 : Int32) (hs_16_0 : vp_in ((f_Kc_takePlace v_entries v_count v_oldest).1) 64) : Met l y_Kc_install w_Kc_install ({ frames := 1, cells := 0, slots := 0, locals := 21 }) (pcW dC dI cI [(h0, .inr (3, [.ref a_groups, .ref a_ps, .ref a_xs, .ref a_ys, .ref a_ms, .ref a_results, .ref a_nexts, .int v_entries, .int v_count, .int v_oldest])), (h_p0, .inr (2, [.int v_p0_group, .int v_p0_p, .int v_p0_x, .int v_p0_y, .int v_p0_m])), (a_groups, .inl (cI, 64, .inl g_groups)), (a_ps, .inl (cI, 64, .inl g_ps)), (a_xs, .inl (cI, 64, .inl g_xs)), (a_ys, .inl (cI, 64, .inl g_ys)), (a_ms, .inl (cI, 64, .inl g_ms)), (a_results, .inl (cI, 64, .inl g_results)), (a_nexts, .inl (cI, 64, .inl g_nexts))] sz [.ref h0, .ref h_p0, .int x_p1, .int x_p2]) (va_Qv (fun _ : Unit => True) (fun _ t => atW dC dI cI [(h0, .inr (3, [.ref a_groups, .ref a_ps, .ref a_xs, .ref a_ys, .ref a_ms, .ref a_results, .ref a_nexts, .int v_entries, .int ((f_Kc_takePlace v_entries v_count v_oldest).2.1), .int ((f_Kc_takePlace v_entries v_count v_oldest).2.2)])), (h_p0, .inr (2, [.int v_p0_group, .int v_p0_p, .int v_p0_x, .int v_p0_y, .int v_p0_m])), (a_groups, .inl (cI, 64, .inl ((f_Kc_install v_entries v_count v_oldest v_p0_group g_groups g_results x_p1).1))), (a_ps, .inl (cI, 64, .inl (upd g_ps (Int32.toNatClampNeg ((f_Kc_takePlace v_entries v_count v_oldest).1)) v_p0_p))), (a_xs, .inl (cI, 64, .inl (upd g_xs (Int32.toNatClampNeg ((f_Kc_takePlace v_entries v_count v_oldest).1)) v_p0_x))), (a_ys, .inl (cI, 64, .inl (upd g_ys (Int32.toNatClampNeg ((f_Kc_takePlace v_entries v_count v_oldest).1)) v_p0_y))), (a_ms, .inl (cI, 64, .inl (upd g_ms (Int32.toNatClampNeg ((f_Kc_takePlace v_entries v_count v_oldest).1)) v_p0_m))), (a_results, .inl (cI, 64, .inl ((f_Kc_install v_entries v_count v_oldest v_p0_group g_groups g_results x_p1).2))), (a_nexts, .inl (cI, 64, .inl (upd g_nexts (Int32.toNatClampNeg ((f_Kc_takePlace v_entries v_count v_oldest).1)) x_p2)))] (va_A [(h0, .inr (3, [.ref a_groups, .ref a_ps, .ref a_xs, .ref a_ys, .ref a_ms, .ref a_results, .ref a_nexts, .int v_entries, .int v_count, .int v_oldest])), (h_p0, .inr (2, [.int v_p0_group, .int v_p0_p, .int v_p0_x, .int v_p0_y, .int v_p0_m])), (a_groups, .inl (cI, 64, .inl g_groups)), (a_ps, .inl (cI, 64, .inl g_ps)), (a_xs, .inl (cI, 64, .inl g_xs)), (a_ys, .inl (cI, 64, .inl g_ys)), (a_ms, .inl (cI, 64, .inl g_ms)), (a_results, .inl (cI, 64, .inl g_results)), (a_nexts, .inl (cI, 64, .inl g_nexts))] sz) t) (va_A [(h0, .inr (3, [.ref a_groups, .ref a_ps, .ref a_xs, .ref a_ys, .ref a_ms, .ref a_results, .ref a_nexts, .int v_entries, .int v_count, .int v_oldest])), (h_p0, .inr (2, [.int v_p0_group, .int v_p0_p, .int v_p0_x, .int v_p0_y, .int v_p0_m])), (a_groups, .inl (cI, 64, .inl g_groups)), (a_ps, .inl (cI, 64, .inl g_ps)), (a_xs, .inl (cI, 64, .inl g_xs)), (a_ys, .inl (cI, 64, .inl g_ys)), (a_ms, .inl (cI, 64, .inl g_ms)), (a_results, .inl (cI, 64, .inl g_results)), (a_nexts, .inl (cI, 64, .inl g_nexts))] sz)) 0 0 (va_A [(h0, .inr (3, [.ref a_groups, .ref a_ps, .ref a_xs, .ref a_ys, .ref a_ms, .ref a_results, .ref a_nexts, .int v_entries, .int v_count, .int v_oldest])), (h_p0, .inr (2, [.int v_p0_group, .int v_p0_p, .int v_p0_x, .int v_p0_y, .int v_p0_m])), (a_groups, .inl (cI, 64, .inl g_groups)), (a_ps, .inl (cI, 64, .inl g_ps)), (a_xs, .inl (cI, 64, .inl g_xs)), (a_ys, .inl (cI, 64, .inl g_ys)), (a_ms, .inl (cI, 64, .inl g_ms)), (a_results, .inl (cI, 64, .inl g_results)), (a_nexts, .inl (cI, 64, .inl g_nexts))] sz) := by
  refine Met.ofW (cc := c_Kc_install) (maxL := 5) (ret := none) (by decide) rfl ?_
  intro p e s m args below meth c s₁ B hml hv
  obtain ⟨rfl, hsz, hP, hK, hD0⟩ := hv
  have hx := B.exec
  have hb := B.bytes
  have hr := B.returns
  have hts : ∀ w ∈ wG, w.before _ s = true := fun w h => atoms_spec (ws := w_Kc_install) B.pre w (List.mem_cons_of_mem _ h)
  have hown : s.vm.findClass "LabelledCore$KeyCache" = some m.cls := findClass_of_methodNamed B.named
  have hlocks := B.notSynchronized
  subst hsz
  have hD := hD0.self (sz := s.heap.size)
  generalize hAe : va_A [(h0, .inr (3, [.ref a_groups, .ref a_ps, .ref a_xs, .ref a_ys, .ref a_ms, .ref a_results, .ref a_nexts, .int v_entries, .int v_count, .int v_oldest])), (h_p0, .inr (2, [.int v_p0_group, .int v_p0_p, .int v_p0_x, .int v_p0_y, .int v_p0_m])), (a_groups, .inl (cI, 64, .inl g_groups)), (a_ps, .inl (cI, 64, .inl g_ps)), (a_xs, .inl (cI, 64, .inl g_xs)), (a_ys, .inl (cI, 64, .inl g_ys)), (a_ms, .inl (cI, 64, .inl g_ms)), (a_results, .inl (cI, 64, .inl g_results)), (a_nexts, .inl (cI, 64, .inl g_nexts))] s.heap.size = A at hD ⊢
  have hA : ∀ q : Nat, s.heap.size ≤ q → A q := fun q h => by rw [← hAe]; exact Or.inr h
  have hS : va_S A s.heap s.heap [] := va_S.rf
  have hP : va_P (dC, dI) clsL [(h0, .inr (3, [.ref a_groups, .ref a_ps, .ref a_xs, .ref a_ys, .ref a_ms, .ref a_results, .ref a_nexts, .int v_entries, .int v_count, .int v_oldest])), (h_p0, .inr (2, [.int v_p0_group, .int v_p0_p, .int v_p0_x, .int v_p0_y, .int v_p0_m])), (a_groups, .inl (cI, 64, .inl g_groups)), (a_ps, .inl (cI, 64, .inl g_ps)), (a_xs, .inl (cI, 64, .inl g_xs)), (a_ys, .inl (cI, 64, .inl g_ys)), (a_ms, .inl (cI, 64, .inl g_ms)), (a_results, .inl (cI, 64, .inl g_results)), (a_nexts, .inl (cI, 64, .inl g_nexts))] s.heap := hP
  have hl := lv_entry ([.ref h0, .ref h_p0, .int x_p1, .int x_p2]) (n := 5) (Nat.le_of_ble_eq_true rfl)
  rw [lg_entry_eq]
  generalize (lg_sl ([.ref h0, .ref h_p0, .int x_p1, .int x_p2]) ++ List.replicate (5 - (lg_sl ([.ref h0, .ref h_p0, .int x_p1, .int x_p2])).length) Slot.unset).toArray = ls at hl ⊢
  have hl : lv_has ls 5 [(0, .ref h0), (1, .ref h_p0), (2, .int x_p1), (3, .int x_p2)] := hl
  refine lv_aload_n hx hb d_Kc_install_0 rfl (lv_at hl 0 rfl) ?_
  have hPc := hP.sub (ws' := [(h0, .inr (3, [.ref a_groups, .ref a_ps, .ref a_xs, .ref a_ys, .ref a_ms, .ref a_results, .ref a_nexts, .int v_entries, .int v_count, .int v_oldest]))]) [0] rfl
  have hDc := hD.sub (ws' := [(h0, .inr (3, [.ref a_groups, .ref a_ps, .ref a_xs, .ref a_ys, .ref a_ms, .ref a_results, .ref a_nexts, .int v_entries, .int v_count, .int v_oldest]))]) [0] (by decide) rfl
  have hFc := va_free (wc := [(h0, .inr (3, [.ref a_groups, .ref a_ps, .ref a_xs, .ref a_ys, .ref a_ms, .ref a_results, .ref a_nexts, .int v_entries, .int v_count, .int v_oldest]))]) hD hS hA [0] rfl
  refine va_calli (va_runV (As := []) (rest := []) ⟨hx, hb, hml, hown, hts⟩ (ct_Kc_takePlace l dC dI cI s.heap.size h0 a_groups a_ps a_xs a_ys a_ms a_results a_nexts v_entries v_count v_oldest) (cwV 0 hts (gV wm_818 wm_820 wm_13 wm_40 wm_821) rfl rfl rfl (by decide +kernel) ⟨Nat.le_of_ble_eq_true rfl, Nat.le_of_ble_eq_true rfl⟩) ⟨pcW_blind, va_recv hK hPc (ci := 3) (q0 := 0) rfl rfl, pcW_pre hPc hK hDc⟩ rfl rfl hl.1 rfl (lv_room (Nat.le_of_ble_eq_true rfl)) d_Kc_install_1 ⟨Nat.le_of_ble_eq_true rfl, Nat.le_of_ble_eq_true rfl⟩) hS (fun q _ h => hFc q h) hFc (fun r_1 u t H1 locs ht hvm hw hB hz1 hk1 hS => ?_)
  have hw : r_1 = (f_Kc_takePlace v_entries v_count v_oldest).1 := hw
  subst hw
  obtain ⟨hP1, -, hD1⟩ := hB
  rw [ht] at hP1
  obtain ⟨hP, hD⟩ := va_join (wr := [(h_p0, .inr (2, [.int v_p0_group, .int v_p0_p, .int v_p0_x, .int v_p0_y, .int v_p0_m])), (a_groups, .inl (cI, 64, .inl g_groups)), (a_ps, .inl (cI, 64, .inl g_ps)), (a_xs, .inl (cI, 64, .inl g_xs)), (a_ys, .inl (cI, 64, .inl g_ys)), (a_ms, .inl (cI, 64, .inl g_ms)), (a_results, .inl (cI, 64, .inl g_results)), (a_nexts, .inl (cI, 64, .inl g_nexts))]) (w1 := [(h0, .inr (3, [.ref a_groups, .ref a_ps, .ref a_xs, .ref a_ys, .ref a_ms, .ref a_results, .ref a_nexts, .int v_entries, .int ((f_Kc_takePlace v_entries v_count v_oldest).2.1), .int ((f_Kc_takePlace v_entries v_count v_oldest).2.2)]))]) hP hD [0] [1, 2, 3, 4, 5, 6, 7, 8] rfl rfl (by decide) (by decide) hk1 hFc hP1 hD1
  clear hFc hDc hPc hP1 hD1 hk1 hz1 hvm ht
  generalize H1 = H at hP hS ⊢
  have hP : va_P (dC, dI) clsL [(h_p0, .inr (2, [.int v_p0_group, .int v_p0_p, .int v_p0_x, .int v_p0_y, .int v_p0_m])), (a_groups, .inl (cI, 64, .inl g_groups)), (a_ps, .inl (cI, 64, .inl g_ps)), (a_xs, .inl (cI, 64, .inl g_xs)), (a_ys, .inl (cI, 64, .inl g_ys)), (a_ms, .inl (cI, 64, .inl g_ms)), (a_results, .inl (cI, 64, .inl g_results)), (a_nexts, .inl (cI, 64, .inl g_nexts)), (h0, .inr (3, [.ref a_groups, .ref a_ps, .ref a_xs, .ref a_ys, .ref a_ms, .ref a_results, .ref a_nexts, .int v_entries, .int ((f_Kc_takePlace v_entries v_count v_oldest).2.1), .int ((f_Kc_takePlace v_entries v_count v_oldest).2.2)]))] H := hP
  have hD : va_D A [(h_p0, .inr (2, [.int v_p0_group, .int v_p0_p, .int v_p0_x, .int v_p0_y, .int v_p0_m])), (a_groups, .inl (cI, 64, .inl g_groups)), (a_ps, .inl (cI, 64, .inl g_ps)), (a_xs, .inl (cI, 64, .inl g_xs)), (a_ys, .inl (cI, 64, .inl g_ys)), (a_ms, .inl (cI, 64, .inl g_ms)), (a_results, .inl (cI, 64, .inl g_results)), (a_nexts, .inl (cI, 64, .inl g_nexts)), (h0, .inr (3, [.ref a_groups, .ref a_ps, .ref a_xs, .ref a_ys, .ref a_ms, .ref a_results, .ref a_nexts, .int v_entries, .int ((f_Kc_takePlace v_entries v_count v_oldest).2.1), .int ((f_Kc_takePlace v_entries v_count v_oldest).2.2)]))] := hD
  refine lv_istore (lv' := [(4, .int ((f_Kc_takePlace v_entries v_count v_oldest).1)), (0, .ref h0), (1, .ref h_p0), (2, .int x_p1), (3, .int x_p2)]) hx hb d_Kc_install_4 hl (by decide) rfl (fun ls hl => ?_)
  refine lv_aload_n hx hb d_Kc_install_6 rfl (lv_at hl 1 rfl) ?_
  refine va_get (D := (dC, dI)) (ci := 3) (v := .ref a_groups) (C := "LabelledCore$KeyCache") (T := T_Kc) (N := 10) hx hb hts in_Kc hown hK hP 8 rfl rfl 0 (by decide) (hts _ wm_123) (fun _ h9 => h9) rfl d_Kc_install_7 ?_
  refine lv_iload hx hb d_Kc_install_10 (lv_at hl 0 rfl) ?_
  refine lv_aload_n hx hb d_Kc_install_12 rfl (lv_at hl 2 rfl) ?_
  refine va_get (D := (dC, dI)) (ci := 2) (v := .int v_p0_group) (C := "LabelledCore$Key") (T := T_Ky) (N := 5) hx hb hts in_Ky hown hK hP 0 rfl rfl 0 (by decide) (hts _ wm_161) (fun _ h9 => h9) rfl d_Kc_install_13 ?_
  refine va_iast hx hb hK hP hD hS 1 0 rfl rfl hs_16_0 d_Kc_install_16 (fun H locs hP hD hS => ?_)
  have hP : va_P (dC, dI) clsL [(h_p0, .inr (2, [.int v_p0_group, .int v_p0_p, .int v_p0_x, .int v_p0_y, .int v_p0_m])), (a_groups, .inl (cI, 64, .inl (upd g_groups (Int32.toNatClampNeg ((f_Kc_takePlace v_entries v_count v_oldest).1)) v_p0_group))), (a_ps, .inl (cI, 64, .inl g_ps)), (a_xs, .inl (cI, 64, .inl g_xs)), (a_ys, .inl (cI, 64, .inl g_ys)), (a_ms, .inl (cI, 64, .inl g_ms)), (a_results, .inl (cI, 64, .inl g_results)), (a_nexts, .inl (cI, 64, .inl g_nexts)), (h0, .inr (3, [.ref a_groups, .ref a_ps, .ref a_xs, .ref a_ys, .ref a_ms, .ref a_results, .ref a_nexts, .int v_entries, .int ((f_Kc_takePlace v_entries v_count v_oldest).2.1), .int ((f_Kc_takePlace v_entries v_count v_oldest).2.2)]))] H := hP
  have hD : va_D A [(h_p0, .inr (2, [.int v_p0_group, .int v_p0_p, .int v_p0_x, .int v_p0_y, .int v_p0_m])), (a_groups, .inl (cI, 64, .inl (upd g_groups (Int32.toNatClampNeg ((f_Kc_takePlace v_entries v_count v_oldest).1)) v_p0_group))), (a_ps, .inl (cI, 64, .inl g_ps)), (a_xs, .inl (cI, 64, .inl g_xs)), (a_ys, .inl (cI, 64, .inl g_ys)), (a_ms, .inl (cI, 64, .inl g_ms)), (a_results, .inl (cI, 64, .inl g_results)), (a_nexts, .inl (cI, 64, .inl g_nexts)), (h0, .inr (3, [.ref a_groups, .ref a_ps, .ref a_xs, .ref a_ys, .ref a_ms, .ref a_results, .ref a_nexts, .int v_entries, .int ((f_Kc_takePlace v_entries v_count v_oldest).2.1), .int ((f_Kc_takePlace v_entries v_count v_oldest).2.2)]))] := hD
  refine lv_aload_n hx hb d_Kc_install_17 rfl (lv_at hl 1 rfl) ?_
  refine va_get (D := (dC, dI)) (ci := 3) (v := .ref a_ps) (C := "LabelledCore$KeyCache") (T := T_Kc) (N := 10) hx hb hts in_Kc hown hK hP 8 rfl rfl 1 (by decide) (hts _ wm_124) (fun _ h9 => h9) rfl d_Kc_install_18 ?_
  refine lv_iload hx hb d_Kc_install_21 (lv_at hl 0 rfl) ?_
  refine lv_aload_n hx hb d_Kc_install_23 rfl (lv_at hl 2 rfl) ?_
  refine va_get (D := (dC, dI)) (ci := 2) (v := .int v_p0_p) (C := "LabelledCore$Key") (T := T_Ky) (N := 5) hx hb hts in_Ky hown hK hP 0 rfl rfl 1 (by decide) (hts _ wm_163) (fun _ h9 => h9) rfl d_Kc_install_24 ?_
  refine va_iast hx hb hK hP hD hS 2 0 rfl rfl hs_16_0 d_Kc_install_27 (fun H locs hP hD hS => ?_)
  have hP : va_P (dC, dI) clsL [(h_p0, .inr (2, [.int v_p0_group, .int v_p0_p, .int v_p0_x, .int v_p0_y, .int v_p0_m])), (a_groups, .inl (cI, 64, .inl (upd g_groups (Int32.toNatClampNeg ((f_Kc_takePlace v_entries v_count v_oldest).1)) v_p0_group))), (a_ps, .inl (cI, 64, .inl (upd g_ps (Int32.toNatClampNeg ((f_Kc_takePlace v_entries v_count v_oldest).1)) v_p0_p))), (a_xs, .inl (cI, 64, .inl g_xs)), (a_ys, .inl (cI, 64, .inl g_ys)), (a_ms, .inl (cI, 64, .inl g_ms)), (a_results, .inl (cI, 64, .inl g_results)), (a_nexts, .inl (cI, 64, .inl g_nexts)), (h0, .inr (3, [.ref a_groups, .ref a_ps, .ref a_xs, .ref a_ys, .ref a_ms, .ref a_results, .ref a_nexts, .int v_entries, .int ((f_Kc_takePlace v_entries v_count v_oldest).2.1), .int ((f_Kc_takePlace v_entries v_count v_oldest).2.2)]))] H := hP
  have hD : va_D A [(h_p0, .inr (2, [.int v_p0_group, .int v_p0_p, .int v_p0_x, .int v_p0_y, .int v_p0_m])), (a_groups, .inl (cI, 64, .inl (upd g_groups (Int32.toNatClampNeg ((f_Kc_takePlace v_entries v_count v_oldest).1)) v_p0_group))), (a_ps, .inl (cI, 64, .inl (upd g_ps (Int32.toNatClampNeg ((f_Kc_takePlace v_entries v_count v_oldest).1)) v_p0_p))), (a_xs, .inl (cI, 64, .inl g_xs)), (a_ys, .inl (cI, 64, .inl g_ys)), (a_ms, .inl (cI, 64, .inl g_ms)), (a_results, .inl (cI, 64, .inl g_results)), (a_nexts, .inl (cI, 64, .inl g_nexts)), (h0, .inr (3, [.ref a_groups, .ref a_ps, .ref a_xs, .ref a_ys, .ref a_ms, .ref a_results, .ref a_nexts, .int v_entries, .int ((f_Kc_takePlace v_entries v_count v_oldest).2.1), .int ((f_Kc_takePlace v_entries v_count v_oldest).2.2)]))] := hD
  refine lv_aload_n hx hb d_Kc_install_28 rfl (lv_at hl 1 rfl) ?_
  refine va_get (D := (dC, dI)) (ci := 3) (v := .ref a_xs) (C := "LabelledCore$KeyCache") (T := T_Kc) (N := 10) hx hb hts in_Kc hown hK hP 8 rfl rfl 2 (by decide) (hts _ wm_125) (fun _ h9 => h9) rfl d_Kc_install_29 ?_
  refine lv_iload hx hb d_Kc_install_32 (lv_at hl 0 rfl) ?_
  refine lv_aload_n hx hb d_Kc_install_34 rfl (lv_at hl 2 rfl) ?_
  refine va_get (D := (dC, dI)) (ci := 2) (v := .int v_p0_x) (C := "LabelledCore$Key") (T := T_Ky) (N := 5) hx hb hts in_Ky hown hK hP 0 rfl rfl 2 (by decide) (hts _ wm_166) (fun _ h9 => h9) rfl d_Kc_install_35 ?_
  refine va_iast hx hb hK hP hD hS 3 0 rfl rfl hs_16_0 d_Kc_install_38 (fun H locs hP hD hS => ?_)
  have hP : va_P (dC, dI) clsL [(h_p0, .inr (2, [.int v_p0_group, .int v_p0_p, .int v_p0_x, .int v_p0_y, .int v_p0_m])), (a_groups, .inl (cI, 64, .inl (upd g_groups (Int32.toNatClampNeg ((f_Kc_takePlace v_entries v_count v_oldest).1)) v_p0_group))), (a_ps, .inl (cI, 64, .inl (upd g_ps (Int32.toNatClampNeg ((f_Kc_takePlace v_entries v_count v_oldest).1)) v_p0_p))), (a_xs, .inl (cI, 64, .inl (upd g_xs (Int32.toNatClampNeg ((f_Kc_takePlace v_entries v_count v_oldest).1)) v_p0_x))), (a_ys, .inl (cI, 64, .inl g_ys)), (a_ms, .inl (cI, 64, .inl g_ms)), (a_results, .inl (cI, 64, .inl g_results)), (a_nexts, .inl (cI, 64, .inl g_nexts)), (h0, .inr (3, [.ref a_groups, .ref a_ps, .ref a_xs, .ref a_ys, .ref a_ms, .ref a_results, .ref a_nexts, .int v_entries, .int ((f_Kc_takePlace v_entries v_count v_oldest).2.1), .int ((f_Kc_takePlace v_entries v_count v_oldest).2.2)]))] H := hP
  have hD : va_D A [(h_p0, .inr (2, [.int v_p0_group, .int v_p0_p, .int v_p0_x, .int v_p0_y, .int v_p0_m])), (a_groups, .inl (cI, 64, .inl (upd g_groups (Int32.toNatClampNeg ((f_Kc_takePlace v_entries v_count v_oldest).1)) v_p0_group))), (a_ps, .inl (cI, 64, .inl (upd g_ps (Int32.toNatClampNeg ((f_Kc_takePlace v_entries v_count v_oldest).1)) v_p0_p))), (a_xs, .inl (cI, 64, .inl (upd g_xs (Int32.toNatClampNeg ((f_Kc_takePlace v_entries v_count v_oldest).1)) v_p0_x))), (a_ys, .inl (cI, 64, .inl g_ys)), (a_ms, .inl (cI, 64, .inl g_ms)), (a_results, .inl (cI, 64, .inl g_results)), (a_nexts, .inl (cI, 64, .inl g_nexts)), (h0, .inr (3, [.ref a_groups, .ref a_ps, .ref a_xs, .ref a_ys, .ref a_ms, .ref a_results, .ref a_nexts, .int v_entries, .int ((f_Kc_takePlace v_entries v_count v_oldest).2.1), .int ((f_Kc_takePlace v_entries v_count v_oldest).2.2)]))] := hD
  refine lv_aload_n hx hb d_Kc_install_39 rfl (lv_at hl 1 rfl) ?_
  refine va_get (D := (dC, dI)) (ci := 3) (v := .ref a_ys) (C := "LabelledCore$KeyCache") (T := T_Kc) (N := 10) hx hb hts in_Kc hown hK hP 8 rfl rfl 3 (by decide) (hts _ wm_126) (fun _ h9 => h9) rfl d_Kc_install_40 ?_
  refine lv_iload hx hb d_Kc_install_43 (lv_at hl 0 rfl) ?_
  refine lv_aload_n hx hb d_Kc_install_45 rfl (lv_at hl 2 rfl) ?_
  refine va_get (D := (dC, dI)) (ci := 2) (v := .int v_p0_y) (C := "LabelledCore$Key") (T := T_Ky) (N := 5) hx hb hts in_Ky hown hK hP 0 rfl rfl 3 (by decide) (hts _ wm_169) (fun _ h9 => h9) rfl d_Kc_install_46 ?_
  refine va_iast hx hb hK hP hD hS 4 0 rfl rfl hs_16_0 d_Kc_install_49 (fun H locs hP hD hS => ?_)
  have hP : va_P (dC, dI) clsL [(h_p0, .inr (2, [.int v_p0_group, .int v_p0_p, .int v_p0_x, .int v_p0_y, .int v_p0_m])), (a_groups, .inl (cI, 64, .inl (upd g_groups (Int32.toNatClampNeg ((f_Kc_takePlace v_entries v_count v_oldest).1)) v_p0_group))), (a_ps, .inl (cI, 64, .inl (upd g_ps (Int32.toNatClampNeg ((f_Kc_takePlace v_entries v_count v_oldest).1)) v_p0_p))), (a_xs, .inl (cI, 64, .inl (upd g_xs (Int32.toNatClampNeg ((f_Kc_takePlace v_entries v_count v_oldest).1)) v_p0_x))), (a_ys, .inl (cI, 64, .inl (upd g_ys (Int32.toNatClampNeg ((f_Kc_takePlace v_entries v_count v_oldest).1)) v_p0_y))), (a_ms, .inl (cI, 64, .inl g_ms)), (a_results, .inl (cI, 64, .inl g_results)), (a_nexts, .inl (cI, 64, .inl g_nexts)), (h0, .inr (3, [.ref a_groups, .ref a_ps, .ref a_xs, .ref a_ys, .ref a_ms, .ref a_results, .ref a_nexts, .int v_entries, .int ((f_Kc_takePlace v_entries v_count v_oldest).2.1), .int ((f_Kc_takePlace v_entries v_count v_oldest).2.2)]))] H := hP
  have hD : va_D A [(h_p0, .inr (2, [.int v_p0_group, .int v_p0_p, .int v_p0_x, .int v_p0_y, .int v_p0_m])), (a_groups, .inl (cI, 64, .inl (upd g_groups (Int32.toNatClampNeg ((f_Kc_takePlace v_entries v_count v_oldest).1)) v_p0_group))), (a_ps, .inl (cI, 64, .inl (upd g_ps (Int32.toNatClampNeg ((f_Kc_takePlace v_entries v_count v_oldest).1)) v_p0_p))), (a_xs, .inl (cI, 64, .inl (upd g_xs (Int32.toNatClampNeg ((f_Kc_takePlace v_entries v_count v_oldest).1)) v_p0_x))), (a_ys, .inl (cI, 64, .inl (upd g_ys (Int32.toNatClampNeg ((f_Kc_takePlace v_entries v_count v_oldest).1)) v_p0_y))), (a_ms, .inl (cI, 64, .inl g_ms)), (a_results, .inl (cI, 64, .inl g_results)), (a_nexts, .inl (cI, 64, .inl g_nexts)), (h0, .inr (3, [.ref a_groups, .ref a_ps, .ref a_xs, .ref a_ys, .ref a_ms, .ref a_results, .ref a_nexts, .int v_entries, .int ((f_Kc_takePlace v_entries v_count v_oldest).2.1), .int ((f_Kc_takePlace v_entries v_count v_oldest).2.2)]))] := hD
  refine lv_aload_n hx hb d_Kc_install_50 rfl (lv_at hl 1 rfl) ?_
  refine va_get (D := (dC, dI)) (ci := 3) (v := .ref a_ms) (C := "LabelledCore$KeyCache") (T := T_Kc) (N := 10) hx hb hts in_Kc hown hK hP 8 rfl rfl 4 (by decide) (hts _ wm_127) (fun _ h9 => h9) rfl d_Kc_install_51 ?_
  refine lv_iload hx hb d_Kc_install_54 (lv_at hl 0 rfl) ?_
  refine lv_aload_n hx hb d_Kc_install_56 rfl (lv_at hl 2 rfl) ?_
  refine va_get (D := (dC, dI)) (ci := 2) (v := .int v_p0_m) (C := "LabelledCore$Key") (T := T_Ky) (N := 5) hx hb hts in_Ky hown hK hP 0 rfl rfl 4 (by decide) (hts _ wm_172) (fun _ h9 => h9) rfl d_Kc_install_57 ?_
  refine va_iast hx hb hK hP hD hS 5 0 rfl rfl hs_16_0 d_Kc_install_60 (fun H locs hP hD hS => ?_)
  have hP : va_P (dC, dI) clsL [(h_p0, .inr (2, [.int v_p0_group, .int v_p0_p, .int v_p0_x, .int v_p0_y, .int v_p0_m])), (a_groups, .inl (cI, 64, .inl (upd g_groups (Int32.toNatClampNeg ((f_Kc_takePlace v_entries v_count v_oldest).1)) v_p0_group))), (a_ps, .inl (cI, 64, .inl (upd g_ps (Int32.toNatClampNeg ((f_Kc_takePlace v_entries v_count v_oldest).1)) v_p0_p))), (a_xs, .inl (cI, 64, .inl (upd g_xs (Int32.toNatClampNeg ((f_Kc_takePlace v_entries v_count v_oldest).1)) v_p0_x))), (a_ys, .inl (cI, 64, .inl (upd g_ys (Int32.toNatClampNeg ((f_Kc_takePlace v_entries v_count v_oldest).1)) v_p0_y))), (a_ms, .inl (cI, 64, .inl (upd g_ms (Int32.toNatClampNeg ((f_Kc_takePlace v_entries v_count v_oldest).1)) v_p0_m))), (a_results, .inl (cI, 64, .inl g_results)), (a_nexts, .inl (cI, 64, .inl g_nexts)), (h0, .inr (3, [.ref a_groups, .ref a_ps, .ref a_xs, .ref a_ys, .ref a_ms, .ref a_results, .ref a_nexts, .int v_entries, .int ((f_Kc_takePlace v_entries v_count v_oldest).2.1), .int ((f_Kc_takePlace v_entries v_count v_oldest).2.2)]))] H := hP
  have hD : va_D A [(h_p0, .inr (2, [.int v_p0_group, .int v_p0_p, .int v_p0_x, .int v_p0_y, .int v_p0_m])), (a_groups, .inl (cI, 64, .inl (upd g_groups (Int32.toNatClampNeg ((f_Kc_takePlace v_entries v_count v_oldest).1)) v_p0_group))), (a_ps, .inl (cI, 64, .inl (upd g_ps (Int32.toNatClampNeg ((f_Kc_takePlace v_entries v_count v_oldest).1)) v_p0_p))), (a_xs, .inl (cI, 64, .inl (upd g_xs (Int32.toNatClampNeg ((f_Kc_takePlace v_entries v_count v_oldest).1)) v_p0_x))), (a_ys, .inl (cI, 64, .inl (upd g_ys (Int32.toNatClampNeg ((f_Kc_takePlace v_entries v_count v_oldest).1)) v_p0_y))), (a_ms, .inl (cI, 64, .inl (upd g_ms (Int32.toNatClampNeg ((f_Kc_takePlace v_entries v_count v_oldest).1)) v_p0_m))), (a_results, .inl (cI, 64, .inl g_results)), (a_nexts, .inl (cI, 64, .inl g_nexts)), (h0, .inr (3, [.ref a_groups, .ref a_ps, .ref a_xs, .ref a_ys, .ref a_ms, .ref a_results, .ref a_nexts, .int v_entries, .int ((f_Kc_takePlace v_entries v_count v_oldest).2.1), .int ((f_Kc_takePlace v_entries v_count v_oldest).2.2)]))] := hD
  refine lv_aload_n hx hb d_Kc_install_61 rfl (lv_at hl 1 rfl) ?_
  refine va_get (D := (dC, dI)) (ci := 3) (v := .ref a_results) (C := "LabelledCore$KeyCache") (T := T_Kc) (N := 10) hx hb hts in_Kc hown hK hP 8 rfl rfl 5 (by decide) (hts _ wm_128) (fun _ h9 => h9) rfl d_Kc_install_62 ?_
  refine lv_iload hx hb d_Kc_install_65 (lv_at hl 0 rfl) ?_
  refine lv_iload_n hx hb d_Kc_install_67 rfl (lv_at hl 3 rfl) ?_
  refine va_iast hx hb hK hP hD hS 6 0 rfl rfl hs_16_0 d_Kc_install_68 (fun H locs hP hD hS => ?_)
  have hP : va_P (dC, dI) clsL [(h_p0, .inr (2, [.int v_p0_group, .int v_p0_p, .int v_p0_x, .int v_p0_y, .int v_p0_m])), (a_groups, .inl (cI, 64, .inl (upd g_groups (Int32.toNatClampNeg ((f_Kc_takePlace v_entries v_count v_oldest).1)) v_p0_group))), (a_ps, .inl (cI, 64, .inl (upd g_ps (Int32.toNatClampNeg ((f_Kc_takePlace v_entries v_count v_oldest).1)) v_p0_p))), (a_xs, .inl (cI, 64, .inl (upd g_xs (Int32.toNatClampNeg ((f_Kc_takePlace v_entries v_count v_oldest).1)) v_p0_x))), (a_ys, .inl (cI, 64, .inl (upd g_ys (Int32.toNatClampNeg ((f_Kc_takePlace v_entries v_count v_oldest).1)) v_p0_y))), (a_ms, .inl (cI, 64, .inl (upd g_ms (Int32.toNatClampNeg ((f_Kc_takePlace v_entries v_count v_oldest).1)) v_p0_m))), (a_results, .inl (cI, 64, .inl (upd g_results (Int32.toNatClampNeg ((f_Kc_takePlace v_entries v_count v_oldest).1)) x_p1))), (a_nexts, .inl (cI, 64, .inl g_nexts)), (h0, .inr (3, [.ref a_groups, .ref a_ps, .ref a_xs, .ref a_ys, .ref a_ms, .ref a_results, .ref a_nexts, .int v_entries, .int ((f_Kc_takePlace v_entries v_count v_oldest).2.1), .int ((f_Kc_takePlace v_entries v_count v_oldest).2.2)]))] H := hP
  have hD : va_D A [(h_p0, .inr (2, [.int v_p0_group, .int v_p0_p, .int v_p0_x, .int v_p0_y, .int v_p0_m])), (a_groups, .inl (cI, 64, .inl (upd g_groups (Int32.toNatClampNeg ((f_Kc_takePlace v_entries v_count v_oldest).1)) v_p0_group))), (a_ps, .inl (cI, 64, .inl (upd g_ps (Int32.toNatClampNeg ((f_Kc_takePlace v_entries v_count v_oldest).1)) v_p0_p))), (a_xs, .inl (cI, 64, .inl (upd g_xs (Int32.toNatClampNeg ((f_Kc_takePlace v_entries v_count v_oldest).1)) v_p0_x))), (a_ys, .inl (cI, 64, .inl (upd g_ys (Int32.toNatClampNeg ((f_Kc_takePlace v_entries v_count v_oldest).1)) v_p0_y))), (a_ms, .inl (cI, 64, .inl (upd g_ms (Int32.toNatClampNeg ((f_Kc_takePlace v_entries v_count v_oldest).1)) v_p0_m))), (a_results, .inl (cI, 64, .inl (upd g_results (Int32.toNatClampNeg ((f_Kc_takePlace v_entries v_count v_oldest).1)) x_p1))), (a_nexts, .inl (cI, 64, .inl g_nexts)), (h0, .inr (3, [.ref a_groups, .ref a_ps, .ref a_xs, .ref a_ys, .ref a_ms, .ref a_results, .ref a_nexts, .int v_entries, .int ((f_Kc_takePlace v_entries v_count v_oldest).2.1), .int ((f_Kc_takePlace v_entries v_count v_oldest).2.2)]))] := hD
  refine lv_aload_n hx hb d_Kc_install_69 rfl (lv_at hl 1 rfl) ?_
  refine va_get (D := (dC, dI)) (ci := 3) (v := .ref a_nexts) (C := "LabelledCore$KeyCache") (T := T_Kc) (N := 10) hx hb hts in_Kc hown hK hP 8 rfl rfl 6 (by decide) (hts _ wm_129) (fun _ h9 => h9) rfl d_Kc_install_70 ?_
  refine lv_iload hx hb d_Kc_install_73 (lv_at hl 0 rfl) ?_
  refine lv_iload_n hx hb d_Kc_install_75 rfl (lv_at hl 4 rfl) ?_
  refine va_iast hx hb hK hP hD hS 7 0 rfl rfl hs_16_0 d_Kc_install_76 (fun H locs hP hD hS => ?_)
  have hP : va_P (dC, dI) clsL [(h_p0, .inr (2, [.int v_p0_group, .int v_p0_p, .int v_p0_x, .int v_p0_y, .int v_p0_m])), (a_groups, .inl (cI, 64, .inl (upd g_groups (Int32.toNatClampNeg ((f_Kc_takePlace v_entries v_count v_oldest).1)) v_p0_group))), (a_ps, .inl (cI, 64, .inl (upd g_ps (Int32.toNatClampNeg ((f_Kc_takePlace v_entries v_count v_oldest).1)) v_p0_p))), (a_xs, .inl (cI, 64, .inl (upd g_xs (Int32.toNatClampNeg ((f_Kc_takePlace v_entries v_count v_oldest).1)) v_p0_x))), (a_ys, .inl (cI, 64, .inl (upd g_ys (Int32.toNatClampNeg ((f_Kc_takePlace v_entries v_count v_oldest).1)) v_p0_y))), (a_ms, .inl (cI, 64, .inl (upd g_ms (Int32.toNatClampNeg ((f_Kc_takePlace v_entries v_count v_oldest).1)) v_p0_m))), (a_results, .inl (cI, 64, .inl (upd g_results (Int32.toNatClampNeg ((f_Kc_takePlace v_entries v_count v_oldest).1)) x_p1))), (a_nexts, .inl (cI, 64, .inl (upd g_nexts (Int32.toNatClampNeg ((f_Kc_takePlace v_entries v_count v_oldest).1)) x_p2))), (h0, .inr (3, [.ref a_groups, .ref a_ps, .ref a_xs, .ref a_ys, .ref a_ms, .ref a_results, .ref a_nexts, .int v_entries, .int ((f_Kc_takePlace v_entries v_count v_oldest).2.1), .int ((f_Kc_takePlace v_entries v_count v_oldest).2.2)]))] H := hP
  have hD : va_D A [(h_p0, .inr (2, [.int v_p0_group, .int v_p0_p, .int v_p0_x, .int v_p0_y, .int v_p0_m])), (a_groups, .inl (cI, 64, .inl (upd g_groups (Int32.toNatClampNeg ((f_Kc_takePlace v_entries v_count v_oldest).1)) v_p0_group))), (a_ps, .inl (cI, 64, .inl (upd g_ps (Int32.toNatClampNeg ((f_Kc_takePlace v_entries v_count v_oldest).1)) v_p0_p))), (a_xs, .inl (cI, 64, .inl (upd g_xs (Int32.toNatClampNeg ((f_Kc_takePlace v_entries v_count v_oldest).1)) v_p0_x))), (a_ys, .inl (cI, 64, .inl (upd g_ys (Int32.toNatClampNeg ((f_Kc_takePlace v_entries v_count v_oldest).1)) v_p0_y))), (a_ms, .inl (cI, 64, .inl (upd g_ms (Int32.toNatClampNeg ((f_Kc_takePlace v_entries v_count v_oldest).1)) v_p0_m))), (a_results, .inl (cI, 64, .inl (upd g_results (Int32.toNatClampNeg ((f_Kc_takePlace v_entries v_count v_oldest).1)) x_p1))), (a_nexts, .inl (cI, 64, .inl (upd g_nexts (Int32.toNatClampNeg ((f_Kc_takePlace v_entries v_count v_oldest).1)) x_p2))), (h0, .inr (3, [.ref a_groups, .ref a_ps, .ref a_xs, .ref a_ys, .ref a_ms, .ref a_results, .ref a_nexts, .int v_entries, .int ((f_Kc_takePlace v_entries v_count v_oldest).2.1), .int ((f_Kc_takePlace v_entries v_count v_oldest).2.2)]))] := hD
  have ef : (f_Kc_install v_entries v_count v_oldest v_p0_group g_groups g_results x_p1) = (((upd g_groups (Int32.toNatClampNeg ((f_Kc_takePlace v_entries v_count v_oldest).1)) v_p0_group), (upd g_results (Int32.toNatClampNeg ((f_Kc_takePlace v_entries v_count v_oldest).1)) x_p1)) : (Nat → Int32) × (Nat → Int32)) := rfl
  have hP9 := hP.sub (ws' := [(h0, .inr (3, [.ref a_groups, .ref a_ps, .ref a_xs, .ref a_ys, .ref a_ms, .ref a_results, .ref a_nexts, .int v_entries, .int ((f_Kc_takePlace v_entries v_count v_oldest).2.1), .int ((f_Kc_takePlace v_entries v_count v_oldest).2.2)])), (h_p0, .inr (2, [.int v_p0_group, .int v_p0_p, .int v_p0_x, .int v_p0_y, .int v_p0_m])), (a_groups, .inl (cI, 64, .inl (upd g_groups (Int32.toNatClampNeg ((f_Kc_takePlace v_entries v_count v_oldest).1)) v_p0_group))), (a_ps, .inl (cI, 64, .inl (upd g_ps (Int32.toNatClampNeg ((f_Kc_takePlace v_entries v_count v_oldest).1)) v_p0_p))), (a_xs, .inl (cI, 64, .inl (upd g_xs (Int32.toNatClampNeg ((f_Kc_takePlace v_entries v_count v_oldest).1)) v_p0_x))), (a_ys, .inl (cI, 64, .inl (upd g_ys (Int32.toNatClampNeg ((f_Kc_takePlace v_entries v_count v_oldest).1)) v_p0_y))), (a_ms, .inl (cI, 64, .inl (upd g_ms (Int32.toNatClampNeg ((f_Kc_takePlace v_entries v_count v_oldest).1)) v_p0_m))), (a_results, .inl (cI, 64, .inl (upd g_results (Int32.toNatClampNeg ((f_Kc_takePlace v_entries v_count v_oldest).1)) x_p1))), (a_nexts, .inl (cI, 64, .inl (upd g_nexts (Int32.toNatClampNeg ((f_Kc_takePlace v_entries v_count v_oldest).1)) x_p2)))]) [8, 0, 1, 2, 3, 4, 5, 6, 7] rfl
  have hD9 := hD.sub (ws' := [(h0, .inr (3, [.ref a_groups, .ref a_ps, .ref a_xs, .ref a_ys, .ref a_ms, .ref a_results, .ref a_nexts, .int v_entries, .int ((f_Kc_takePlace v_entries v_count v_oldest).2.1), .int ((f_Kc_takePlace v_entries v_count v_oldest).2.2)])), (h_p0, .inr (2, [.int v_p0_group, .int v_p0_p, .int v_p0_x, .int v_p0_y, .int v_p0_m])), (a_groups, .inl (cI, 64, .inl (upd g_groups (Int32.toNatClampNeg ((f_Kc_takePlace v_entries v_count v_oldest).1)) v_p0_group))), (a_ps, .inl (cI, 64, .inl (upd g_ps (Int32.toNatClampNeg ((f_Kc_takePlace v_entries v_count v_oldest).1)) v_p0_p))), (a_xs, .inl (cI, 64, .inl (upd g_xs (Int32.toNatClampNeg ((f_Kc_takePlace v_entries v_count v_oldest).1)) v_p0_x))), (a_ys, .inl (cI, 64, .inl (upd g_ys (Int32.toNatClampNeg ((f_Kc_takePlace v_entries v_count v_oldest).1)) v_p0_y))), (a_ms, .inl (cI, 64, .inl (upd g_ms (Int32.toNatClampNeg ((f_Kc_takePlace v_entries v_count v_oldest).1)) v_p0_m))), (a_results, .inl (cI, 64, .inl (upd g_results (Int32.toNatClampNeg ((f_Kc_takePlace v_entries v_count v_oldest).1)) x_p1))), (a_nexts, .inl (cI, 64, .inl (upd g_nexts (Int32.toNatClampNeg ((f_Kc_takePlace v_entries v_count v_oldest).1)) x_p2)))]) [8, 0, 1, 2, 3, 4, 5, 6, 7] (by decide) rfl
  exact W.vret hx hb hr (fun t ht hW => ⟨⟨(), rfl, trivial, by rw [ef, ht]; exact hP9, va_K.moved hW.alike hK, by rw [ef]; exact hD9⟩, hS.F ht⟩) hS.2.2 d_Kc_install_77
def f_Ke_instruction (x_p0 : Int32) (x_p1 : Int32) (x_p2 : Int32) : Int32 :=
  (((x_p0 <<< (6 &&& 31)) ||| (x_p1 <<< (3 &&& 31))) ||| x_p2)
set_option maxHeartbeats 4000000 in
set_option maxRecDepth 100000 in
theorem ct_Ke_instruction (l : Launch) (dC : Nat → ClassId) (dI : Nat → Nat → Nat) (cI : ClassId) (x_p0 : Int32) (x_p1 : Int32) (x_p2 : Int32) : Met l y_Ke_instruction w_Ke_instruction ({ frames := 0, cells := 0, slots := 0, locals := 0 }) (pcR dC dI cI [] [.int x_p0, .int x_p1, .int x_p2]) (QcRead (f_Ke_instruction x_p0 x_p1 x_p2)) 0 0 (fun _ => False) := by
  refine Met.ofW (cc := c_Ke_instruction) (maxL := 3) (ret := (some .int)) (by decide) rfl ?_
  intro p e s m args below meth c s₁ B hml hv
  obtain ⟨rfl, hP, hK⟩ := hv
  have hx := B.exec
  have hb := B.bytes
  have hr := B.returns
  have hts : ∀ w ∈ wG, w.before _ s = true := fun w h => atoms_spec (ws := w_Ke_instruction) B.pre w (List.mem_cons_of_mem _ h)
  have hown : s.vm.findClass "LabelledCore$Kernel" = some m.cls := findClass_of_methodNamed B.named
  have hlocks := B.notSynchronized
  have hl := lv_entry ([.int x_p0, .int x_p1, .int x_p2]) (n := 3) (Nat.le_of_ble_eq_true rfl)
  rw [lg_entry_eq]
  generalize (lg_sl ([.int x_p0, .int x_p1, .int x_p2]) ++ List.replicate (3 - (lg_sl ([.int x_p0, .int x_p1, .int x_p2])).length) Slot.unset).toArray = ls at hl ⊢
  have hl : lv_has ls 3 [(0, .int x_p0), (1, .int x_p1), (2, .int x_p2)] := hl
  refine lv_iload_n hx hb d_Ke_instruction_0 rfl (lv_at hl 0 rfl) ?_
  refine lv_bipush (v := 6) hx hb d_Ke_instruction_1 (by decide) ?_
  refine lv_ishl hx hb d_Ke_instruction_3 ?_
  refine lv_iload_n hx hb d_Ke_instruction_4 rfl (lv_at hl 1 rfl) ?_
  refine lv_iconst (v := 3) hx hb d_Ke_instruction_5 (by decide) ?_
  refine lv_ishl hx hb d_Ke_instruction_6 ?_
  refine lv_ior hx hb d_Ke_instruction_7 ?_
  refine lv_iload_n hx hb d_Ke_instruction_8 rfl (lv_at hl 2 rfl) ?_
  refine lv_ior hx hb d_Ke_instruction_9 ?_
  have ef : (f_Ke_instruction x_p0 x_p1 x_p2) = ((((x_p0 <<< (6 &&& 31)) ||| (x_p1 <<< (3 &&& 31))) ||| x_p2) : Int32) := rfl
  exact W.iret (v := (((x_p0 <<< (6 &&& 31)) ||| (x_p1 <<< (3 &&& 31))) ||| x_p2)) hx hb hr (fun t ht hW => ⟨by rw [ef], ht⟩) (fun _ h => by cases h) d_Ke_instruction_10
def f_Ke_execute (g_slots : Nat → Int32) (x_p0 : Int32) : Int32 × (Nat → Int32) :=
  if (x_p0 >>> (6 &&& 31)) = 1 then
    (1, (upd g_slots (Int32.toNatClampNeg ((x_p0 >>> (3 &&& 31)) &&& 7)) ((g_slots (Int32.toNatClampNeg ((x_p0 >>> (3 &&& 31)) &&& 7))) ||| (g_slots (Int32.toNatClampNeg (x_p0 &&& 7))))))
  else
    if (x_p0 >>> (6 &&& 31)) = 2 then
      (1, (upd g_slots (Int32.toNatClampNeg ((x_p0 >>> (3 &&& 31)) &&& 7)) ((g_slots (Int32.toNatClampNeg ((x_p0 >>> (3 &&& 31)) &&& 7))) &&& ((g_slots (Int32.toNatClampNeg (x_p0 &&& 7))) ^^^ (-1)))))
    else
      (0, g_slots)
set_option maxHeartbeats 4000000 in
set_option maxRecDepth 100000 in
theorem ct_Ke_execute (l : Launch) (dC : Nat → ClassId) (dI : Nat → Nat → Nat) (cI : ClassId) (sz : Nat) (h0 a_code a_slots : Nat) (g_slots : Nat → Int32) (x_p0 : Int32) : Met l y_Ke_execute w_Ke_execute ({ frames := 0, cells := 0, slots := 0, locals := 0 }) (pcW dC dI cI [(h0, .inr (1, [.ref a_code, .ref a_slots])), (a_slots, .inl (cI, 8, .inl g_slots))] sz [.ref h0, .int x_p0]) (va_Qi (fun (r : Int32) (_ : Unit) => r = (f_Ke_execute g_slots x_p0).1) (fun _ t => atW dC dI cI [(h0, .inr (1, [.ref a_code, .ref a_slots])), (a_slots, .inl (cI, 8, .inl ((f_Ke_execute g_slots x_p0).2)))] (va_A [(h0, .inr (1, [.ref a_code, .ref a_slots])), (a_slots, .inl (cI, 8, .inl g_slots))] sz) t) (va_A [(h0, .inr (1, [.ref a_code, .ref a_slots])), (a_slots, .inl (cI, 8, .inl g_slots))] sz)) 0 0 (va_A [(h0, .inr (1, [.ref a_code, .ref a_slots])), (a_slots, .inl (cI, 8, .inl g_slots))] sz) := by
  refine Met.ofW (cc := c_Ke_execute) (maxL := 4) (ret := (some .boolean)) (by decide) rfl ?_
  intro p e s m args below meth c s₁ B hml hv
  obtain ⟨rfl, hsz, hP, hK, hD0⟩ := hv
  have hx := B.exec
  have hb := B.bytes
  have hr := B.returns
  have hts : ∀ w ∈ wG, w.before _ s = true := fun w h => atoms_spec (ws := w_Ke_execute) B.pre w (List.mem_cons_of_mem _ h)
  have hown : s.vm.findClass "LabelledCore$Kernel" = some m.cls := findClass_of_methodNamed B.named
  have hlocks := B.notSynchronized
  subst hsz
  have hD := hD0.self (sz := s.heap.size)
  generalize hAe : va_A [(h0, .inr (1, [.ref a_code, .ref a_slots])), (a_slots, .inl (cI, 8, .inl g_slots))] s.heap.size = A at hD ⊢
  have hA : ∀ q : Nat, s.heap.size ≤ q → A q := fun q h => by rw [← hAe]; exact Or.inr h
  have hS : va_S A s.heap s.heap [] := va_S.rf
  have hP : va_P (dC, dI) clsL [(h0, .inr (1, [.ref a_code, .ref a_slots])), (a_slots, .inl (cI, 8, .inl g_slots))] s.heap := hP
  have hl := lv_entry ([.ref h0, .int x_p0]) (n := 4) (Nat.le_of_ble_eq_true rfl)
  rw [lg_entry_eq]
  generalize (lg_sl ([.ref h0, .int x_p0]) ++ List.replicate (4 - (lg_sl ([.ref h0, .int x_p0])).length) Slot.unset).toArray = ls at hl ⊢
  have hl : lv_has ls 4 [(0, .ref h0), (1, .int x_p0)] := hl
  refine lv_iload_n hx hb d_Ke_execute_0 rfl (lv_at hl 1 rfl) ?_
  refine lv_iconst (v := 3) hx hb d_Ke_execute_1 (by decide) ?_
  refine lv_ishr hx hb d_Ke_execute_2 ?_
  refine lv_bipush (v := 7) hx hb d_Ke_execute_3 (by decide) ?_
  refine lv_iand hx hb d_Ke_execute_5 ?_
  refine lv_istore_n (lv' := [(2, .int ((x_p0 >>> (3 &&& 31)) &&& 7)), (0, .ref h0), (1, .int x_p0)]) hx hb d_Ke_execute_6 rfl hl (by decide) rfl (fun ls hl => ?_)
  refine lv_iload_n hx hb d_Ke_execute_7 rfl (lv_at hl 2 rfl) ?_
  refine lv_bipush (v := 7) hx hb d_Ke_execute_8 (by decide) ?_
  refine lv_iand hx hb d_Ke_execute_10 ?_
  refine lv_istore_n (lv' := [(3, .int (x_p0 &&& 7)), (2, .int ((x_p0 >>> (3 &&& 31)) &&& 7)), (0, .ref h0), (1, .int x_p0)]) hx hb d_Ke_execute_11 rfl hl (by decide) rfl (fun ls hl => ?_)
  refine lv_iload_n hx hb d_Ke_execute_12 rfl (lv_at hl 3 rfl) ?_
  refine lv_bipush (v := 6) hx hb d_Ke_execute_13 (by decide) ?_
  refine lv_ishr hx hb d_Ke_execute_15 ?_
  by_cases c_1 : (x_p0 >>> (6 &&& 31)) = 1
  · refine lv_lookup (off := 28) (tgt := 44) hx hb d_Ke_execute_16 (by decide) (by rw [c_1]; decide +kernel) (by decide) ?_
    refine lv_aload_n hx hb d_Ke_execute_44 rfl (lv_at hl 2 rfl) ?_
    refine va_get (D := (dC, dI)) (ci := 1) (v := .ref a_slots) (C := "LabelledCore$Kernel") (T := T_Ke) (N := 2) hx hb hts in_Ke hown hK hP 0 rfl rfl 1 (by decide) (hts _ wm_111) (fun _ h9 => h9) rfl d_Ke_execute_45 ?_
    refine lv_iload_n hx hb d_Ke_execute_48 rfl (lv_at hl 1 rfl) ?_
    refine lv_dup2_11 hx hb d_Ke_execute_49 rfl rfl ?_
    refine va_iald hx hb hK hP 1 0 rfl rfl (in_and7 _) d_Ke_execute_50 ?_
    refine lv_aload_n hx hb d_Ke_execute_51 rfl (lv_at hl 2 rfl) ?_
    refine va_get (D := (dC, dI)) (ci := 1) (v := .ref a_slots) (C := "LabelledCore$Kernel") (T := T_Ke) (N := 2) hx hb hts in_Ke hown hK hP 0 rfl rfl 1 (by decide) (hts _ wm_111) (fun _ h9 => h9) rfl d_Ke_execute_52 ?_
    refine lv_iload_n hx hb d_Ke_execute_55 rfl (lv_at hl 0 rfl) ?_
    refine va_iald hx hb hK hP 1 0 rfl rfl (in_and7 _) d_Ke_execute_56 ?_
    refine lv_ior hx hb d_Ke_execute_57 ?_
    refine va_iast hx hb hK hP hD hS 1 0 rfl rfl (in_and7 _) d_Ke_execute_58 (fun H locs hP hD hS => ?_)
    have hP : va_P (dC, dI) clsL [(h0, .inr (1, [.ref a_code, .ref a_slots])), (a_slots, .inl (cI, 8, .inl (upd g_slots (Int32.toNatClampNeg ((x_p0 >>> (3 &&& 31)) &&& 7)) ((g_slots (Int32.toNatClampNeg ((x_p0 >>> (3 &&& 31)) &&& 7))) ||| (g_slots (Int32.toNatClampNeg (x_p0 &&& 7)))))))] H := hP
    have hD : va_D A [(h0, .inr (1, [.ref a_code, .ref a_slots])), (a_slots, .inl (cI, 8, .inl (upd g_slots (Int32.toNatClampNeg ((x_p0 >>> (3 &&& 31)) &&& 7)) ((g_slots (Int32.toNatClampNeg ((x_p0 >>> (3 &&& 31)) &&& 7))) ||| (g_slots (Int32.toNatClampNeg (x_p0 &&& 7)))))))] := hD
    refine lv_iconst (v := 1) hx hb d_Ke_execute_59 (by decide) ?_
    have ef : (f_Ke_execute g_slots x_p0) = ((1, (upd g_slots (Int32.toNatClampNeg ((x_p0 >>> (3 &&& 31)) &&& 7)) ((g_slots (Int32.toNatClampNeg ((x_p0 >>> (3 &&& 31)) &&& 7))) ||| (g_slots (Int32.toNatClampNeg (x_p0 &&& 7)))))) : Int32 × (Nat → Int32)) := (if_pos c_1).trans rfl
    have hP9 := hP.sub (ws' := [(h0, .inr (1, [.ref a_code, .ref a_slots])), (a_slots, .inl (cI, 8, .inl (upd g_slots (Int32.toNatClampNeg ((x_p0 >>> (3 &&& 31)) &&& 7)) ((g_slots (Int32.toNatClampNeg ((x_p0 >>> (3 &&& 31)) &&& 7))) ||| (g_slots (Int32.toNatClampNeg (x_p0 &&& 7)))))))]) [0, 1] rfl
    have hD9 := hD.sub (ws' := [(h0, .inr (1, [.ref a_code, .ref a_slots])), (a_slots, .inl (cI, 8, .inl (upd g_slots (Int32.toNatClampNeg ((x_p0 >>> (3 &&& 31)) &&& 7)) ((g_slots (Int32.toNatClampNeg ((x_p0 >>> (3 &&& 31)) &&& 7))) ||| (g_slots (Int32.toNatClampNeg (x_p0 &&& 7)))))))]) [0, 1] (by decide) rfl
    exact W.zret (v := 1) hx hb hr rfl (fun t ht hW => ⟨⟨1, (), rfl, by rw [ef], by rw [ef, ht]; exact hP9, va_K.moved hW.alike hK, by rw [ef]; exact hD9⟩, hS.F ht⟩) hS.2.2 d_Ke_execute_60
  · by_cases c_2 : (x_p0 >>> (6 &&& 31)) = 2
    · refine lv_lookup (off := 45) (tgt := 61) hx hb d_Ke_execute_16 (by decide) (by rw [c_2]; decide +kernel) (by decide) ?_
      refine lv_aload_n hx hb d_Ke_execute_61 rfl (lv_at hl 2 rfl) ?_
      refine va_get (D := (dC, dI)) (ci := 1) (v := .ref a_slots) (C := "LabelledCore$Kernel") (T := T_Ke) (N := 2) hx hb hts in_Ke hown hK hP 0 rfl rfl 1 (by decide) (hts _ wm_111) (fun _ h9 => h9) rfl d_Ke_execute_62 ?_
      refine lv_iload_n hx hb d_Ke_execute_65 rfl (lv_at hl 1 rfl) ?_
      refine lv_dup2_11 hx hb d_Ke_execute_66 rfl rfl ?_
      refine va_iald hx hb hK hP 1 0 rfl rfl (in_and7 _) d_Ke_execute_67 ?_
      refine lv_aload_n hx hb d_Ke_execute_68 rfl (lv_at hl 2 rfl) ?_
      refine va_get (D := (dC, dI)) (ci := 1) (v := .ref a_slots) (C := "LabelledCore$Kernel") (T := T_Ke) (N := 2) hx hb hts in_Ke hown hK hP 0 rfl rfl 1 (by decide) (hts _ wm_111) (fun _ h9 => h9) rfl d_Ke_execute_69 ?_
      refine lv_iload_n hx hb d_Ke_execute_72 rfl (lv_at hl 0 rfl) ?_
      refine va_iald hx hb hK hP 1 0 rfl rfl (in_and7 _) d_Ke_execute_73 ?_
      refine lv_iconst (v := (-1)) hx hb d_Ke_execute_74 (by decide) ?_
      refine lv_ixor hx hb d_Ke_execute_75 ?_
      refine lv_iand hx hb d_Ke_execute_76 ?_
      refine va_iast hx hb hK hP hD hS 1 0 rfl rfl (in_and7 _) d_Ke_execute_77 (fun H locs hP hD hS => ?_)
      have hP : va_P (dC, dI) clsL [(h0, .inr (1, [.ref a_code, .ref a_slots])), (a_slots, .inl (cI, 8, .inl (upd g_slots (Int32.toNatClampNeg ((x_p0 >>> (3 &&& 31)) &&& 7)) ((g_slots (Int32.toNatClampNeg ((x_p0 >>> (3 &&& 31)) &&& 7))) &&& ((g_slots (Int32.toNatClampNeg (x_p0 &&& 7))) ^^^ (-1))))))] H := hP
      have hD : va_D A [(h0, .inr (1, [.ref a_code, .ref a_slots])), (a_slots, .inl (cI, 8, .inl (upd g_slots (Int32.toNatClampNeg ((x_p0 >>> (3 &&& 31)) &&& 7)) ((g_slots (Int32.toNatClampNeg ((x_p0 >>> (3 &&& 31)) &&& 7))) &&& ((g_slots (Int32.toNatClampNeg (x_p0 &&& 7))) ^^^ (-1))))))] := hD
      refine lv_iconst (v := 1) hx hb d_Ke_execute_78 (by decide) ?_
      have ef : (f_Ke_execute g_slots x_p0) = ((1, (upd g_slots (Int32.toNatClampNeg ((x_p0 >>> (3 &&& 31)) &&& 7)) ((g_slots (Int32.toNatClampNeg ((x_p0 >>> (3 &&& 31)) &&& 7))) &&& ((g_slots (Int32.toNatClampNeg (x_p0 &&& 7))) ^^^ (-1))))) : Int32 × (Nat → Int32)) := (if_neg c_1).trans ((if_pos c_2).trans rfl)
      have hP9 := hP.sub (ws' := [(h0, .inr (1, [.ref a_code, .ref a_slots])), (a_slots, .inl (cI, 8, .inl (upd g_slots (Int32.toNatClampNeg ((x_p0 >>> (3 &&& 31)) &&& 7)) ((g_slots (Int32.toNatClampNeg ((x_p0 >>> (3 &&& 31)) &&& 7))) &&& ((g_slots (Int32.toNatClampNeg (x_p0 &&& 7))) ^^^ (-1))))))]) [0, 1] rfl
      have hD9 := hD.sub (ws' := [(h0, .inr (1, [.ref a_code, .ref a_slots])), (a_slots, .inl (cI, 8, .inl (upd g_slots (Int32.toNatClampNeg ((x_p0 >>> (3 &&& 31)) &&& 7)) ((g_slots (Int32.toNatClampNeg ((x_p0 >>> (3 &&& 31)) &&& 7))) &&& ((g_slots (Int32.toNatClampNeg (x_p0 &&& 7))) ^^^ (-1))))))]) [0, 1] (by decide) rfl
      exact W.zret (v := 1) hx hb hr rfl (fun t ht hW => ⟨⟨1, (), rfl, by rw [ef], by rw [ef, ht]; exact hP9, va_K.moved hW.alike hK, by rw [ef]; exact hD9⟩, hS.F ht⟩) hS.2.2 d_Ke_execute_79
    · refine lv_lookup (off := 64) (tgt := 80) hx hb d_Ke_execute_16 (by decide) (by rw [lv_osw c_1 (show (1 : Int32).toInt = 1 by decide), lv_osw c_2 (show (2 : Int32).toInt = 2 by decide)]; rfl) (by decide) ?_
      refine lv_iconst (v := 0) hx hb d_Ke_execute_80 (by decide) ?_
      have ef : (f_Ke_execute g_slots x_p0) = ((0, g_slots) : Int32 × (Nat → Int32)) := (if_neg c_1).trans ((if_neg c_2).trans rfl)
      have hP9 := hP.sub (ws' := [(h0, .inr (1, [.ref a_code, .ref a_slots])), (a_slots, .inl (cI, 8, .inl g_slots))]) [0, 1] rfl
      have hD9 := hD.sub (ws' := [(h0, .inr (1, [.ref a_code, .ref a_slots])), (a_slots, .inl (cI, 8, .inl g_slots))]) [0, 1] (by decide) rfl
      exact W.zret (v := 0) hx hb hr rfl (fun t ht hW => ⟨⟨0, (), rfl, by rw [ef], by rw [ef, ht]; exact hP9, va_K.moved hW.alike hK, by rw [ef]; exact hD9⟩, hS.F ht⟩) hS.2.2 d_Ke_execute_81
def f_Ke_allows (g_slots : Nat → Int32) : Int32 :=
  if (g_slots (Int32.toNatClampNeg 6)) = 0 then
    1
  else
    0
set_option maxHeartbeats 4000000 in
set_option maxRecDepth 100000 in
theorem ct_Ke_allows (l : Launch) (dC : Nat → ClassId) (dI : Nat → Nat → Nat) (cI : ClassId) (h0 a_code a_slots : Nat) (g_slots : Nat → Int32) : Met l y_Ke_allows w_Ke_allows ({ frames := 0, cells := 0, slots := 0, locals := 0 }) (pcR dC dI cI [(h0, .inr (1, [.ref a_code, .ref a_slots])), (a_slots, .inl (cI, 8, .inl g_slots))] [.ref h0]) (QcRead (f_Ke_allows g_slots)) 0 0 (fun _ => False) := by
  refine Met.ofW (cc := c_Ke_allows) (maxL := 1) (ret := (some .boolean)) (by decide) rfl ?_
  intro p e s m args below meth c s₁ B hml hv
  obtain ⟨rfl, hP, hK⟩ := hv
  have hx := B.exec
  have hb := B.bytes
  have hr := B.returns
  have hts : ∀ w ∈ wG, w.before _ s = true := fun w h => atoms_spec (ws := w_Ke_allows) B.pre w (List.mem_cons_of_mem _ h)
  have hown : s.vm.findClass "LabelledCore$Kernel" = some m.cls := findClass_of_methodNamed B.named
  have hlocks := B.notSynchronized
  have hl := lv_entry ([.ref h0]) (n := 1) (Nat.le_of_ble_eq_true rfl)
  rw [lg_entry_eq]
  generalize (lg_sl ([.ref h0]) ++ List.replicate (1 - (lg_sl ([.ref h0])).length) Slot.unset).toArray = ls at hl ⊢
  have hl : lv_has ls 1 [(0, .ref h0)] := hl
  refine lv_aload_n hx hb d_Ke_allows_0 rfl (lv_at hl 0 rfl) ?_
  refine va_get (D := (dC, dI)) (ci := 1) (v := .ref a_slots) (C := "LabelledCore$Kernel") (T := T_Ke) (N := 2) hx hb hts in_Ke hown hK hP 0 rfl rfl 1 (by decide) (hts _ wm_111) (fun _ h9 => h9) rfl d_Ke_allows_1 ?_
  refine lv_bipush (v := 6) hx hb d_Ke_allows_4 (by decide) ?_
  refine va_iald hx hb hK hP 1 0 rfl rfl (by unfold vp_in; decide) d_Ke_allows_6 ?_
  refine lv_if_ne (tgt := 14) hx hb d_Ke_allows_7 (by decide) (fun c_1 => ?_) (fun c_1 => ?_)
  · refine lv_iconst (v := 0) hx hb d_Ke_allows_14 (by decide) ?_
    have ef : (f_Ke_allows g_slots) = (0 : Int32) := (if_neg c_1).trans rfl
    exact W.zret (v := 0) hx hb hr rfl (fun t ht hW => ⟨by rw [ef], ht⟩) (fun _ h => by cases h) d_Ke_allows_15
  · refine lv_iconst (v := 1) hx hb d_Ke_allows_10 (by decide) ?_
    refine lv_goto (tgt := 15) hx hb d_Ke_allows_11 (by decide) ?_
    have ef : (f_Ke_allows g_slots) = (1 : Int32) := (if_pos c_1).trans rfl
    exact W.zret (v := 1) hx hb hr rfl (fun t ht hW => ⟨by rw [ef], ht⟩) (fun _ h => by cases h) d_Ke_allows_15
set_option maxHeartbeats 4000000 in
set_option maxRecDepth 100000 in
theorem ct_Ke_result (l : Launch) (dC : Nat → ClassId) (dI : Nat → Nat → Nat) (cI : ClassId) (h0 a_code a_slots : Nat) (g_slots : Nat → Int32) : Met l y_Ke_result w_Ke_result ({ frames := 0, cells := 0, slots := 0, locals := 0 }) (pcR dC dI cI [(h0, .inr (1, [.ref a_code, .ref a_slots])), (a_slots, .inl (cI, 8, .inl g_slots))] [.ref h0]) (QcRead (g_slots (Int32.toNatClampNeg 4))) 0 0 (fun _ => False) := by
  refine Met.ofW (cc := c_Ke_result) (maxL := 1) (ret := (some .int)) (by decide) rfl ?_
  intro p e s m args below meth c s₁ B hml hv
  obtain ⟨rfl, hP, hK⟩ := hv
  have hx := B.exec
  have hb := B.bytes
  have hr := B.returns
  have hts : ∀ w ∈ wG, w.before _ s = true := fun w h => atoms_spec (ws := w_Ke_result) B.pre w (List.mem_cons_of_mem _ h)
  have hown : s.vm.findClass "LabelledCore$Kernel" = some m.cls := findClass_of_methodNamed B.named
  have hlocks := B.notSynchronized
  have hl := lv_entry ([.ref h0]) (n := 1) (Nat.le_of_ble_eq_true rfl)
  rw [lg_entry_eq]
  generalize (lg_sl ([.ref h0]) ++ List.replicate (1 - (lg_sl ([.ref h0])).length) Slot.unset).toArray = ls at hl ⊢
  have hl : lv_has ls 1 [(0, .ref h0)] := hl
  refine lv_aload_n hx hb d_Ke_result_0 rfl (lv_at hl 0 rfl) ?_
  refine va_get (D := (dC, dI)) (ci := 1) (v := .ref a_slots) (C := "LabelledCore$Kernel") (T := T_Ke) (N := 2) hx hb hts in_Ke hown hK hP 0 rfl rfl 1 (by decide) (hts _ wm_111) (fun _ h9 => h9) rfl d_Ke_result_1 ?_
  refine lv_iconst (v := 4) hx hb d_Ke_result_4 (by decide) ?_
  refine va_iald hx hb hK hP 1 0 rfl rfl (by unfold vp_in; decide) d_Ke_result_5 ?_
  exact W.iret (v := (g_slots (Int32.toNatClampNeg 4))) hx hb hr (fun t ht hW => ⟨rfl, ht⟩) (fun _ h => by cases h) d_Ke_result_6
set_option maxHeartbeats 4000000 in
set_option maxRecDepth 100000 in
theorem ct_Ke_next (l : Launch) (dC : Nat → ClassId) (dI : Nat → Nat → Nat) (cI : ClassId) (h0 a_code a_slots : Nat) (g_slots : Nat → Int32) : Met l y_Ke_next w_Ke_next ({ frames := 0, cells := 0, slots := 0, locals := 0 }) (pcR dC dI cI [(h0, .inr (1, [.ref a_code, .ref a_slots])), (a_slots, .inl (cI, 8, .inl g_slots))] [.ref h0]) (QcRead (g_slots (Int32.toNatClampNeg 5))) 0 0 (fun _ => False) := by
  refine Met.ofW (cc := c_Ke_next) (maxL := 1) (ret := (some .int)) (by decide) rfl ?_
  intro p e s m args below meth c s₁ B hml hv
  obtain ⟨rfl, hP, hK⟩ := hv
  have hx := B.exec
  have hb := B.bytes
  have hr := B.returns
  have hts : ∀ w ∈ wG, w.before _ s = true := fun w h => atoms_spec (ws := w_Ke_next) B.pre w (List.mem_cons_of_mem _ h)
  have hown : s.vm.findClass "LabelledCore$Kernel" = some m.cls := findClass_of_methodNamed B.named
  have hlocks := B.notSynchronized
  have hl := lv_entry ([.ref h0]) (n := 1) (Nat.le_of_ble_eq_true rfl)
  rw [lg_entry_eq]
  generalize (lg_sl ([.ref h0]) ++ List.replicate (1 - (lg_sl ([.ref h0])).length) Slot.unset).toArray = ls at hl ⊢
  have hl : lv_has ls 1 [(0, .ref h0)] := hl
  refine lv_aload_n hx hb d_Ke_next_0 rfl (lv_at hl 0 rfl) ?_
  refine va_get (D := (dC, dI)) (ci := 1) (v := .ref a_slots) (C := "LabelledCore$Kernel") (T := T_Ke) (N := 2) hx hb hts in_Ke hown hK hP 0 rfl rfl 1 (by decide) (hts _ wm_111) (fun _ h9 => h9) rfl d_Ke_next_1 ?_
  refine lv_iconst (v := 5) hx hb d_Ke_next_4 (by decide) ?_
  refine va_iald hx hb hK hP 1 0 rfl rfl (by unfold vp_in; decide) d_Ke_next_5 ?_
  exact W.iret (v := (g_slots (Int32.toNatClampNeg 5))) hx hb hr (fun t ht hW => ⟨rfl, ht⟩) (fun _ h => by cases h) d_Ke_next_6
